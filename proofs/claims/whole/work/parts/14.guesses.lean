def f_X2_thingsOf0 (xg : Nat) : Int32 :=
  (f_X8_withBit (0 : Int32) ((nI ((xg / 4) + 0)) &&& (7 : Int32)) (1 : Int32))
set_option maxHeartbeats 4000000 in
set_option maxRecDepth 100000 in
theorem c_X2_thingsOf0 (l : Launch) (D : va_G) (cI cJ cZ : ClassId) (xg : Nat) (hxg : xg < 32) (hxr : xg % 4 = 0) : RO l yX2_thingsOf wsX2_thingsOf ({ frames := 1, cells := 0, slots := 0, locals := 22 }) [.int (nI xg)] D cI cJ cZ [] (.int (f_X2_thingsOf0 xg)) := by
  obtain ⟨R, hR⟩ : ∃ R, (f_X2_thingsOf0 xg) = R := ⟨_, rfl⟩
  rw [hR]
  refine ro_start (cc := cX2_thingsOf) (maxL := 5) (ret := (some .int)) (by decide) rfl (Nat.le_of_ble_eq_true rfl) ?_
  intro p e s m args below meth c hx hb hr hml hown hts hlocks hP hK ls hl
  have hown : s.vm.findClass RX2 = some m.cls := hown
  have hl : lv_has ls 5 [(0, .int (nI xg))] := hl
  have hq0 := hts (.initialized RX8) (by decide +kernel)
  have hq1 := hts (.static yX8_withBit) (by decide +kernel)
  rw [f_X2_thingsOf0] at hR
  refine lv_iload_n hx hb dX2_thingsOf_0 rfl (lv_at hl 0 rfl) ?_
  refine lv_iconst (v := (4 : Int32)) hx hb dX2_thingsOf_1 (by decide) ?_
  refine lv_idiv hx hb dX2_thingsOf_2 (by decide) ?_
  rw [show ((nI xg) / (4 : Int32)) = (nI (xg / 4)) from pk_div (a := xg) (d := 4) (by omega) (by decide) (by decide)]
  refine lv_istore_n (lv' := [(1, .int (nI (xg / 4))), (0, .int (nI xg))]) hx hb dX2_thingsOf_3 rfl hl (by decide) rfl (fun ls hl => ?_)
  refine lv_iload_n hx hb dX2_thingsOf_4 rfl (lv_at hl 1 rfl) ?_
  refine lv_iconst (v := (4 : Int32)) hx hb dX2_thingsOf_5 (by decide) ?_
  refine lv_irem hx hb dX2_thingsOf_6 (by decide) ?_
  rw [show ((nI xg) - (nI xg) / (4 : Int32) * (4 : Int32)) = (nI (xg % 4)) from pk_rem (a := xg) (d := 4) (by omega) (by decide) (by decide)]
  rw [show (nI (xg % 4)) = (0 : Int32) from (congrArg nI hxr)]
  refine lv_istore_n (lv' := [(2, .int (0 : Int32)), (1, .int (nI (xg / 4))), (0, .int (nI xg))]) hx hb dX2_thingsOf_7 rfl hl (by decide) rfl (fun ls hl => ?_)
  refine lv_iconst (v := (0 : Int32)) hx hb dX2_thingsOf_8 (by decide) ?_
  refine lv_istore_n (lv' := [(3, .int (0 : Int32)), (2, .int (0 : Int32)), (1, .int (nI (xg / 4))), (0, .int (nI xg))]) hx hb dX2_thingsOf_9 rfl hl (by decide) rfl (fun ls hl => ?_)
  refine lv_iload_n hx hb dX2_thingsOf_10 rfl (lv_at hl 1 rfl) ?_
  refine lv_ineg hx hb dX2_thingsOf_11 ?_
  refine lv_istore (lv' := [(4, .int (0 : Int32)), (3, .int (0 : Int32)), (2, .int (0 : Int32)), (1, .int (nI (xg / 4))), (0, .int (nI xg))]) hx hb dX2_thingsOf_12 hl (by decide) rfl (fun ls hl => ?_)
  refine lv_iload hx hb dX2_thingsOf_14 (lv_at hl 0 rfl) ?_
  refine lv_iload_n hx hb dX2_thingsOf_16 rfl (lv_at hl 2 rfl) ?_
  refine lv_icmp_gt (tgt := 39) hx hb dX2_thingsOf_17 (by decide) (fun h => absurd h (by decide)) (fun _ => ?_)
  refine lv_iload_n hx hb dX2_thingsOf_20 rfl (lv_at hl 1 rfl) ?_
  refine lv_iload_n hx hb dX2_thingsOf_21 rfl (lv_at hl 3 rfl) ?_
  refine lv_iload hx hb dX2_thingsOf_22 (lv_at hl 0 rfl) ?_
  refine lv_iadd hx hb dX2_thingsOf_24 ?_
  rw [show ((nI (xg / 4)) + (0 : Int32)) = (nI ((xg / 4) + 0)) from nI_add (xg / 4) 0]
  refine lv_bipush (v := (7 : Int32)) hx hb dX2_thingsOf_25 (by decide +kernel) ?_
  refine lv_iand hx hb dX2_thingsOf_27 ?_
  refine lv_iconst (v := (1 : Int32)) hx hb dX2_thingsOf_28 (by decide) ?_
  refine ro_SN (As := [.int (0 : Int32), .int ((nI ((xg / 4) + 0)) &&& (7 : Int32)), .int (1 : Int32)]) (rest := []) ⟨hx, hb, hml, hown, hts⟩ hK (c_X8_withBit l D cI cJ cZ (0 : Int32) ((nI ((xg / 4) + 0)) &&& (7 : Int32)) (1 : Int32)) va_P_nil (va_cnB 3 hts gX2_thingsOf_X8_withBit_n48 rfl rfl rfl (hK.2 _ gN_47) hq0 hd_X8_withBit ⟨(Nat.le_of_ble_eq_true rfl), (Nat.le_of_ble_eq_true rfl)⟩) hq1 rfl hl.1 rfl (Nat.le_of_ble_eq_true rfl) dX2_thingsOf_29 (Nat.zero_le _) (Nat.zero_le _) ?_
  refine lv_istore_n (lv' := [(3, .int (f_X8_withBit (0 : Int32) ((nI ((xg / 4) + 0)) &&& (7 : Int32)) (1 : Int32))), (4, .int (0 : Int32)), (2, .int (0 : Int32)), (1, .int (nI (xg / 4))), (0, .int (nI xg))]) hx hb dX2_thingsOf_32 rfl hl (by decide) rfl (fun ls hl => ?_)
  refine lv_iinc (v := (1 : Int32)) (lv' := [(4, .int (1 : Int32)), (3, .int (f_X8_withBit (0 : Int32) ((nI ((xg / 4) + 0)) &&& (7 : Int32)) (1 : Int32))), (2, .int (0 : Int32)), (1, .int (nI (xg / 4))), (0, .int (nI xg))]) hx hb dX2_thingsOf_33 hl (k := 1) rfl (by decide) (by decide) rfl (fun ls hl => ?_)
  refine lv_goto (tgt := 14) hx hb dX2_thingsOf_36 (by decide) ?_
  refine lv_iload hx hb dX2_thingsOf_14 (lv_at hl 0 rfl) ?_
  refine lv_iload_n hx hb dX2_thingsOf_16 rfl (lv_at hl 2 rfl) ?_
  refine lv_icmp_gt (tgt := 39) hx hb dX2_thingsOf_17 (by decide) (fun _ => ?_) (fun h => absurd (by decide) h)
  refine lv_iload_n hx hb dX2_thingsOf_39 rfl (lv_at hl 1 rfl) ?_
  subst hR
  exact ro_iret hx hb hr hlocks dX2_thingsOf_40


def f_X2_thingsOf1 (xg : Nat) : Int32 :=
  (f_X8_withBit (f_X8_withBit (f_X8_withBit (0 : Int32) (((nI (xg / 4)) + (-1 : Int32)) &&& (7 : Int32)) (1 : Int32)) ((nI ((xg / 4) + 0)) &&& (7 : Int32)) (1 : Int32)) ((nI ((xg / 4) + 1)) &&& (7 : Int32)) (1 : Int32))
set_option maxHeartbeats 4000000 in
set_option maxRecDepth 100000 in
theorem c_X2_thingsOf1 (l : Launch) (D : va_G) (cI cJ cZ : ClassId) (xg : Nat) (hxg : xg < 32) (hxr : xg % 4 = 1) : RO l yX2_thingsOf wsX2_thingsOf ({ frames := 1, cells := 0, slots := 0, locals := 22 }) [.int (nI xg)] D cI cJ cZ [] (.int (f_X2_thingsOf1 xg)) := by
  obtain ⟨R, hR⟩ : ∃ R, (f_X2_thingsOf1 xg) = R := ⟨_, rfl⟩
  rw [hR]
  refine ro_start (cc := cX2_thingsOf) (maxL := 5) (ret := (some .int)) (by decide) rfl (Nat.le_of_ble_eq_true rfl) ?_
  intro p e s m args below meth c hx hb hr hml hown hts hlocks hP hK ls hl
  have hown : s.vm.findClass RX2 = some m.cls := hown
  have hl : lv_has ls 5 [(0, .int (nI xg))] := hl
  have hq0 := hts (.initialized RX8) (by decide +kernel)
  have hq1 := hts (.static yX8_withBit) (by decide +kernel)
  rw [f_X2_thingsOf1] at hR
  refine lv_iload_n hx hb dX2_thingsOf_0 rfl (lv_at hl 0 rfl) ?_
  refine lv_iconst (v := (4 : Int32)) hx hb dX2_thingsOf_1 (by decide) ?_
  refine lv_idiv hx hb dX2_thingsOf_2 (by decide) ?_
  rw [show ((nI xg) / (4 : Int32)) = (nI (xg / 4)) from pk_div (a := xg) (d := 4) (by omega) (by decide) (by decide)]
  refine lv_istore_n (lv' := [(1, .int (nI (xg / 4))), (0, .int (nI xg))]) hx hb dX2_thingsOf_3 rfl hl (by decide) rfl (fun ls hl => ?_)
  refine lv_iload_n hx hb dX2_thingsOf_4 rfl (lv_at hl 1 rfl) ?_
  refine lv_iconst (v := (4 : Int32)) hx hb dX2_thingsOf_5 (by decide) ?_
  refine lv_irem hx hb dX2_thingsOf_6 (by decide) ?_
  rw [show ((nI xg) - (nI xg) / (4 : Int32) * (4 : Int32)) = (nI (xg % 4)) from pk_rem (a := xg) (d := 4) (by omega) (by decide) (by decide)]
  rw [show (nI (xg % 4)) = (1 : Int32) from (congrArg nI hxr)]
  refine lv_istore_n (lv' := [(2, .int (1 : Int32)), (1, .int (nI (xg / 4))), (0, .int (nI xg))]) hx hb dX2_thingsOf_7 rfl hl (by decide) rfl (fun ls hl => ?_)
  refine lv_iconst (v := (0 : Int32)) hx hb dX2_thingsOf_8 (by decide) ?_
  refine lv_istore_n (lv' := [(3, .int (0 : Int32)), (2, .int (1 : Int32)), (1, .int (nI (xg / 4))), (0, .int (nI xg))]) hx hb dX2_thingsOf_9 rfl hl (by decide) rfl (fun ls hl => ?_)
  refine lv_iload_n hx hb dX2_thingsOf_10 rfl (lv_at hl 1 rfl) ?_
  refine lv_ineg hx hb dX2_thingsOf_11 ?_
  refine lv_istore (lv' := [(4, .int (-1 : Int32)), (3, .int (0 : Int32)), (2, .int (1 : Int32)), (1, .int (nI (xg / 4))), (0, .int (nI xg))]) hx hb dX2_thingsOf_12 hl (by decide) rfl (fun ls hl => ?_)
  refine lv_iload hx hb dX2_thingsOf_14 (lv_at hl 0 rfl) ?_
  refine lv_iload_n hx hb dX2_thingsOf_16 rfl (lv_at hl 2 rfl) ?_
  refine lv_icmp_gt (tgt := 39) hx hb dX2_thingsOf_17 (by decide) (fun h => absurd h (by decide)) (fun _ => ?_)
  refine lv_iload_n hx hb dX2_thingsOf_20 rfl (lv_at hl 1 rfl) ?_
  refine lv_iload_n hx hb dX2_thingsOf_21 rfl (lv_at hl 3 rfl) ?_
  refine lv_iload hx hb dX2_thingsOf_22 (lv_at hl 0 rfl) ?_
  refine lv_iadd hx hb dX2_thingsOf_24 ?_
  refine lv_bipush (v := (7 : Int32)) hx hb dX2_thingsOf_25 (by decide +kernel) ?_
  refine lv_iand hx hb dX2_thingsOf_27 ?_
  refine lv_iconst (v := (1 : Int32)) hx hb dX2_thingsOf_28 (by decide) ?_
  refine ro_SN (As := [.int (0 : Int32), .int (((nI (xg / 4)) + (-1 : Int32)) &&& (7 : Int32)), .int (1 : Int32)]) (rest := []) ⟨hx, hb, hml, hown, hts⟩ hK (c_X8_withBit l D cI cJ cZ (0 : Int32) (((nI (xg / 4)) + (-1 : Int32)) &&& (7 : Int32)) (1 : Int32)) va_P_nil (va_cnB 3 hts gX2_thingsOf_X8_withBit_n48 rfl rfl rfl (hK.2 _ gN_47) hq0 hd_X8_withBit ⟨(Nat.le_of_ble_eq_true rfl), (Nat.le_of_ble_eq_true rfl)⟩) hq1 rfl hl.1 rfl (Nat.le_of_ble_eq_true rfl) dX2_thingsOf_29 (Nat.zero_le _) (Nat.zero_le _) ?_
  refine lv_istore_n (lv' := [(3, .int (f_X8_withBit (0 : Int32) (((nI (xg / 4)) + (-1 : Int32)) &&& (7 : Int32)) (1 : Int32))), (4, .int (-1 : Int32)), (2, .int (1 : Int32)), (1, .int (nI (xg / 4))), (0, .int (nI xg))]) hx hb dX2_thingsOf_32 rfl hl (by decide) rfl (fun ls hl => ?_)
  refine lv_iinc (v := (0 : Int32)) (lv' := [(4, .int (0 : Int32)), (3, .int (f_X8_withBit (0 : Int32) (((nI (xg / 4)) + (-1 : Int32)) &&& (7 : Int32)) (1 : Int32))), (2, .int (1 : Int32)), (1, .int (nI (xg / 4))), (0, .int (nI xg))]) hx hb dX2_thingsOf_33 hl (k := 1) rfl (by decide) (by decide) rfl (fun ls hl => ?_)
  refine lv_goto (tgt := 14) hx hb dX2_thingsOf_36 (by decide) ?_
  refine lv_iload hx hb dX2_thingsOf_14 (lv_at hl 0 rfl) ?_
  refine lv_iload_n hx hb dX2_thingsOf_16 rfl (lv_at hl 2 rfl) ?_
  refine lv_icmp_gt (tgt := 39) hx hb dX2_thingsOf_17 (by decide) (fun h => absurd h (by decide)) (fun _ => ?_)
  refine lv_iload_n hx hb dX2_thingsOf_20 rfl (lv_at hl 1 rfl) ?_
  refine lv_iload_n hx hb dX2_thingsOf_21 rfl (lv_at hl 3 rfl) ?_
  refine lv_iload hx hb dX2_thingsOf_22 (lv_at hl 0 rfl) ?_
  refine lv_iadd hx hb dX2_thingsOf_24 ?_
  rw [show ((nI (xg / 4)) + (0 : Int32)) = (nI ((xg / 4) + 0)) from nI_add (xg / 4) 0]
  refine lv_bipush (v := (7 : Int32)) hx hb dX2_thingsOf_25 (by decide +kernel) ?_
  refine lv_iand hx hb dX2_thingsOf_27 ?_
  refine lv_iconst (v := (1 : Int32)) hx hb dX2_thingsOf_28 (by decide) ?_
  refine ro_SN (As := [.int (f_X8_withBit (0 : Int32) (((nI (xg / 4)) + (-1 : Int32)) &&& (7 : Int32)) (1 : Int32)), .int ((nI ((xg / 4) + 0)) &&& (7 : Int32)), .int (1 : Int32)]) (rest := []) ⟨hx, hb, hml, hown, hts⟩ hK (c_X8_withBit l D cI cJ cZ (f_X8_withBit (0 : Int32) (((nI (xg / 4)) + (-1 : Int32)) &&& (7 : Int32)) (1 : Int32)) ((nI ((xg / 4) + 0)) &&& (7 : Int32)) (1 : Int32)) va_P_nil (va_cnB 3 hts gX2_thingsOf_X8_withBit_n48 rfl rfl rfl (hK.2 _ gN_47) hq0 hd_X8_withBit ⟨(Nat.le_of_ble_eq_true rfl), (Nat.le_of_ble_eq_true rfl)⟩) hq1 rfl hl.1 rfl (Nat.le_of_ble_eq_true rfl) dX2_thingsOf_29 (Nat.zero_le _) (Nat.zero_le _) ?_
  refine lv_istore_n (lv' := [(3, .int (f_X8_withBit (f_X8_withBit (0 : Int32) (((nI (xg / 4)) + (-1 : Int32)) &&& (7 : Int32)) (1 : Int32)) ((nI ((xg / 4) + 0)) &&& (7 : Int32)) (1 : Int32))), (4, .int (0 : Int32)), (2, .int (1 : Int32)), (1, .int (nI (xg / 4))), (0, .int (nI xg))]) hx hb dX2_thingsOf_32 rfl hl (by decide) rfl (fun ls hl => ?_)
  refine lv_iinc (v := (1 : Int32)) (lv' := [(4, .int (1 : Int32)), (3, .int (f_X8_withBit (f_X8_withBit (0 : Int32) (((nI (xg / 4)) + (-1 : Int32)) &&& (7 : Int32)) (1 : Int32)) ((nI ((xg / 4) + 0)) &&& (7 : Int32)) (1 : Int32))), (2, .int (1 : Int32)), (1, .int (nI (xg / 4))), (0, .int (nI xg))]) hx hb dX2_thingsOf_33 hl (k := 1) rfl (by decide) (by decide) rfl (fun ls hl => ?_)
  refine lv_goto (tgt := 14) hx hb dX2_thingsOf_36 (by decide) ?_
  refine lv_iload hx hb dX2_thingsOf_14 (lv_at hl 0 rfl) ?_
  refine lv_iload_n hx hb dX2_thingsOf_16 rfl (lv_at hl 2 rfl) ?_
  refine lv_icmp_gt (tgt := 39) hx hb dX2_thingsOf_17 (by decide) (fun h => absurd h (by decide)) (fun _ => ?_)
  refine lv_iload_n hx hb dX2_thingsOf_20 rfl (lv_at hl 1 rfl) ?_
  refine lv_iload_n hx hb dX2_thingsOf_21 rfl (lv_at hl 3 rfl) ?_
  refine lv_iload hx hb dX2_thingsOf_22 (lv_at hl 0 rfl) ?_
  refine lv_iadd hx hb dX2_thingsOf_24 ?_
  rw [show ((nI (xg / 4)) + (1 : Int32)) = (nI ((xg / 4) + 1)) from nI_add (xg / 4) 1]
  refine lv_bipush (v := (7 : Int32)) hx hb dX2_thingsOf_25 (by decide +kernel) ?_
  refine lv_iand hx hb dX2_thingsOf_27 ?_
  refine lv_iconst (v := (1 : Int32)) hx hb dX2_thingsOf_28 (by decide) ?_
  refine ro_SN (As := [.int (f_X8_withBit (f_X8_withBit (0 : Int32) (((nI (xg / 4)) + (-1 : Int32)) &&& (7 : Int32)) (1 : Int32)) ((nI ((xg / 4) + 0)) &&& (7 : Int32)) (1 : Int32)), .int ((nI ((xg / 4) + 1)) &&& (7 : Int32)), .int (1 : Int32)]) (rest := []) ⟨hx, hb, hml, hown, hts⟩ hK (c_X8_withBit l D cI cJ cZ (f_X8_withBit (f_X8_withBit (0 : Int32) (((nI (xg / 4)) + (-1 : Int32)) &&& (7 : Int32)) (1 : Int32)) ((nI ((xg / 4) + 0)) &&& (7 : Int32)) (1 : Int32)) ((nI ((xg / 4) + 1)) &&& (7 : Int32)) (1 : Int32)) va_P_nil (va_cnB 3 hts gX2_thingsOf_X8_withBit_n48 rfl rfl rfl (hK.2 _ gN_47) hq0 hd_X8_withBit ⟨(Nat.le_of_ble_eq_true rfl), (Nat.le_of_ble_eq_true rfl)⟩) hq1 rfl hl.1 rfl (Nat.le_of_ble_eq_true rfl) dX2_thingsOf_29 (Nat.zero_le _) (Nat.zero_le _) ?_
  refine lv_istore_n (lv' := [(3, .int (f_X8_withBit (f_X8_withBit (f_X8_withBit (0 : Int32) (((nI (xg / 4)) + (-1 : Int32)) &&& (7 : Int32)) (1 : Int32)) ((nI ((xg / 4) + 0)) &&& (7 : Int32)) (1 : Int32)) ((nI ((xg / 4) + 1)) &&& (7 : Int32)) (1 : Int32))), (4, .int (1 : Int32)), (2, .int (1 : Int32)), (1, .int (nI (xg / 4))), (0, .int (nI xg))]) hx hb dX2_thingsOf_32 rfl hl (by decide) rfl (fun ls hl => ?_)
  refine lv_iinc (v := (2 : Int32)) (lv' := [(4, .int (2 : Int32)), (3, .int (f_X8_withBit (f_X8_withBit (f_X8_withBit (0 : Int32) (((nI (xg / 4)) + (-1 : Int32)) &&& (7 : Int32)) (1 : Int32)) ((nI ((xg / 4) + 0)) &&& (7 : Int32)) (1 : Int32)) ((nI ((xg / 4) + 1)) &&& (7 : Int32)) (1 : Int32))), (2, .int (1 : Int32)), (1, .int (nI (xg / 4))), (0, .int (nI xg))]) hx hb dX2_thingsOf_33 hl (k := 1) rfl (by decide) (by decide) rfl (fun ls hl => ?_)
  refine lv_goto (tgt := 14) hx hb dX2_thingsOf_36 (by decide) ?_
  refine lv_iload hx hb dX2_thingsOf_14 (lv_at hl 0 rfl) ?_
  refine lv_iload_n hx hb dX2_thingsOf_16 rfl (lv_at hl 2 rfl) ?_
  refine lv_icmp_gt (tgt := 39) hx hb dX2_thingsOf_17 (by decide) (fun _ => ?_) (fun h => absurd (by decide) h)
  refine lv_iload_n hx hb dX2_thingsOf_39 rfl (lv_at hl 1 rfl) ?_
  subst hR
  exact ro_iret hx hb hr hlocks dX2_thingsOf_40


def f_X2_thingsOf2 (xg : Nat) : Int32 :=
  (f_X8_withBit (f_X8_withBit (f_X8_withBit (f_X8_withBit (f_X8_withBit (0 : Int32) (((nI (xg / 4)) + (-2 : Int32)) &&& (7 : Int32)) (1 : Int32)) (((nI (xg / 4)) + (-1 : Int32)) &&& (7 : Int32)) (1 : Int32)) ((nI ((xg / 4) + 0)) &&& (7 : Int32)) (1 : Int32)) ((nI ((xg / 4) + 1)) &&& (7 : Int32)) (1 : Int32)) ((nI ((xg / 4) + 2)) &&& (7 : Int32)) (1 : Int32))
set_option maxHeartbeats 4000000 in
set_option maxRecDepth 100000 in
theorem c_X2_thingsOf2 (l : Launch) (D : va_G) (cI cJ cZ : ClassId) (xg : Nat) (hxg : xg < 32) (hxr : xg % 4 = 2) : RO l yX2_thingsOf wsX2_thingsOf ({ frames := 1, cells := 0, slots := 0, locals := 22 }) [.int (nI xg)] D cI cJ cZ [] (.int (f_X2_thingsOf2 xg)) := by
  obtain ⟨R, hR⟩ : ∃ R, (f_X2_thingsOf2 xg) = R := ⟨_, rfl⟩
  rw [hR]
  refine ro_start (cc := cX2_thingsOf) (maxL := 5) (ret := (some .int)) (by decide) rfl (Nat.le_of_ble_eq_true rfl) ?_
  intro p e s m args below meth c hx hb hr hml hown hts hlocks hP hK ls hl
  have hown : s.vm.findClass RX2 = some m.cls := hown
  have hl : lv_has ls 5 [(0, .int (nI xg))] := hl
  have hq0 := hts (.initialized RX8) (by decide +kernel)
  have hq1 := hts (.static yX8_withBit) (by decide +kernel)
  rw [f_X2_thingsOf2] at hR
  refine lv_iload_n hx hb dX2_thingsOf_0 rfl (lv_at hl 0 rfl) ?_
  refine lv_iconst (v := (4 : Int32)) hx hb dX2_thingsOf_1 (by decide) ?_
  refine lv_idiv hx hb dX2_thingsOf_2 (by decide) ?_
  rw [show ((nI xg) / (4 : Int32)) = (nI (xg / 4)) from pk_div (a := xg) (d := 4) (by omega) (by decide) (by decide)]
  refine lv_istore_n (lv' := [(1, .int (nI (xg / 4))), (0, .int (nI xg))]) hx hb dX2_thingsOf_3 rfl hl (by decide) rfl (fun ls hl => ?_)
  refine lv_iload_n hx hb dX2_thingsOf_4 rfl (lv_at hl 1 rfl) ?_
  refine lv_iconst (v := (4 : Int32)) hx hb dX2_thingsOf_5 (by decide) ?_
  refine lv_irem hx hb dX2_thingsOf_6 (by decide) ?_
  rw [show ((nI xg) - (nI xg) / (4 : Int32) * (4 : Int32)) = (nI (xg % 4)) from pk_rem (a := xg) (d := 4) (by omega) (by decide) (by decide)]
  rw [show (nI (xg % 4)) = (2 : Int32) from (congrArg nI hxr)]
  refine lv_istore_n (lv' := [(2, .int (2 : Int32)), (1, .int (nI (xg / 4))), (0, .int (nI xg))]) hx hb dX2_thingsOf_7 rfl hl (by decide) rfl (fun ls hl => ?_)
  refine lv_iconst (v := (0 : Int32)) hx hb dX2_thingsOf_8 (by decide) ?_
  refine lv_istore_n (lv' := [(3, .int (0 : Int32)), (2, .int (2 : Int32)), (1, .int (nI (xg / 4))), (0, .int (nI xg))]) hx hb dX2_thingsOf_9 rfl hl (by decide) rfl (fun ls hl => ?_)
  refine lv_iload_n hx hb dX2_thingsOf_10 rfl (lv_at hl 1 rfl) ?_
  refine lv_ineg hx hb dX2_thingsOf_11 ?_
  refine lv_istore (lv' := [(4, .int (-2 : Int32)), (3, .int (0 : Int32)), (2, .int (2 : Int32)), (1, .int (nI (xg / 4))), (0, .int (nI xg))]) hx hb dX2_thingsOf_12 hl (by decide) rfl (fun ls hl => ?_)
  refine lv_iload hx hb dX2_thingsOf_14 (lv_at hl 0 rfl) ?_
  refine lv_iload_n hx hb dX2_thingsOf_16 rfl (lv_at hl 2 rfl) ?_
  refine lv_icmp_gt (tgt := 39) hx hb dX2_thingsOf_17 (by decide) (fun h => absurd h (by decide)) (fun _ => ?_)
  refine lv_iload_n hx hb dX2_thingsOf_20 rfl (lv_at hl 1 rfl) ?_
  refine lv_iload_n hx hb dX2_thingsOf_21 rfl (lv_at hl 3 rfl) ?_
  refine lv_iload hx hb dX2_thingsOf_22 (lv_at hl 0 rfl) ?_
  refine lv_iadd hx hb dX2_thingsOf_24 ?_
  refine lv_bipush (v := (7 : Int32)) hx hb dX2_thingsOf_25 (by decide +kernel) ?_
  refine lv_iand hx hb dX2_thingsOf_27 ?_
  refine lv_iconst (v := (1 : Int32)) hx hb dX2_thingsOf_28 (by decide) ?_
  refine ro_SN (As := [.int (0 : Int32), .int (((nI (xg / 4)) + (-2 : Int32)) &&& (7 : Int32)), .int (1 : Int32)]) (rest := []) ⟨hx, hb, hml, hown, hts⟩ hK (c_X8_withBit l D cI cJ cZ (0 : Int32) (((nI (xg / 4)) + (-2 : Int32)) &&& (7 : Int32)) (1 : Int32)) va_P_nil (va_cnB 3 hts gX2_thingsOf_X8_withBit_n48 rfl rfl rfl (hK.2 _ gN_47) hq0 hd_X8_withBit ⟨(Nat.le_of_ble_eq_true rfl), (Nat.le_of_ble_eq_true rfl)⟩) hq1 rfl hl.1 rfl (Nat.le_of_ble_eq_true rfl) dX2_thingsOf_29 (Nat.zero_le _) (Nat.zero_le _) ?_
  refine lv_istore_n (lv' := [(3, .int (f_X8_withBit (0 : Int32) (((nI (xg / 4)) + (-2 : Int32)) &&& (7 : Int32)) (1 : Int32))), (4, .int (-2 : Int32)), (2, .int (2 : Int32)), (1, .int (nI (xg / 4))), (0, .int (nI xg))]) hx hb dX2_thingsOf_32 rfl hl (by decide) rfl (fun ls hl => ?_)
  refine lv_iinc (v := (-1 : Int32)) (lv' := [(4, .int (-1 : Int32)), (3, .int (f_X8_withBit (0 : Int32) (((nI (xg / 4)) + (-2 : Int32)) &&& (7 : Int32)) (1 : Int32))), (2, .int (2 : Int32)), (1, .int (nI (xg / 4))), (0, .int (nI xg))]) hx hb dX2_thingsOf_33 hl (k := 1) rfl (by decide) (by decide) rfl (fun ls hl => ?_)
  refine lv_goto (tgt := 14) hx hb dX2_thingsOf_36 (by decide) ?_
  refine lv_iload hx hb dX2_thingsOf_14 (lv_at hl 0 rfl) ?_
  refine lv_iload_n hx hb dX2_thingsOf_16 rfl (lv_at hl 2 rfl) ?_
  refine lv_icmp_gt (tgt := 39) hx hb dX2_thingsOf_17 (by decide) (fun h => absurd h (by decide)) (fun _ => ?_)
  refine lv_iload_n hx hb dX2_thingsOf_20 rfl (lv_at hl 1 rfl) ?_
  refine lv_iload_n hx hb dX2_thingsOf_21 rfl (lv_at hl 3 rfl) ?_
  refine lv_iload hx hb dX2_thingsOf_22 (lv_at hl 0 rfl) ?_
  refine lv_iadd hx hb dX2_thingsOf_24 ?_
  refine lv_bipush (v := (7 : Int32)) hx hb dX2_thingsOf_25 (by decide +kernel) ?_
  refine lv_iand hx hb dX2_thingsOf_27 ?_
  refine lv_iconst (v := (1 : Int32)) hx hb dX2_thingsOf_28 (by decide) ?_
  refine ro_SN (As := [.int (f_X8_withBit (0 : Int32) (((nI (xg / 4)) + (-2 : Int32)) &&& (7 : Int32)) (1 : Int32)), .int (((nI (xg / 4)) + (-1 : Int32)) &&& (7 : Int32)), .int (1 : Int32)]) (rest := []) ⟨hx, hb, hml, hown, hts⟩ hK (c_X8_withBit l D cI cJ cZ (f_X8_withBit (0 : Int32) (((nI (xg / 4)) + (-2 : Int32)) &&& (7 : Int32)) (1 : Int32)) (((nI (xg / 4)) + (-1 : Int32)) &&& (7 : Int32)) (1 : Int32)) va_P_nil (va_cnB 3 hts gX2_thingsOf_X8_withBit_n48 rfl rfl rfl (hK.2 _ gN_47) hq0 hd_X8_withBit ⟨(Nat.le_of_ble_eq_true rfl), (Nat.le_of_ble_eq_true rfl)⟩) hq1 rfl hl.1 rfl (Nat.le_of_ble_eq_true rfl) dX2_thingsOf_29 (Nat.zero_le _) (Nat.zero_le _) ?_
  refine lv_istore_n (lv' := [(3, .int (f_X8_withBit (f_X8_withBit (0 : Int32) (((nI (xg / 4)) + (-2 : Int32)) &&& (7 : Int32)) (1 : Int32)) (((nI (xg / 4)) + (-1 : Int32)) &&& (7 : Int32)) (1 : Int32))), (4, .int (-1 : Int32)), (2, .int (2 : Int32)), (1, .int (nI (xg / 4))), (0, .int (nI xg))]) hx hb dX2_thingsOf_32 rfl hl (by decide) rfl (fun ls hl => ?_)
  refine lv_iinc (v := (0 : Int32)) (lv' := [(4, .int (0 : Int32)), (3, .int (f_X8_withBit (f_X8_withBit (0 : Int32) (((nI (xg / 4)) + (-2 : Int32)) &&& (7 : Int32)) (1 : Int32)) (((nI (xg / 4)) + (-1 : Int32)) &&& (7 : Int32)) (1 : Int32))), (2, .int (2 : Int32)), (1, .int (nI (xg / 4))), (0, .int (nI xg))]) hx hb dX2_thingsOf_33 hl (k := 1) rfl (by decide) (by decide) rfl (fun ls hl => ?_)
  refine lv_goto (tgt := 14) hx hb dX2_thingsOf_36 (by decide) ?_
  refine lv_iload hx hb dX2_thingsOf_14 (lv_at hl 0 rfl) ?_
  refine lv_iload_n hx hb dX2_thingsOf_16 rfl (lv_at hl 2 rfl) ?_
  refine lv_icmp_gt (tgt := 39) hx hb dX2_thingsOf_17 (by decide) (fun h => absurd h (by decide)) (fun _ => ?_)
  refine lv_iload_n hx hb dX2_thingsOf_20 rfl (lv_at hl 1 rfl) ?_
  refine lv_iload_n hx hb dX2_thingsOf_21 rfl (lv_at hl 3 rfl) ?_
  refine lv_iload hx hb dX2_thingsOf_22 (lv_at hl 0 rfl) ?_
  refine lv_iadd hx hb dX2_thingsOf_24 ?_
  rw [show ((nI (xg / 4)) + (0 : Int32)) = (nI ((xg / 4) + 0)) from nI_add (xg / 4) 0]
  refine lv_bipush (v := (7 : Int32)) hx hb dX2_thingsOf_25 (by decide +kernel) ?_
  refine lv_iand hx hb dX2_thingsOf_27 ?_
  refine lv_iconst (v := (1 : Int32)) hx hb dX2_thingsOf_28 (by decide) ?_
  refine ro_SN (As := [.int (f_X8_withBit (f_X8_withBit (0 : Int32) (((nI (xg / 4)) + (-2 : Int32)) &&& (7 : Int32)) (1 : Int32)) (((nI (xg / 4)) + (-1 : Int32)) &&& (7 : Int32)) (1 : Int32)), .int ((nI ((xg / 4) + 0)) &&& (7 : Int32)), .int (1 : Int32)]) (rest := []) ⟨hx, hb, hml, hown, hts⟩ hK (c_X8_withBit l D cI cJ cZ (f_X8_withBit (f_X8_withBit (0 : Int32) (((nI (xg / 4)) + (-2 : Int32)) &&& (7 : Int32)) (1 : Int32)) (((nI (xg / 4)) + (-1 : Int32)) &&& (7 : Int32)) (1 : Int32)) ((nI ((xg / 4) + 0)) &&& (7 : Int32)) (1 : Int32)) va_P_nil (va_cnB 3 hts gX2_thingsOf_X8_withBit_n48 rfl rfl rfl (hK.2 _ gN_47) hq0 hd_X8_withBit ⟨(Nat.le_of_ble_eq_true rfl), (Nat.le_of_ble_eq_true rfl)⟩) hq1 rfl hl.1 rfl (Nat.le_of_ble_eq_true rfl) dX2_thingsOf_29 (Nat.zero_le _) (Nat.zero_le _) ?_
  refine lv_istore_n (lv' := [(3, .int (f_X8_withBit (f_X8_withBit (f_X8_withBit (0 : Int32) (((nI (xg / 4)) + (-2 : Int32)) &&& (7 : Int32)) (1 : Int32)) (((nI (xg / 4)) + (-1 : Int32)) &&& (7 : Int32)) (1 : Int32)) ((nI ((xg / 4) + 0)) &&& (7 : Int32)) (1 : Int32))), (4, .int (0 : Int32)), (2, .int (2 : Int32)), (1, .int (nI (xg / 4))), (0, .int (nI xg))]) hx hb dX2_thingsOf_32 rfl hl (by decide) rfl (fun ls hl => ?_)
  refine lv_iinc (v := (1 : Int32)) (lv' := [(4, .int (1 : Int32)), (3, .int (f_X8_withBit (f_X8_withBit (f_X8_withBit (0 : Int32) (((nI (xg / 4)) + (-2 : Int32)) &&& (7 : Int32)) (1 : Int32)) (((nI (xg / 4)) + (-1 : Int32)) &&& (7 : Int32)) (1 : Int32)) ((nI ((xg / 4) + 0)) &&& (7 : Int32)) (1 : Int32))), (2, .int (2 : Int32)), (1, .int (nI (xg / 4))), (0, .int (nI xg))]) hx hb dX2_thingsOf_33 hl (k := 1) rfl (by decide) (by decide) rfl (fun ls hl => ?_)
  refine lv_goto (tgt := 14) hx hb dX2_thingsOf_36 (by decide) ?_
  refine lv_iload hx hb dX2_thingsOf_14 (lv_at hl 0 rfl) ?_
  refine lv_iload_n hx hb dX2_thingsOf_16 rfl (lv_at hl 2 rfl) ?_
  refine lv_icmp_gt (tgt := 39) hx hb dX2_thingsOf_17 (by decide) (fun h => absurd h (by decide)) (fun _ => ?_)
  refine lv_iload_n hx hb dX2_thingsOf_20 rfl (lv_at hl 1 rfl) ?_
  refine lv_iload_n hx hb dX2_thingsOf_21 rfl (lv_at hl 3 rfl) ?_
  refine lv_iload hx hb dX2_thingsOf_22 (lv_at hl 0 rfl) ?_
  refine lv_iadd hx hb dX2_thingsOf_24 ?_
  rw [show ((nI (xg / 4)) + (1 : Int32)) = (nI ((xg / 4) + 1)) from nI_add (xg / 4) 1]
  refine lv_bipush (v := (7 : Int32)) hx hb dX2_thingsOf_25 (by decide +kernel) ?_
  refine lv_iand hx hb dX2_thingsOf_27 ?_
  refine lv_iconst (v := (1 : Int32)) hx hb dX2_thingsOf_28 (by decide) ?_
  refine ro_SN (As := [.int (f_X8_withBit (f_X8_withBit (f_X8_withBit (0 : Int32) (((nI (xg / 4)) + (-2 : Int32)) &&& (7 : Int32)) (1 : Int32)) (((nI (xg / 4)) + (-1 : Int32)) &&& (7 : Int32)) (1 : Int32)) ((nI ((xg / 4) + 0)) &&& (7 : Int32)) (1 : Int32)), .int ((nI ((xg / 4) + 1)) &&& (7 : Int32)), .int (1 : Int32)]) (rest := []) ⟨hx, hb, hml, hown, hts⟩ hK (c_X8_withBit l D cI cJ cZ (f_X8_withBit (f_X8_withBit (f_X8_withBit (0 : Int32) (((nI (xg / 4)) + (-2 : Int32)) &&& (7 : Int32)) (1 : Int32)) (((nI (xg / 4)) + (-1 : Int32)) &&& (7 : Int32)) (1 : Int32)) ((nI ((xg / 4) + 0)) &&& (7 : Int32)) (1 : Int32)) ((nI ((xg / 4) + 1)) &&& (7 : Int32)) (1 : Int32)) va_P_nil (va_cnB 3 hts gX2_thingsOf_X8_withBit_n48 rfl rfl rfl (hK.2 _ gN_47) hq0 hd_X8_withBit ⟨(Nat.le_of_ble_eq_true rfl), (Nat.le_of_ble_eq_true rfl)⟩) hq1 rfl hl.1 rfl (Nat.le_of_ble_eq_true rfl) dX2_thingsOf_29 (Nat.zero_le _) (Nat.zero_le _) ?_
  refine lv_istore_n (lv' := [(3, .int (f_X8_withBit (f_X8_withBit (f_X8_withBit (f_X8_withBit (0 : Int32) (((nI (xg / 4)) + (-2 : Int32)) &&& (7 : Int32)) (1 : Int32)) (((nI (xg / 4)) + (-1 : Int32)) &&& (7 : Int32)) (1 : Int32)) ((nI ((xg / 4) + 0)) &&& (7 : Int32)) (1 : Int32)) ((nI ((xg / 4) + 1)) &&& (7 : Int32)) (1 : Int32))), (4, .int (1 : Int32)), (2, .int (2 : Int32)), (1, .int (nI (xg / 4))), (0, .int (nI xg))]) hx hb dX2_thingsOf_32 rfl hl (by decide) rfl (fun ls hl => ?_)
  refine lv_iinc (v := (2 : Int32)) (lv' := [(4, .int (2 : Int32)), (3, .int (f_X8_withBit (f_X8_withBit (f_X8_withBit (f_X8_withBit (0 : Int32) (((nI (xg / 4)) + (-2 : Int32)) &&& (7 : Int32)) (1 : Int32)) (((nI (xg / 4)) + (-1 : Int32)) &&& (7 : Int32)) (1 : Int32)) ((nI ((xg / 4) + 0)) &&& (7 : Int32)) (1 : Int32)) ((nI ((xg / 4) + 1)) &&& (7 : Int32)) (1 : Int32))), (2, .int (2 : Int32)), (1, .int (nI (xg / 4))), (0, .int (nI xg))]) hx hb dX2_thingsOf_33 hl (k := 1) rfl (by decide) (by decide) rfl (fun ls hl => ?_)
  refine lv_goto (tgt := 14) hx hb dX2_thingsOf_36 (by decide) ?_
  refine lv_iload hx hb dX2_thingsOf_14 (lv_at hl 0 rfl) ?_
  refine lv_iload_n hx hb dX2_thingsOf_16 rfl (lv_at hl 2 rfl) ?_
  refine lv_icmp_gt (tgt := 39) hx hb dX2_thingsOf_17 (by decide) (fun h => absurd h (by decide)) (fun _ => ?_)
  refine lv_iload_n hx hb dX2_thingsOf_20 rfl (lv_at hl 1 rfl) ?_
  refine lv_iload_n hx hb dX2_thingsOf_21 rfl (lv_at hl 3 rfl) ?_
  refine lv_iload hx hb dX2_thingsOf_22 (lv_at hl 0 rfl) ?_
  refine lv_iadd hx hb dX2_thingsOf_24 ?_
  rw [show ((nI (xg / 4)) + (2 : Int32)) = (nI ((xg / 4) + 2)) from nI_add (xg / 4) 2]
  refine lv_bipush (v := (7 : Int32)) hx hb dX2_thingsOf_25 (by decide +kernel) ?_
  refine lv_iand hx hb dX2_thingsOf_27 ?_
  refine lv_iconst (v := (1 : Int32)) hx hb dX2_thingsOf_28 (by decide) ?_
  refine ro_SN (As := [.int (f_X8_withBit (f_X8_withBit (f_X8_withBit (f_X8_withBit (0 : Int32) (((nI (xg / 4)) + (-2 : Int32)) &&& (7 : Int32)) (1 : Int32)) (((nI (xg / 4)) + (-1 : Int32)) &&& (7 : Int32)) (1 : Int32)) ((nI ((xg / 4) + 0)) &&& (7 : Int32)) (1 : Int32)) ((nI ((xg / 4) + 1)) &&& (7 : Int32)) (1 : Int32)), .int ((nI ((xg / 4) + 2)) &&& (7 : Int32)), .int (1 : Int32)]) (rest := []) ⟨hx, hb, hml, hown, hts⟩ hK (c_X8_withBit l D cI cJ cZ (f_X8_withBit (f_X8_withBit (f_X8_withBit (f_X8_withBit (0 : Int32) (((nI (xg / 4)) + (-2 : Int32)) &&& (7 : Int32)) (1 : Int32)) (((nI (xg / 4)) + (-1 : Int32)) &&& (7 : Int32)) (1 : Int32)) ((nI ((xg / 4) + 0)) &&& (7 : Int32)) (1 : Int32)) ((nI ((xg / 4) + 1)) &&& (7 : Int32)) (1 : Int32)) ((nI ((xg / 4) + 2)) &&& (7 : Int32)) (1 : Int32)) va_P_nil (va_cnB 3 hts gX2_thingsOf_X8_withBit_n48 rfl rfl rfl (hK.2 _ gN_47) hq0 hd_X8_withBit ⟨(Nat.le_of_ble_eq_true rfl), (Nat.le_of_ble_eq_true rfl)⟩) hq1 rfl hl.1 rfl (Nat.le_of_ble_eq_true rfl) dX2_thingsOf_29 (Nat.zero_le _) (Nat.zero_le _) ?_
  refine lv_istore_n (lv' := [(3, .int (f_X8_withBit (f_X8_withBit (f_X8_withBit (f_X8_withBit (f_X8_withBit (0 : Int32) (((nI (xg / 4)) + (-2 : Int32)) &&& (7 : Int32)) (1 : Int32)) (((nI (xg / 4)) + (-1 : Int32)) &&& (7 : Int32)) (1 : Int32)) ((nI ((xg / 4) + 0)) &&& (7 : Int32)) (1 : Int32)) ((nI ((xg / 4) + 1)) &&& (7 : Int32)) (1 : Int32)) ((nI ((xg / 4) + 2)) &&& (7 : Int32)) (1 : Int32))), (4, .int (2 : Int32)), (2, .int (2 : Int32)), (1, .int (nI (xg / 4))), (0, .int (nI xg))]) hx hb dX2_thingsOf_32 rfl hl (by decide) rfl (fun ls hl => ?_)
  refine lv_iinc (v := (3 : Int32)) (lv' := [(4, .int (3 : Int32)), (3, .int (f_X8_withBit (f_X8_withBit (f_X8_withBit (f_X8_withBit (f_X8_withBit (0 : Int32) (((nI (xg / 4)) + (-2 : Int32)) &&& (7 : Int32)) (1 : Int32)) (((nI (xg / 4)) + (-1 : Int32)) &&& (7 : Int32)) (1 : Int32)) ((nI ((xg / 4) + 0)) &&& (7 : Int32)) (1 : Int32)) ((nI ((xg / 4) + 1)) &&& (7 : Int32)) (1 : Int32)) ((nI ((xg / 4) + 2)) &&& (7 : Int32)) (1 : Int32))), (2, .int (2 : Int32)), (1, .int (nI (xg / 4))), (0, .int (nI xg))]) hx hb dX2_thingsOf_33 hl (k := 1) rfl (by decide) (by decide) rfl (fun ls hl => ?_)
  refine lv_goto (tgt := 14) hx hb dX2_thingsOf_36 (by decide) ?_
  refine lv_iload hx hb dX2_thingsOf_14 (lv_at hl 0 rfl) ?_
  refine lv_iload_n hx hb dX2_thingsOf_16 rfl (lv_at hl 2 rfl) ?_
  refine lv_icmp_gt (tgt := 39) hx hb dX2_thingsOf_17 (by decide) (fun _ => ?_) (fun h => absurd (by decide) h)
  refine lv_iload_n hx hb dX2_thingsOf_39 rfl (lv_at hl 1 rfl) ?_
  subst hR
  exact ro_iret hx hb hr hlocks dX2_thingsOf_40


def f_X2_thingsOf3 (xg : Nat) : Int32 :=
  (f_X8_withBit (f_X8_withBit (f_X8_withBit (f_X8_withBit (f_X8_withBit (f_X8_withBit (f_X8_withBit (0 : Int32) (((nI (xg / 4)) + (-3 : Int32)) &&& (7 : Int32)) (1 : Int32)) (((nI (xg / 4)) + (-2 : Int32)) &&& (7 : Int32)) (1 : Int32)) (((nI (xg / 4)) + (-1 : Int32)) &&& (7 : Int32)) (1 : Int32)) ((nI ((xg / 4) + 0)) &&& (7 : Int32)) (1 : Int32)) ((nI ((xg / 4) + 1)) &&& (7 : Int32)) (1 : Int32)) ((nI ((xg / 4) + 2)) &&& (7 : Int32)) (1 : Int32)) ((nI ((xg / 4) + 3)) &&& (7 : Int32)) (1 : Int32))
set_option maxHeartbeats 4000000 in
set_option maxRecDepth 100000 in
theorem c_X2_thingsOf3 (l : Launch) (D : va_G) (cI cJ cZ : ClassId) (xg : Nat) (hxg : xg < 32) (hxr : xg % 4 = 3) : RO l yX2_thingsOf wsX2_thingsOf ({ frames := 1, cells := 0, slots := 0, locals := 22 }) [.int (nI xg)] D cI cJ cZ [] (.int (f_X2_thingsOf3 xg)) := by
  obtain ⟨R, hR⟩ : ∃ R, (f_X2_thingsOf3 xg) = R := ⟨_, rfl⟩
  rw [hR]
  refine ro_start (cc := cX2_thingsOf) (maxL := 5) (ret := (some .int)) (by decide) rfl (Nat.le_of_ble_eq_true rfl) ?_
  intro p e s m args below meth c hx hb hr hml hown hts hlocks hP hK ls hl
  have hown : s.vm.findClass RX2 = some m.cls := hown
  have hl : lv_has ls 5 [(0, .int (nI xg))] := hl
  have hq0 := hts (.initialized RX8) (by decide +kernel)
  have hq1 := hts (.static yX8_withBit) (by decide +kernel)
  rw [f_X2_thingsOf3] at hR
  refine lv_iload_n hx hb dX2_thingsOf_0 rfl (lv_at hl 0 rfl) ?_
  refine lv_iconst (v := (4 : Int32)) hx hb dX2_thingsOf_1 (by decide) ?_
  refine lv_idiv hx hb dX2_thingsOf_2 (by decide) ?_
  rw [show ((nI xg) / (4 : Int32)) = (nI (xg / 4)) from pk_div (a := xg) (d := 4) (by omega) (by decide) (by decide)]
  refine lv_istore_n (lv' := [(1, .int (nI (xg / 4))), (0, .int (nI xg))]) hx hb dX2_thingsOf_3 rfl hl (by decide) rfl (fun ls hl => ?_)
  refine lv_iload_n hx hb dX2_thingsOf_4 rfl (lv_at hl 1 rfl) ?_
  refine lv_iconst (v := (4 : Int32)) hx hb dX2_thingsOf_5 (by decide) ?_
  refine lv_irem hx hb dX2_thingsOf_6 (by decide) ?_
  rw [show ((nI xg) - (nI xg) / (4 : Int32) * (4 : Int32)) = (nI (xg % 4)) from pk_rem (a := xg) (d := 4) (by omega) (by decide) (by decide)]
  rw [show (nI (xg % 4)) = (3 : Int32) from (congrArg nI hxr)]
  refine lv_istore_n (lv' := [(2, .int (3 : Int32)), (1, .int (nI (xg / 4))), (0, .int (nI xg))]) hx hb dX2_thingsOf_7 rfl hl (by decide) rfl (fun ls hl => ?_)
  refine lv_iconst (v := (0 : Int32)) hx hb dX2_thingsOf_8 (by decide) ?_
  refine lv_istore_n (lv' := [(3, .int (0 : Int32)), (2, .int (3 : Int32)), (1, .int (nI (xg / 4))), (0, .int (nI xg))]) hx hb dX2_thingsOf_9 rfl hl (by decide) rfl (fun ls hl => ?_)
  refine lv_iload_n hx hb dX2_thingsOf_10 rfl (lv_at hl 1 rfl) ?_
  refine lv_ineg hx hb dX2_thingsOf_11 ?_
  refine lv_istore (lv' := [(4, .int (-3 : Int32)), (3, .int (0 : Int32)), (2, .int (3 : Int32)), (1, .int (nI (xg / 4))), (0, .int (nI xg))]) hx hb dX2_thingsOf_12 hl (by decide) rfl (fun ls hl => ?_)
  refine lv_iload hx hb dX2_thingsOf_14 (lv_at hl 0 rfl) ?_
  refine lv_iload_n hx hb dX2_thingsOf_16 rfl (lv_at hl 2 rfl) ?_
  refine lv_icmp_gt (tgt := 39) hx hb dX2_thingsOf_17 (by decide) (fun h => absurd h (by decide)) (fun _ => ?_)
  refine lv_iload_n hx hb dX2_thingsOf_20 rfl (lv_at hl 1 rfl) ?_
  refine lv_iload_n hx hb dX2_thingsOf_21 rfl (lv_at hl 3 rfl) ?_
  refine lv_iload hx hb dX2_thingsOf_22 (lv_at hl 0 rfl) ?_
  refine lv_iadd hx hb dX2_thingsOf_24 ?_
  refine lv_bipush (v := (7 : Int32)) hx hb dX2_thingsOf_25 (by decide +kernel) ?_
  refine lv_iand hx hb dX2_thingsOf_27 ?_
  refine lv_iconst (v := (1 : Int32)) hx hb dX2_thingsOf_28 (by decide) ?_
  refine ro_SN (As := [.int (0 : Int32), .int (((nI (xg / 4)) + (-3 : Int32)) &&& (7 : Int32)), .int (1 : Int32)]) (rest := []) ⟨hx, hb, hml, hown, hts⟩ hK (c_X8_withBit l D cI cJ cZ (0 : Int32) (((nI (xg / 4)) + (-3 : Int32)) &&& (7 : Int32)) (1 : Int32)) va_P_nil (va_cnB 3 hts gX2_thingsOf_X8_withBit_n48 rfl rfl rfl (hK.2 _ gN_47) hq0 hd_X8_withBit ⟨(Nat.le_of_ble_eq_true rfl), (Nat.le_of_ble_eq_true rfl)⟩) hq1 rfl hl.1 rfl (Nat.le_of_ble_eq_true rfl) dX2_thingsOf_29 (Nat.zero_le _) (Nat.zero_le _) ?_
  refine lv_istore_n (lv' := [(3, .int (f_X8_withBit (0 : Int32) (((nI (xg / 4)) + (-3 : Int32)) &&& (7 : Int32)) (1 : Int32))), (4, .int (-3 : Int32)), (2, .int (3 : Int32)), (1, .int (nI (xg / 4))), (0, .int (nI xg))]) hx hb dX2_thingsOf_32 rfl hl (by decide) rfl (fun ls hl => ?_)
  refine lv_iinc (v := (-2 : Int32)) (lv' := [(4, .int (-2 : Int32)), (3, .int (f_X8_withBit (0 : Int32) (((nI (xg / 4)) + (-3 : Int32)) &&& (7 : Int32)) (1 : Int32))), (2, .int (3 : Int32)), (1, .int (nI (xg / 4))), (0, .int (nI xg))]) hx hb dX2_thingsOf_33 hl (k := 1) rfl (by decide) (by decide) rfl (fun ls hl => ?_)
  refine lv_goto (tgt := 14) hx hb dX2_thingsOf_36 (by decide) ?_
  refine lv_iload hx hb dX2_thingsOf_14 (lv_at hl 0 rfl) ?_
  refine lv_iload_n hx hb dX2_thingsOf_16 rfl (lv_at hl 2 rfl) ?_
  refine lv_icmp_gt (tgt := 39) hx hb dX2_thingsOf_17 (by decide) (fun h => absurd h (by decide)) (fun _ => ?_)
  refine lv_iload_n hx hb dX2_thingsOf_20 rfl (lv_at hl 1 rfl) ?_
  refine lv_iload_n hx hb dX2_thingsOf_21 rfl (lv_at hl 3 rfl) ?_
  refine lv_iload hx hb dX2_thingsOf_22 (lv_at hl 0 rfl) ?_
  refine lv_iadd hx hb dX2_thingsOf_24 ?_
  refine lv_bipush (v := (7 : Int32)) hx hb dX2_thingsOf_25 (by decide +kernel) ?_
  refine lv_iand hx hb dX2_thingsOf_27 ?_
  refine lv_iconst (v := (1 : Int32)) hx hb dX2_thingsOf_28 (by decide) ?_
  refine ro_SN (As := [.int (f_X8_withBit (0 : Int32) (((nI (xg / 4)) + (-3 : Int32)) &&& (7 : Int32)) (1 : Int32)), .int (((nI (xg / 4)) + (-2 : Int32)) &&& (7 : Int32)), .int (1 : Int32)]) (rest := []) ⟨hx, hb, hml, hown, hts⟩ hK (c_X8_withBit l D cI cJ cZ (f_X8_withBit (0 : Int32) (((nI (xg / 4)) + (-3 : Int32)) &&& (7 : Int32)) (1 : Int32)) (((nI (xg / 4)) + (-2 : Int32)) &&& (7 : Int32)) (1 : Int32)) va_P_nil (va_cnB 3 hts gX2_thingsOf_X8_withBit_n48 rfl rfl rfl (hK.2 _ gN_47) hq0 hd_X8_withBit ⟨(Nat.le_of_ble_eq_true rfl), (Nat.le_of_ble_eq_true rfl)⟩) hq1 rfl hl.1 rfl (Nat.le_of_ble_eq_true rfl) dX2_thingsOf_29 (Nat.zero_le _) (Nat.zero_le _) ?_
  refine lv_istore_n (lv' := [(3, .int (f_X8_withBit (f_X8_withBit (0 : Int32) (((nI (xg / 4)) + (-3 : Int32)) &&& (7 : Int32)) (1 : Int32)) (((nI (xg / 4)) + (-2 : Int32)) &&& (7 : Int32)) (1 : Int32))), (4, .int (-2 : Int32)), (2, .int (3 : Int32)), (1, .int (nI (xg / 4))), (0, .int (nI xg))]) hx hb dX2_thingsOf_32 rfl hl (by decide) rfl (fun ls hl => ?_)
  refine lv_iinc (v := (-1 : Int32)) (lv' := [(4, .int (-1 : Int32)), (3, .int (f_X8_withBit (f_X8_withBit (0 : Int32) (((nI (xg / 4)) + (-3 : Int32)) &&& (7 : Int32)) (1 : Int32)) (((nI (xg / 4)) + (-2 : Int32)) &&& (7 : Int32)) (1 : Int32))), (2, .int (3 : Int32)), (1, .int (nI (xg / 4))), (0, .int (nI xg))]) hx hb dX2_thingsOf_33 hl (k := 1) rfl (by decide) (by decide) rfl (fun ls hl => ?_)
  refine lv_goto (tgt := 14) hx hb dX2_thingsOf_36 (by decide) ?_
  refine lv_iload hx hb dX2_thingsOf_14 (lv_at hl 0 rfl) ?_
  refine lv_iload_n hx hb dX2_thingsOf_16 rfl (lv_at hl 2 rfl) ?_
  refine lv_icmp_gt (tgt := 39) hx hb dX2_thingsOf_17 (by decide) (fun h => absurd h (by decide)) (fun _ => ?_)
  refine lv_iload_n hx hb dX2_thingsOf_20 rfl (lv_at hl 1 rfl) ?_
  refine lv_iload_n hx hb dX2_thingsOf_21 rfl (lv_at hl 3 rfl) ?_
  refine lv_iload hx hb dX2_thingsOf_22 (lv_at hl 0 rfl) ?_
  refine lv_iadd hx hb dX2_thingsOf_24 ?_
  refine lv_bipush (v := (7 : Int32)) hx hb dX2_thingsOf_25 (by decide +kernel) ?_
  refine lv_iand hx hb dX2_thingsOf_27 ?_
  refine lv_iconst (v := (1 : Int32)) hx hb dX2_thingsOf_28 (by decide) ?_
  refine ro_SN (As := [.int (f_X8_withBit (f_X8_withBit (0 : Int32) (((nI (xg / 4)) + (-3 : Int32)) &&& (7 : Int32)) (1 : Int32)) (((nI (xg / 4)) + (-2 : Int32)) &&& (7 : Int32)) (1 : Int32)), .int (((nI (xg / 4)) + (-1 : Int32)) &&& (7 : Int32)), .int (1 : Int32)]) (rest := []) ⟨hx, hb, hml, hown, hts⟩ hK (c_X8_withBit l D cI cJ cZ (f_X8_withBit (f_X8_withBit (0 : Int32) (((nI (xg / 4)) + (-3 : Int32)) &&& (7 : Int32)) (1 : Int32)) (((nI (xg / 4)) + (-2 : Int32)) &&& (7 : Int32)) (1 : Int32)) (((nI (xg / 4)) + (-1 : Int32)) &&& (7 : Int32)) (1 : Int32)) va_P_nil (va_cnB 3 hts gX2_thingsOf_X8_withBit_n48 rfl rfl rfl (hK.2 _ gN_47) hq0 hd_X8_withBit ⟨(Nat.le_of_ble_eq_true rfl), (Nat.le_of_ble_eq_true rfl)⟩) hq1 rfl hl.1 rfl (Nat.le_of_ble_eq_true rfl) dX2_thingsOf_29 (Nat.zero_le _) (Nat.zero_le _) ?_
  refine lv_istore_n (lv' := [(3, .int (f_X8_withBit (f_X8_withBit (f_X8_withBit (0 : Int32) (((nI (xg / 4)) + (-3 : Int32)) &&& (7 : Int32)) (1 : Int32)) (((nI (xg / 4)) + (-2 : Int32)) &&& (7 : Int32)) (1 : Int32)) (((nI (xg / 4)) + (-1 : Int32)) &&& (7 : Int32)) (1 : Int32))), (4, .int (-1 : Int32)), (2, .int (3 : Int32)), (1, .int (nI (xg / 4))), (0, .int (nI xg))]) hx hb dX2_thingsOf_32 rfl hl (by decide) rfl (fun ls hl => ?_)
  refine lv_iinc (v := (0 : Int32)) (lv' := [(4, .int (0 : Int32)), (3, .int (f_X8_withBit (f_X8_withBit (f_X8_withBit (0 : Int32) (((nI (xg / 4)) + (-3 : Int32)) &&& (7 : Int32)) (1 : Int32)) (((nI (xg / 4)) + (-2 : Int32)) &&& (7 : Int32)) (1 : Int32)) (((nI (xg / 4)) + (-1 : Int32)) &&& (7 : Int32)) (1 : Int32))), (2, .int (3 : Int32)), (1, .int (nI (xg / 4))), (0, .int (nI xg))]) hx hb dX2_thingsOf_33 hl (k := 1) rfl (by decide) (by decide) rfl (fun ls hl => ?_)
  refine lv_goto (tgt := 14) hx hb dX2_thingsOf_36 (by decide) ?_
  refine lv_iload hx hb dX2_thingsOf_14 (lv_at hl 0 rfl) ?_
  refine lv_iload_n hx hb dX2_thingsOf_16 rfl (lv_at hl 2 rfl) ?_
  refine lv_icmp_gt (tgt := 39) hx hb dX2_thingsOf_17 (by decide) (fun h => absurd h (by decide)) (fun _ => ?_)
  refine lv_iload_n hx hb dX2_thingsOf_20 rfl (lv_at hl 1 rfl) ?_
  refine lv_iload_n hx hb dX2_thingsOf_21 rfl (lv_at hl 3 rfl) ?_
  refine lv_iload hx hb dX2_thingsOf_22 (lv_at hl 0 rfl) ?_
  refine lv_iadd hx hb dX2_thingsOf_24 ?_
  rw [show ((nI (xg / 4)) + (0 : Int32)) = (nI ((xg / 4) + 0)) from nI_add (xg / 4) 0]
  refine lv_bipush (v := (7 : Int32)) hx hb dX2_thingsOf_25 (by decide +kernel) ?_
  refine lv_iand hx hb dX2_thingsOf_27 ?_
  refine lv_iconst (v := (1 : Int32)) hx hb dX2_thingsOf_28 (by decide) ?_
  refine ro_SN (As := [.int (f_X8_withBit (f_X8_withBit (f_X8_withBit (0 : Int32) (((nI (xg / 4)) + (-3 : Int32)) &&& (7 : Int32)) (1 : Int32)) (((nI (xg / 4)) + (-2 : Int32)) &&& (7 : Int32)) (1 : Int32)) (((nI (xg / 4)) + (-1 : Int32)) &&& (7 : Int32)) (1 : Int32)), .int ((nI ((xg / 4) + 0)) &&& (7 : Int32)), .int (1 : Int32)]) (rest := []) ⟨hx, hb, hml, hown, hts⟩ hK (c_X8_withBit l D cI cJ cZ (f_X8_withBit (f_X8_withBit (f_X8_withBit (0 : Int32) (((nI (xg / 4)) + (-3 : Int32)) &&& (7 : Int32)) (1 : Int32)) (((nI (xg / 4)) + (-2 : Int32)) &&& (7 : Int32)) (1 : Int32)) (((nI (xg / 4)) + (-1 : Int32)) &&& (7 : Int32)) (1 : Int32)) ((nI ((xg / 4) + 0)) &&& (7 : Int32)) (1 : Int32)) va_P_nil (va_cnB 3 hts gX2_thingsOf_X8_withBit_n48 rfl rfl rfl (hK.2 _ gN_47) hq0 hd_X8_withBit ⟨(Nat.le_of_ble_eq_true rfl), (Nat.le_of_ble_eq_true rfl)⟩) hq1 rfl hl.1 rfl (Nat.le_of_ble_eq_true rfl) dX2_thingsOf_29 (Nat.zero_le _) (Nat.zero_le _) ?_
  refine lv_istore_n (lv' := [(3, .int (f_X8_withBit (f_X8_withBit (f_X8_withBit (f_X8_withBit (0 : Int32) (((nI (xg / 4)) + (-3 : Int32)) &&& (7 : Int32)) (1 : Int32)) (((nI (xg / 4)) + (-2 : Int32)) &&& (7 : Int32)) (1 : Int32)) (((nI (xg / 4)) + (-1 : Int32)) &&& (7 : Int32)) (1 : Int32)) ((nI ((xg / 4) + 0)) &&& (7 : Int32)) (1 : Int32))), (4, .int (0 : Int32)), (2, .int (3 : Int32)), (1, .int (nI (xg / 4))), (0, .int (nI xg))]) hx hb dX2_thingsOf_32 rfl hl (by decide) rfl (fun ls hl => ?_)
  refine lv_iinc (v := (1 : Int32)) (lv' := [(4, .int (1 : Int32)), (3, .int (f_X8_withBit (f_X8_withBit (f_X8_withBit (f_X8_withBit (0 : Int32) (((nI (xg / 4)) + (-3 : Int32)) &&& (7 : Int32)) (1 : Int32)) (((nI (xg / 4)) + (-2 : Int32)) &&& (7 : Int32)) (1 : Int32)) (((nI (xg / 4)) + (-1 : Int32)) &&& (7 : Int32)) (1 : Int32)) ((nI ((xg / 4) + 0)) &&& (7 : Int32)) (1 : Int32))), (2, .int (3 : Int32)), (1, .int (nI (xg / 4))), (0, .int (nI xg))]) hx hb dX2_thingsOf_33 hl (k := 1) rfl (by decide) (by decide) rfl (fun ls hl => ?_)
  refine lv_goto (tgt := 14) hx hb dX2_thingsOf_36 (by decide) ?_
  refine lv_iload hx hb dX2_thingsOf_14 (lv_at hl 0 rfl) ?_
  refine lv_iload_n hx hb dX2_thingsOf_16 rfl (lv_at hl 2 rfl) ?_
  refine lv_icmp_gt (tgt := 39) hx hb dX2_thingsOf_17 (by decide) (fun h => absurd h (by decide)) (fun _ => ?_)
  refine lv_iload_n hx hb dX2_thingsOf_20 rfl (lv_at hl 1 rfl) ?_
  refine lv_iload_n hx hb dX2_thingsOf_21 rfl (lv_at hl 3 rfl) ?_
  refine lv_iload hx hb dX2_thingsOf_22 (lv_at hl 0 rfl) ?_
  refine lv_iadd hx hb dX2_thingsOf_24 ?_
  rw [show ((nI (xg / 4)) + (1 : Int32)) = (nI ((xg / 4) + 1)) from nI_add (xg / 4) 1]
  refine lv_bipush (v := (7 : Int32)) hx hb dX2_thingsOf_25 (by decide +kernel) ?_
  refine lv_iand hx hb dX2_thingsOf_27 ?_
  refine lv_iconst (v := (1 : Int32)) hx hb dX2_thingsOf_28 (by decide) ?_
  refine ro_SN (As := [.int (f_X8_withBit (f_X8_withBit (f_X8_withBit (f_X8_withBit (0 : Int32) (((nI (xg / 4)) + (-3 : Int32)) &&& (7 : Int32)) (1 : Int32)) (((nI (xg / 4)) + (-2 : Int32)) &&& (7 : Int32)) (1 : Int32)) (((nI (xg / 4)) + (-1 : Int32)) &&& (7 : Int32)) (1 : Int32)) ((nI ((xg / 4) + 0)) &&& (7 : Int32)) (1 : Int32)), .int ((nI ((xg / 4) + 1)) &&& (7 : Int32)), .int (1 : Int32)]) (rest := []) ⟨hx, hb, hml, hown, hts⟩ hK (c_X8_withBit l D cI cJ cZ (f_X8_withBit (f_X8_withBit (f_X8_withBit (f_X8_withBit (0 : Int32) (((nI (xg / 4)) + (-3 : Int32)) &&& (7 : Int32)) (1 : Int32)) (((nI (xg / 4)) + (-2 : Int32)) &&& (7 : Int32)) (1 : Int32)) (((nI (xg / 4)) + (-1 : Int32)) &&& (7 : Int32)) (1 : Int32)) ((nI ((xg / 4) + 0)) &&& (7 : Int32)) (1 : Int32)) ((nI ((xg / 4) + 1)) &&& (7 : Int32)) (1 : Int32)) va_P_nil (va_cnB 3 hts gX2_thingsOf_X8_withBit_n48 rfl rfl rfl (hK.2 _ gN_47) hq0 hd_X8_withBit ⟨(Nat.le_of_ble_eq_true rfl), (Nat.le_of_ble_eq_true rfl)⟩) hq1 rfl hl.1 rfl (Nat.le_of_ble_eq_true rfl) dX2_thingsOf_29 (Nat.zero_le _) (Nat.zero_le _) ?_
  refine lv_istore_n (lv' := [(3, .int (f_X8_withBit (f_X8_withBit (f_X8_withBit (f_X8_withBit (f_X8_withBit (0 : Int32) (((nI (xg / 4)) + (-3 : Int32)) &&& (7 : Int32)) (1 : Int32)) (((nI (xg / 4)) + (-2 : Int32)) &&& (7 : Int32)) (1 : Int32)) (((nI (xg / 4)) + (-1 : Int32)) &&& (7 : Int32)) (1 : Int32)) ((nI ((xg / 4) + 0)) &&& (7 : Int32)) (1 : Int32)) ((nI ((xg / 4) + 1)) &&& (7 : Int32)) (1 : Int32))), (4, .int (1 : Int32)), (2, .int (3 : Int32)), (1, .int (nI (xg / 4))), (0, .int (nI xg))]) hx hb dX2_thingsOf_32 rfl hl (by decide) rfl (fun ls hl => ?_)
  refine lv_iinc (v := (2 : Int32)) (lv' := [(4, .int (2 : Int32)), (3, .int (f_X8_withBit (f_X8_withBit (f_X8_withBit (f_X8_withBit (f_X8_withBit (0 : Int32) (((nI (xg / 4)) + (-3 : Int32)) &&& (7 : Int32)) (1 : Int32)) (((nI (xg / 4)) + (-2 : Int32)) &&& (7 : Int32)) (1 : Int32)) (((nI (xg / 4)) + (-1 : Int32)) &&& (7 : Int32)) (1 : Int32)) ((nI ((xg / 4) + 0)) &&& (7 : Int32)) (1 : Int32)) ((nI ((xg / 4) + 1)) &&& (7 : Int32)) (1 : Int32))), (2, .int (3 : Int32)), (1, .int (nI (xg / 4))), (0, .int (nI xg))]) hx hb dX2_thingsOf_33 hl (k := 1) rfl (by decide) (by decide) rfl (fun ls hl => ?_)
  refine lv_goto (tgt := 14) hx hb dX2_thingsOf_36 (by decide) ?_
  refine lv_iload hx hb dX2_thingsOf_14 (lv_at hl 0 rfl) ?_
  refine lv_iload_n hx hb dX2_thingsOf_16 rfl (lv_at hl 2 rfl) ?_
  refine lv_icmp_gt (tgt := 39) hx hb dX2_thingsOf_17 (by decide) (fun h => absurd h (by decide)) (fun _ => ?_)
  refine lv_iload_n hx hb dX2_thingsOf_20 rfl (lv_at hl 1 rfl) ?_
  refine lv_iload_n hx hb dX2_thingsOf_21 rfl (lv_at hl 3 rfl) ?_
  refine lv_iload hx hb dX2_thingsOf_22 (lv_at hl 0 rfl) ?_
  refine lv_iadd hx hb dX2_thingsOf_24 ?_
  rw [show ((nI (xg / 4)) + (2 : Int32)) = (nI ((xg / 4) + 2)) from nI_add (xg / 4) 2]
  refine lv_bipush (v := (7 : Int32)) hx hb dX2_thingsOf_25 (by decide +kernel) ?_
  refine lv_iand hx hb dX2_thingsOf_27 ?_
  refine lv_iconst (v := (1 : Int32)) hx hb dX2_thingsOf_28 (by decide) ?_
  refine ro_SN (As := [.int (f_X8_withBit (f_X8_withBit (f_X8_withBit (f_X8_withBit (f_X8_withBit (0 : Int32) (((nI (xg / 4)) + (-3 : Int32)) &&& (7 : Int32)) (1 : Int32)) (((nI (xg / 4)) + (-2 : Int32)) &&& (7 : Int32)) (1 : Int32)) (((nI (xg / 4)) + (-1 : Int32)) &&& (7 : Int32)) (1 : Int32)) ((nI ((xg / 4) + 0)) &&& (7 : Int32)) (1 : Int32)) ((nI ((xg / 4) + 1)) &&& (7 : Int32)) (1 : Int32)), .int ((nI ((xg / 4) + 2)) &&& (7 : Int32)), .int (1 : Int32)]) (rest := []) ⟨hx, hb, hml, hown, hts⟩ hK (c_X8_withBit l D cI cJ cZ (f_X8_withBit (f_X8_withBit (f_X8_withBit (f_X8_withBit (f_X8_withBit (0 : Int32) (((nI (xg / 4)) + (-3 : Int32)) &&& (7 : Int32)) (1 : Int32)) (((nI (xg / 4)) + (-2 : Int32)) &&& (7 : Int32)) (1 : Int32)) (((nI (xg / 4)) + (-1 : Int32)) &&& (7 : Int32)) (1 : Int32)) ((nI ((xg / 4) + 0)) &&& (7 : Int32)) (1 : Int32)) ((nI ((xg / 4) + 1)) &&& (7 : Int32)) (1 : Int32)) ((nI ((xg / 4) + 2)) &&& (7 : Int32)) (1 : Int32)) va_P_nil (va_cnB 3 hts gX2_thingsOf_X8_withBit_n48 rfl rfl rfl (hK.2 _ gN_47) hq0 hd_X8_withBit ⟨(Nat.le_of_ble_eq_true rfl), (Nat.le_of_ble_eq_true rfl)⟩) hq1 rfl hl.1 rfl (Nat.le_of_ble_eq_true rfl) dX2_thingsOf_29 (Nat.zero_le _) (Nat.zero_le _) ?_
  refine lv_istore_n (lv' := [(3, .int (f_X8_withBit (f_X8_withBit (f_X8_withBit (f_X8_withBit (f_X8_withBit (f_X8_withBit (0 : Int32) (((nI (xg / 4)) + (-3 : Int32)) &&& (7 : Int32)) (1 : Int32)) (((nI (xg / 4)) + (-2 : Int32)) &&& (7 : Int32)) (1 : Int32)) (((nI (xg / 4)) + (-1 : Int32)) &&& (7 : Int32)) (1 : Int32)) ((nI ((xg / 4) + 0)) &&& (7 : Int32)) (1 : Int32)) ((nI ((xg / 4) + 1)) &&& (7 : Int32)) (1 : Int32)) ((nI ((xg / 4) + 2)) &&& (7 : Int32)) (1 : Int32))), (4, .int (2 : Int32)), (2, .int (3 : Int32)), (1, .int (nI (xg / 4))), (0, .int (nI xg))]) hx hb dX2_thingsOf_32 rfl hl (by decide) rfl (fun ls hl => ?_)
  refine lv_iinc (v := (3 : Int32)) (lv' := [(4, .int (3 : Int32)), (3, .int (f_X8_withBit (f_X8_withBit (f_X8_withBit (f_X8_withBit (f_X8_withBit (f_X8_withBit (0 : Int32) (((nI (xg / 4)) + (-3 : Int32)) &&& (7 : Int32)) (1 : Int32)) (((nI (xg / 4)) + (-2 : Int32)) &&& (7 : Int32)) (1 : Int32)) (((nI (xg / 4)) + (-1 : Int32)) &&& (7 : Int32)) (1 : Int32)) ((nI ((xg / 4) + 0)) &&& (7 : Int32)) (1 : Int32)) ((nI ((xg / 4) + 1)) &&& (7 : Int32)) (1 : Int32)) ((nI ((xg / 4) + 2)) &&& (7 : Int32)) (1 : Int32))), (2, .int (3 : Int32)), (1, .int (nI (xg / 4))), (0, .int (nI xg))]) hx hb dX2_thingsOf_33 hl (k := 1) rfl (by decide) (by decide) rfl (fun ls hl => ?_)
  refine lv_goto (tgt := 14) hx hb dX2_thingsOf_36 (by decide) ?_
  refine lv_iload hx hb dX2_thingsOf_14 (lv_at hl 0 rfl) ?_
  refine lv_iload_n hx hb dX2_thingsOf_16 rfl (lv_at hl 2 rfl) ?_
  refine lv_icmp_gt (tgt := 39) hx hb dX2_thingsOf_17 (by decide) (fun h => absurd h (by decide)) (fun _ => ?_)
  refine lv_iload_n hx hb dX2_thingsOf_20 rfl (lv_at hl 1 rfl) ?_
  refine lv_iload_n hx hb dX2_thingsOf_21 rfl (lv_at hl 3 rfl) ?_
  refine lv_iload hx hb dX2_thingsOf_22 (lv_at hl 0 rfl) ?_
  refine lv_iadd hx hb dX2_thingsOf_24 ?_
  rw [show ((nI (xg / 4)) + (3 : Int32)) = (nI ((xg / 4) + 3)) from nI_add (xg / 4) 3]
  refine lv_bipush (v := (7 : Int32)) hx hb dX2_thingsOf_25 (by decide +kernel) ?_
  refine lv_iand hx hb dX2_thingsOf_27 ?_
  refine lv_iconst (v := (1 : Int32)) hx hb dX2_thingsOf_28 (by decide) ?_
  refine ro_SN (As := [.int (f_X8_withBit (f_X8_withBit (f_X8_withBit (f_X8_withBit (f_X8_withBit (f_X8_withBit (0 : Int32) (((nI (xg / 4)) + (-3 : Int32)) &&& (7 : Int32)) (1 : Int32)) (((nI (xg / 4)) + (-2 : Int32)) &&& (7 : Int32)) (1 : Int32)) (((nI (xg / 4)) + (-1 : Int32)) &&& (7 : Int32)) (1 : Int32)) ((nI ((xg / 4) + 0)) &&& (7 : Int32)) (1 : Int32)) ((nI ((xg / 4) + 1)) &&& (7 : Int32)) (1 : Int32)) ((nI ((xg / 4) + 2)) &&& (7 : Int32)) (1 : Int32)), .int ((nI ((xg / 4) + 3)) &&& (7 : Int32)), .int (1 : Int32)]) (rest := []) ⟨hx, hb, hml, hown, hts⟩ hK (c_X8_withBit l D cI cJ cZ (f_X8_withBit (f_X8_withBit (f_X8_withBit (f_X8_withBit (f_X8_withBit (f_X8_withBit (0 : Int32) (((nI (xg / 4)) + (-3 : Int32)) &&& (7 : Int32)) (1 : Int32)) (((nI (xg / 4)) + (-2 : Int32)) &&& (7 : Int32)) (1 : Int32)) (((nI (xg / 4)) + (-1 : Int32)) &&& (7 : Int32)) (1 : Int32)) ((nI ((xg / 4) + 0)) &&& (7 : Int32)) (1 : Int32)) ((nI ((xg / 4) + 1)) &&& (7 : Int32)) (1 : Int32)) ((nI ((xg / 4) + 2)) &&& (7 : Int32)) (1 : Int32)) ((nI ((xg / 4) + 3)) &&& (7 : Int32)) (1 : Int32)) va_P_nil (va_cnB 3 hts gX2_thingsOf_X8_withBit_n48 rfl rfl rfl (hK.2 _ gN_47) hq0 hd_X8_withBit ⟨(Nat.le_of_ble_eq_true rfl), (Nat.le_of_ble_eq_true rfl)⟩) hq1 rfl hl.1 rfl (Nat.le_of_ble_eq_true rfl) dX2_thingsOf_29 (Nat.zero_le _) (Nat.zero_le _) ?_
  refine lv_istore_n (lv' := [(3, .int (f_X8_withBit (f_X8_withBit (f_X8_withBit (f_X8_withBit (f_X8_withBit (f_X8_withBit (f_X8_withBit (0 : Int32) (((nI (xg / 4)) + (-3 : Int32)) &&& (7 : Int32)) (1 : Int32)) (((nI (xg / 4)) + (-2 : Int32)) &&& (7 : Int32)) (1 : Int32)) (((nI (xg / 4)) + (-1 : Int32)) &&& (7 : Int32)) (1 : Int32)) ((nI ((xg / 4) + 0)) &&& (7 : Int32)) (1 : Int32)) ((nI ((xg / 4) + 1)) &&& (7 : Int32)) (1 : Int32)) ((nI ((xg / 4) + 2)) &&& (7 : Int32)) (1 : Int32)) ((nI ((xg / 4) + 3)) &&& (7 : Int32)) (1 : Int32))), (4, .int (3 : Int32)), (2, .int (3 : Int32)), (1, .int (nI (xg / 4))), (0, .int (nI xg))]) hx hb dX2_thingsOf_32 rfl hl (by decide) rfl (fun ls hl => ?_)
  refine lv_iinc (v := (4 : Int32)) (lv' := [(4, .int (4 : Int32)), (3, .int (f_X8_withBit (f_X8_withBit (f_X8_withBit (f_X8_withBit (f_X8_withBit (f_X8_withBit (f_X8_withBit (0 : Int32) (((nI (xg / 4)) + (-3 : Int32)) &&& (7 : Int32)) (1 : Int32)) (((nI (xg / 4)) + (-2 : Int32)) &&& (7 : Int32)) (1 : Int32)) (((nI (xg / 4)) + (-1 : Int32)) &&& (7 : Int32)) (1 : Int32)) ((nI ((xg / 4) + 0)) &&& (7 : Int32)) (1 : Int32)) ((nI ((xg / 4) + 1)) &&& (7 : Int32)) (1 : Int32)) ((nI ((xg / 4) + 2)) &&& (7 : Int32)) (1 : Int32)) ((nI ((xg / 4) + 3)) &&& (7 : Int32)) (1 : Int32))), (2, .int (3 : Int32)), (1, .int (nI (xg / 4))), (0, .int (nI xg))]) hx hb dX2_thingsOf_33 hl (k := 1) rfl (by decide) (by decide) rfl (fun ls hl => ?_)
  refine lv_goto (tgt := 14) hx hb dX2_thingsOf_36 (by decide) ?_
  refine lv_iload hx hb dX2_thingsOf_14 (lv_at hl 0 rfl) ?_
  refine lv_iload_n hx hb dX2_thingsOf_16 rfl (lv_at hl 2 rfl) ?_
  refine lv_icmp_gt (tgt := 39) hx hb dX2_thingsOf_17 (by decide) (fun _ => ?_) (fun h => absurd (by decide) h)
  refine lv_iload_n hx hb dX2_thingsOf_39 rfl (lv_at hl 1 rfl) ?_
  subst hR
  exact ro_iret hx hb hr hlocks dX2_thingsOf_40


def f_X2_thingsOf (xg : Nat) : Int32 := if xg % 4 = 0 then f_X2_thingsOf0 xg else if xg % 4 = 1 then f_X2_thingsOf1 xg else if xg % 4 = 2 then f_X2_thingsOf2 xg else f_X2_thingsOf3 xg
theorem c_X2_thingsOf (l : Launch) (D : va_G) (cI cJ cZ : ClassId) (xg : Nat) (hxg : xg < 32) : RO l yX2_thingsOf wsX2_thingsOf ({ frames := 1, cells := 0, slots := 0, locals := 22 }) [.int (nI xg)] D cI cJ cZ [] (.int (f_X2_thingsOf xg)) := by
  unfold f_X2_thingsOf
  split
  · next h => exact c_X2_thingsOf0 l D cI cJ cZ xg hxg h
  · split
    · next h => exact c_X2_thingsOf1 l D cI cJ cZ xg hxg h
    · split
      · next h => exact c_X2_thingsOf2 l D cI cJ cZ xg hxg h
      · exact c_X2_thingsOf3 l D cI cJ cZ xg hxg (by omega)

theorem in_X2_fits_X7 : ∀ w ∈ u_ws RX7 TX7 12, w ∈ wsX2_fits := by decide +kernel
theorem hd_X2_thingsOf : yX2_thingsOf.cls ≠ "java/lang/invoke/MethodHandle" ∧ yX2_thingsOf.cls ≠ "java/lang/invoke/VarHandle" ∧ (parseMethodDescriptor yX2_thingsOf.desc).map (fun d => d.parameters.length) = some 1 := by decide +kernel
def f_X2_fits (w_agreedTo : Int32) (w_refused : Int32) (xg : Nat) : Int32 :=
  (if ((w_agreedTo &&& ((f_X2_thingsOf xg) ^^^ (-1 : Int32))) = 0) then (if ((w_refused &&& (f_X2_thingsOf xg)) = 0) then (1 : Int32) else (0 : Int32)) else (0 : Int32))
set_option maxHeartbeats 4000000 in
set_option maxRecDepth 100000 in
theorem c_X2_fits (l : Launch) (D : va_G) (cI cJ cZ : ClassId) (w : Nat) (w_points_a : Nat) (w_tired_a : Nat) (w_near_a : Nat) (w_there : Int32) (w_free : Int32) (w_held : Int32) (w_wind : Int32) (w_oil : Int32) (w_hour : Int32) (w_sights : Int32) (w_agreedTo : Int32) (w_refused : Int32) (xg : Nat) (hxg : xg < 32) : RO l yX2_fits wsX2_fits ({ frames := 2, cells := 0, slots := 0, locals := 46 }) [.ref w, .int (nI xg)] D cI cJ cZ [(w, .inr (7, [.ref w_points_a, .ref w_tired_a, .ref w_near_a, .int w_there, .int w_free, .int w_held, .int w_wind, .int w_oil, .int w_hour, .int w_sights, .int w_agreedTo, .int w_refused]))] (.int (f_X2_fits w_agreedTo w_refused xg)) := by
  obtain ⟨R, hR⟩ : ∃ R, (f_X2_fits w_agreedTo w_refused xg) = R := ⟨_, rfl⟩
  rw [hR]
  refine ro_start (cc := cX2_fits) (maxL := 3) (ret := (some .boolean)) (by decide) rfl (Nat.le_of_ble_eq_true rfl) ?_
  intro p e s m args below meth c hx hb hr hml hown hts hlocks hP hK ls hl
  have hown : s.vm.findClass RX2 = some m.cls := hown
  have hl : lv_has ls 3 [(0, .ref w), (1, .int (nI xg))] := hl
  rw [f_X2_fits] at hR
  refine lv_iload_n hx hb dX2_fits_0 rfl (lv_at hl 1 rfl) ?_
  refine ro_S (As := [.int (nI xg)]) (rest := []) ⟨hx, hb, hml, hown, hts⟩ hK (c_X2_thingsOf l D cI cJ cZ xg (by first | assumption | omega)) va_P_nil (va_cwS 1 hts gX2_fits_X2_thingsOf rfl rfl rfl hd_X2_thingsOf ⟨(Nat.le_of_ble_eq_true rfl), (Nat.le_of_ble_eq_true rfl)⟩) rfl hl.1 rfl (Nat.le_of_ble_eq_true rfl) dX2_fits_1 (Nat.zero_le _) (Nat.zero_le _) ?_
  refine lv_istore_n (lv' := [(2, .int (f_X2_thingsOf xg)), (0, .ref w), (1, .int (nI xg))]) hx hb dX2_fits_4 rfl hl (by decide) rfl (fun ls hl => ?_)
  refine lv_aload_n hx hb dX2_fits_5 rfl (lv_at hl 1 rfl) ?_
  refine va_getN (D := D) (ci := 7) (v := .int w_agreedTo) (C := RX7) (T := TX7) (N := 12) hx hb hts in_X2_fits_X7 hown hK.1 hP 0 rfl rfl 10 (by decide) (va_Nw.use rfl (hK.2 _ gN_12)) (fun _ h9 => h9) rfl dX2_fits_6 ?_
  refine lv_iload_n hx hb dX2_fits_9 rfl (lv_at hl 0 rfl) ?_
  refine lv_iconst (v := (-1 : Int32)) hx hb dX2_fits_10 (by decide) ?_
  refine lv_ixor hx hb dX2_fits_11 ?_
  refine lv_iand hx hb dX2_fits_12 ?_
  refine lv_if_ne (tgt := 29) hx hb dX2_fits_13 (by decide) (fun c13 => ?_) (fun c13 => ?_)
  · rw [if_neg c13] at hR
    refine lv_iconst (v := (0 : Int32)) hx hb dX2_fits_29 (by decide) ?_
    subst hR
    exact ro_zret hx hb hr hlocks (Or.inl rfl) dX2_fits_30
  · rw [if_pos c13] at hR
    refine lv_aload_n hx hb dX2_fits_16 rfl (lv_at hl 1 rfl) ?_
    refine va_getN (D := D) (ci := 7) (v := .int w_refused) (C := RX7) (T := TX7) (N := 12) hx hb hts in_X2_fits_X7 hown hK.1 hP 0 rfl rfl 11 (by decide) (va_Nw.use rfl (hK.2 _ gN_14)) (fun _ h9 => h9) rfl dX2_fits_17 ?_
    refine lv_iload_n hx hb dX2_fits_20 rfl (lv_at hl 0 rfl) ?_
    refine lv_iand hx hb dX2_fits_21 ?_
    refine lv_if_ne (tgt := 29) hx hb dX2_fits_22 (by decide) (fun c22 => ?_) (fun c22 => ?_)
    · rw [if_neg c22] at hR
      refine lv_iconst (v := (0 : Int32)) hx hb dX2_fits_29 (by decide) ?_
      subst hR
      exact ro_zret hx hb hr hlocks (Or.inl rfl) dX2_fits_30
    · rw [if_pos c22] at hR
      refine lv_iconst (v := (1 : Int32)) hx hb dX2_fits_25 (by decide) ?_
      refine lv_goto (tgt := 30) hx hb dX2_fits_26 (by decide) ?_
      subst hR
      exact ro_zret hx hb hr hlocks (Or.inr rfl) dX2_fits_30

theorem z_X2_fits (w_agreedTo : Int32) (w_refused : Int32) (xg : Nat) : (f_X2_fits w_agreedTo w_refused xg) = 0 ∨ (f_X2_fits w_agreedTo w_refused xg) = 1 := by
  unfold f_X2_fits
  (repeat' split) <;> first | exact Or.inl rfl | exact Or.inr rfl


theorem hd_X2_fits : yX2_fits.cls ≠ "java/lang/invoke/MethodHandle" ∧ yX2_fits.cls ≠ "java/lang/invoke/VarHandle" ∧ (parseMethodDescriptor yX2_fits.desc).map (fun d => d.parameters.length) = some 2 := by decide +kernel
def lp_X2_count_4 (w_agreedTo : Int32) (w_refused : Int32) : Nat → Nat → Int32 → Int32
  | 0, _, v1_4 => v1_4
  | k4 + 1, i4, v1_4 => (if ((f_X2_fits w_agreedTo w_refused i4) = 0) then (lp_X2_count_4 w_agreedTo w_refused k4 (i4 + 1) (v1_4 + (0 : Int32))) else (lp_X2_count_4 w_agreedTo w_refused k4 (i4 + 1) (v1_4 + (1 : Int32))))
def f_X2_count (w_agreedTo : Int32) (w_refused : Int32) : Int32 :=
  (lp_X2_count_4 w_agreedTo w_refused 32 0 (0 : Int32))
set_option maxHeartbeats 4000000 in
set_option maxRecDepth 100000 in
theorem c_X2_count (l : Launch) (D : va_G) (cI cJ cZ : ClassId) (w : Nat) (w_points_a : Nat) (w_tired_a : Nat) (w_near_a : Nat) (w_there : Int32) (w_free : Int32) (w_held : Int32) (w_wind : Int32) (w_oil : Int32) (w_hour : Int32) (w_sights : Int32) (w_agreedTo : Int32) (w_refused : Int32) : RO l yX2_count wsX2_count ({ frames := 3, cells := 0, slots := 0, locals := 68 }) [.ref w] D cI cJ cZ [(w, .inr (7, [.ref w_points_a, .ref w_tired_a, .ref w_near_a, .int w_there, .int w_free, .int w_held, .int w_wind, .int w_oil, .int w_hour, .int w_sights, .int w_agreedTo, .int w_refused]))] (.int (f_X2_count w_agreedTo w_refused)) := by
  obtain ⟨R, hR⟩ : ∃ R, (f_X2_count w_agreedTo w_refused) = R := ⟨_, rfl⟩
  rw [hR]
  refine ro_start (cc := cX2_count) (maxL := 3) (ret := (some .int)) (by decide) rfl (Nat.le_of_ble_eq_true rfl) ?_
  intro p e s m args below meth c hx hb hr hml hown hts hlocks hP hK ls hl
  have hown : s.vm.findClass RX2 = some m.cls := hown
  have hl : lv_has ls 3 [(0, .ref w)] := hl
  rw [f_X2_count] at hR
  refine lv_iconst (v := (0 : Int32)) hx hb dX2_count_0 (by decide) ?_
  refine lv_istore_n (lv' := [(1, .int (0 : Int32)), (0, .ref w)]) hx hb dX2_count_1 rfl hl (by decide) rfl (fun ls hl => ?_)
  refine lv_iconst (v := (0 : Int32)) hx hb dX2_count_2 (by decide) ?_
  refine lv_istore_n (lv' := [(2, .int (0 : Int32)), (1, .int (0 : Int32)), (0, .ref w)]) hx hb dX2_count_3 rfl hl (by decide) rfl (fun ls hl => ?_)
  obtain ⟨F4_1, hF4_1⟩ : ∃ x, (lp_X2_count_4 w_agreedTo w_refused 32 0 (0 : Int32)) = x := ⟨_, rfl⟩
  try rw [hF4_1] at hR
  have hexit4 : ∀ (ls : Array Slot), lv_has ls 3 [(1, .int F4_1), (0, .ref w)] → W p l e ({ frames := 3, cells := 0, slots := 0, locals := 68 }) s m args below meth c s.heap [] 0 0 (MQ below (ro_Q (.int R)) args s 0 0 (fun _ => False)) (F0 m 32 ls []) := by
    intro ls hl
    refine lv_iload_n hx hb dX2_count_32 rfl (lv_at hl 0 rfl) ?_
    subst hR
    exact ro_iret hx hb hr hlocks dX2_count_33
  have hloop4 : ∀ (k4 i4 : Nat) (v1_4 : Int32), i4 + k4 = 32 → ∀ (ls : Array Slot), lv_has ls 3 [(2, .int (nI i4)), (1, .int v1_4), (0, .ref w)] → lp_X2_count_4 w_agreedTo w_refused k4 i4 v1_4 = F4_1 → W p l e ({ frames := 3, cells := 0, slots := 0, locals := 68 }) s m args below meth c s.heap [] 0 0 (MQ below (ro_Q (.int R)) args s 0 0 (fun _ => False)) (F0 m 4 ls []) := by
    intro k4
    induction k4 with
    | zero =>
      intro i4 v1_4 h4  ls hl hR
      obtain rfl : 32 = i4 := by omega
      rw [lp_X2_count_4] at hR
      refine lv_iload_n hx hb dX2_count_4 rfl (lv_at hl 0 rfl) ?_
      refine lv_bipush (v := (32 : Int32)) hx hb dX2_count_5 (by decide +kernel) ?_
      refine lv_icmp_ge (tgt := 32) hx hb dX2_count_7 (by decide) (fun _ => ?_) (fun h => absurd (cle_t (a := 32) (b := 32) rfl rfl (by omega) (by omega)) h)
      subst hR
      exact hexit4 _ (lv_sub hl [1, 2] rfl)
    | succ k4 ih4 =>
      intro i4 v1_4 h4  ls hl hR
      rw [lp_X2_count_4] at hR
      refine lv_iload_n hx hb dX2_count_4 rfl (lv_at hl 0 rfl) ?_
      refine lv_bipush (v := (32 : Int32)) hx hb dX2_count_5 (by decide +kernel) ?_
      refine lv_icmp_ge (tgt := 32) hx hb dX2_count_7 (by decide) (fun h => absurd h (cle_f (a := 32) (b := i4) rfl rfl (by omega) (by omega))) (fun _ => ?_)
      refine lv_iload_n hx hb dX2_count_10 rfl (lv_at hl 1 rfl) ?_
      refine lv_aload_n hx hb dX2_count_11 rfl (lv_at hl 2 rfl) ?_
      refine lv_iload_n hx hb dX2_count_12 rfl (lv_at hl 0 rfl) ?_
      refine ro_S (As := [.ref w, .int (nI i4)]) (rest := [.int v1_4]) ⟨hx, hb, hml, hown, hts⟩ hK (c_X2_fits l D cI cJ cZ w w_points_a w_tired_a w_near_a w_there w_free w_held w_wind w_oil w_hour w_sights w_agreedTo w_refused i4 (by first | assumption | omega)) (rw_sub hP [0] rfl) (va_cwS 2 hts gX2_count_X2_fits rfl rfl rfl hd_X2_fits ⟨(Nat.le_of_ble_eq_true rfl), (Nat.le_of_ble_eq_true rfl)⟩) rfl hl.1 rfl (Nat.le_of_ble_eq_true rfl) dX2_count_13 (Nat.zero_le _) (Nat.zero_le _) ?_
      refine lv_if_eq (tgt := 23) hx hb dX2_count_16 (by decide) (fun c16 => ?_) (fun c16 => ?_)
      · rw [if_pos c16] at hR
        refine lv_iconst (v := (0 : Int32)) hx hb dX2_count_23 (by decide) ?_
        refine lv_iadd hx hb dX2_count_24 ?_
        refine lv_istore_n (lv' := [(1, .int (v1_4 + (0 : Int32))), (2, .int (nI i4)), (0, .ref w)]) hx hb dX2_count_25 rfl hl (by decide) rfl (fun ls hl => ?_)
        refine lv_iinc (v := (nI (i4 + 1))) (lv' := [(2, .int (nI (i4 + 1))), (1, .int (v1_4 + (0 : Int32))), (0, .ref w)]) hx hb dX2_count_26 hl (k := 1) rfl (by exact nI_add i4 1) (by decide) rfl (fun ls hl => ?_)
        refine lv_goto (tgt := 4) hx hb dX2_count_29 (by decide) ?_
        exact ih4 _ _ (by omega) _ (lv_sub hl [0, 1, 2] rfl) hR
      · rw [if_neg c16] at hR
        refine lv_iconst (v := (1 : Int32)) hx hb dX2_count_19 (by decide) ?_
        refine lv_goto (tgt := 24) hx hb dX2_count_20 (by decide) ?_
        refine lv_iadd hx hb dX2_count_24 ?_
        refine lv_istore_n (lv' := [(1, .int (v1_4 + (1 : Int32))), (2, .int (nI i4)), (0, .ref w)]) hx hb dX2_count_25 rfl hl (by decide) rfl (fun ls hl => ?_)
        refine lv_iinc (v := (nI (i4 + 1))) (lv' := [(2, .int (nI (i4 + 1))), (1, .int (v1_4 + (1 : Int32))), (0, .ref w)]) hx hb dX2_count_26 hl (k := 1) rfl (by exact nI_add i4 1) (by decide) rfl (fun ls hl => ?_)
        refine lv_goto (tgt := 4) hx hb dX2_count_29 (by decide) ?_
        exact ih4 _ _ (by omega) _ (lv_sub hl [0, 1, 2] rfl) hR
  exact hloop4 32 0 _ (by omega) _ hl hF4_1


def lp_X2_tell_4 (w_agreedTo : Int32) (w_refused : Int32) (xi : Int32) : Nat → Nat → Int32 → Int32
  | 0, _, _ => (-6 : Int32)
  | k4 + 1, i4, v2_4 => (if ((f_X2_fits w_agreedTo w_refused i4) = 0) then (lp_X2_tell_4 w_agreedTo w_refused xi k4 (i4 + 1) v2_4) else (if (v2_4 = xi) then (nI ((10 * (i4 / 4)) + (i4 % 4))) else (lp_X2_tell_4 w_agreedTo w_refused xi k4 (i4 + 1) (v2_4 + 1))))
def f_X2_tell (w_agreedTo : Int32) (w_refused : Int32) (xi : Int32) : Int32 :=
  (lp_X2_tell_4 w_agreedTo w_refused xi 32 0 (0 : Int32))
set_option maxHeartbeats 4000000 in
set_option maxRecDepth 100000 in
theorem c_X2_tell (l : Launch) (D : va_G) (cI cJ cZ : ClassId) (w : Nat) (w_points_a : Nat) (w_tired_a : Nat) (w_near_a : Nat) (w_there : Int32) (w_free : Int32) (w_held : Int32) (w_wind : Int32) (w_oil : Int32) (w_hour : Int32) (w_sights : Int32) (w_agreedTo : Int32) (w_refused : Int32) (xi : Int32) : RO l yX2_tell wsX2_tell ({ frames := 3, cells := 0, slots := 0, locals := 68 }) [.ref w, .int xi] D cI cJ cZ [(w, .inr (7, [.ref w_points_a, .ref w_tired_a, .ref w_near_a, .int w_there, .int w_free, .int w_held, .int w_wind, .int w_oil, .int w_hour, .int w_sights, .int w_agreedTo, .int w_refused]))] (.int (f_X2_tell w_agreedTo w_refused xi)) := by
  obtain ⟨R, hR⟩ : ∃ R, (f_X2_tell w_agreedTo w_refused xi) = R := ⟨_, rfl⟩
  rw [hR]
  refine ro_start (cc := cX2_tell) (maxL := 4) (ret := (some .int)) (by decide) rfl (Nat.le_of_ble_eq_true rfl) ?_
  intro p e s m args below meth c hx hb hr hml hown hts hlocks hP hK ls hl
  have hown : s.vm.findClass RX2 = some m.cls := hown
  have hl : lv_has ls 4 [(0, .ref w), (1, .int xi)] := hl
  rw [f_X2_tell] at hR
  refine lv_iconst (v := (0 : Int32)) hx hb dX2_tell_0 (by decide) ?_
  refine lv_istore_n (lv' := [(2, .int (0 : Int32)), (0, .ref w), (1, .int xi)]) hx hb dX2_tell_1 rfl hl (by decide) rfl (fun ls hl => ?_)
  refine lv_iconst (v := (0 : Int32)) hx hb dX2_tell_2 (by decide) ?_
  refine lv_istore_n (lv' := [(3, .int (0 : Int32)), (2, .int (0 : Int32)), (0, .ref w), (1, .int xi)]) hx hb dX2_tell_3 rfl hl (by decide) rfl (fun ls hl => ?_)
  have hloop4 : ∀ (k4 i4 : Nat) (v2_4 : Int32), i4 + k4 = 32 → ∀ (ls : Array Slot), lv_has ls 4 [(3, .int (nI i4)), (2, .int v2_4), (0, .ref w), (1, .int xi)] → lp_X2_tell_4 w_agreedTo w_refused xi k4 i4 v2_4 = R → W p l e ({ frames := 3, cells := 0, slots := 0, locals := 68 }) s m args below meth c s.heap [] 0 0 (MQ below (ro_Q (.int R)) args s 0 0 (fun _ => False)) (F0 m 4 ls []) := by
    intro k4
    induction k4 with
    | zero =>
      intro i4 v2_4 h4  ls hl hR
      obtain rfl : 32 = i4 := by omega
      rw [lp_X2_tell_4] at hR
      refine lv_iload_n hx hb dX2_tell_4 rfl (lv_at hl 0 rfl) ?_
      refine lv_bipush (v := (32 : Int32)) hx hb dX2_tell_5 (by decide +kernel) ?_
      refine lv_icmp_ge (tgt := 43) hx hb dX2_tell_7 (by decide) (fun _ => ?_) (fun h => absurd (cle_t (a := 32) (b := 32) rfl rfl (by omega) (by omega)) h)
      refine lv_bipush (v := (-6 : Int32)) hx hb dX2_tell_43 (by decide +kernel) ?_
      subst hR
      exact ro_iret hx hb hr hlocks dX2_tell_45
    | succ k4 ih4 =>
      intro i4 v2_4 h4  ls hl hR
      rw [lp_X2_tell_4] at hR
      refine lv_iload_n hx hb dX2_tell_4 rfl (lv_at hl 0 rfl) ?_
      refine lv_bipush (v := (32 : Int32)) hx hb dX2_tell_5 (by decide +kernel) ?_
      refine lv_icmp_ge (tgt := 43) hx hb dX2_tell_7 (by decide) (fun h => absurd h (cle_f (a := 32) (b := i4) rfl rfl (by omega) (by omega))) (fun _ => ?_)
      refine lv_aload_n hx hb dX2_tell_10 rfl (lv_at hl 2 rfl) ?_
      refine lv_iload_n hx hb dX2_tell_11 rfl (lv_at hl 0 rfl) ?_
      refine ro_S (As := [.ref w, .int (nI i4)]) (rest := []) ⟨hx, hb, hml, hown, hts⟩ hK (c_X2_fits l D cI cJ cZ w w_points_a w_tired_a w_near_a w_there w_free w_held w_wind w_oil w_hour w_sights w_agreedTo w_refused i4 (by first | assumption | omega)) (rw_sub hP [0] rfl) (va_cwS 2 hts gX2_tell_X2_fits rfl rfl rfl hd_X2_fits ⟨(Nat.le_of_ble_eq_true rfl), (Nat.le_of_ble_eq_true rfl)⟩) rfl hl.1 rfl (Nat.le_of_ble_eq_true rfl) dX2_tell_12 (Nat.zero_le _) (Nat.zero_le _) ?_
      refine lv_if_eq (tgt := 37) hx hb dX2_tell_15 (by decide) (fun c15 => ?_) (fun c15 => ?_)
      · rw [if_pos c15] at hR
        refine lv_iinc (v := (nI (i4 + 1))) (lv' := [(3, .int (nI (i4 + 1))), (2, .int v2_4), (0, .ref w), (1, .int xi)]) hx hb dX2_tell_37 hl (k := 0) rfl (by exact nI_add i4 1) (by decide) rfl (fun ls hl => ?_)
        refine lv_goto (tgt := 4) hx hb dX2_tell_40 (by decide) ?_
        exact ih4 _ _ (by omega) _ (lv_sub hl [0, 1, 2, 3] rfl) hR
      · rw [if_neg c15] at hR
        refine lv_iload_n hx hb dX2_tell_18 rfl (lv_at hl 1 rfl) ?_
        refine lv_iload_n hx hb dX2_tell_19 rfl (lv_at hl 3 rfl) ?_
        refine lv_icmp_ne (tgt := 34) hx hb dX2_tell_20 (by decide) (fun c20 => ?_) (fun c20 => ?_)
        · rw [if_neg c20] at hR
          refine lv_iinc (v := (v2_4 + 1)) (lv' := [(2, .int (v2_4 + 1)), (3, .int (nI i4)), (0, .ref w), (1, .int xi)]) hx hb dX2_tell_34 hl (k := 1) rfl rfl (by decide) rfl (fun ls hl => ?_)
          refine lv_iinc (v := (nI (i4 + 1))) (lv' := [(3, .int (nI (i4 + 1))), (2, .int (v2_4 + 1)), (0, .ref w), (1, .int xi)]) hx hb dX2_tell_37 hl (k := 1) rfl (by exact nI_add i4 1) (by decide) rfl (fun ls hl => ?_)
          refine lv_goto (tgt := 4) hx hb dX2_tell_40 (by decide) ?_
          exact ih4 _ _ (by omega) _ (lv_sub hl [0, 1, 2, 3] rfl) hR
        · rw [if_pos c20] at hR
          refine lv_bipush (v := (10 : Int32)) hx hb dX2_tell_23 (by decide +kernel) ?_
          refine lv_iload_n hx hb dX2_tell_25 rfl (lv_at hl 0 rfl) ?_
          refine lv_iconst (v := (4 : Int32)) hx hb dX2_tell_26 (by decide) ?_
          refine lv_idiv hx hb dX2_tell_27 (by decide) ?_
          rw [show ((nI i4) / (4 : Int32)) = (nI (i4 / 4)) from pk_div (a := i4) (d := 4) (by omega) (by decide) (by decide)]
          refine lv_imul hx hb dX2_tell_28 ?_
          rw [show ((10 : Int32) * (nI (i4 / 4))) = (nI (10 * (i4 / 4))) from pk_mul 10 (i4 / 4)]
          refine lv_iload_n hx hb dX2_tell_29 rfl (lv_at hl 0 rfl) ?_
          refine lv_iconst (v := (4 : Int32)) hx hb dX2_tell_30 (by decide) ?_
          refine lv_irem hx hb dX2_tell_31 (by decide) ?_
          rw [show ((nI i4) - (nI i4) / (4 : Int32) * (4 : Int32)) = (nI (i4 % 4)) from pk_rem (a := i4) (d := 4) (by omega) (by decide) (by decide)]
          refine lv_iadd hx hb dX2_tell_32 ?_
          rw [show ((nI (10 * (i4 / 4))) + (nI (i4 % 4))) = (nI ((10 * (i4 / 4)) + (i4 % 4))) from nI_add (10 * (i4 / 4)) (i4 % 4)]
          subst hR
          exact ro_iret hx hb hr hlocks dX2_tell_33
  exact hloop4 32 0 _ (by omega) _ hl hR


theorem in_X2_countAgreeing_X2 : ∀ w ∈ u_ws RX2 TX2 3, w ∈ wsX2_countAgreeing := by decide +kernel
def lp_X2_countAgreeing_4 : Nat → Nat → (Nat → Int32) → (Nat → Int32)
  | 0, _, r1_4 => r1_4
  | k4 + 1, i4, r1_4 => (lp_X2_countAgreeing_4 k4 (i4 + 1) (upd r1_4 i4 (0 : Int32)))
def lp_X2_countAgreeing_51 (z1_51 : Int32) : Nat → Nat → (Nat → Int32) → (Nat → Int32)
  | 0, _, r1_51 => r1_51
  | k51 + 1, i51, r1_51 => (lp_X2_countAgreeing_51 z1_51 k51 (i51 + 1) (upd r1_51 i51 ((r1_51 i51) + ((z1_51 >>> ((nI i51) &&& 31)) &&& (1 : Int32)))))
def lp_X2_countAgreeing_25 (w_agreedTo : Int32) (w_refused : Int32) : Nat → Nat → (Nat → Int32) → Int32 → (Nat → Int32) × Int32
  | 0, _, r1_25, v2_25 => (r1_25, v2_25)
  | k25 + 1, i25, r1_25, v2_25 => (if ((f_X2_fits w_agreedTo w_refused i25) = 0) then (lp_X2_countAgreeing_25 w_agreedTo w_refused k25 (i25 + 1) r1_25 v2_25) else (lp_X2_countAgreeing_25 w_agreedTo w_refused k25 (i25 + 1) (lp_X2_countAgreeing_51 (f_X2_thingsOf i25) 8 0 r1_25) (v2_25 + 1)))
def f_X2_countAgreeing (gs_agreeing : Nat → Int32) (w_agreedTo : Int32) (w_refused : Int32) : Int32 × (Nat → Int32) :=
  ((lp_X2_countAgreeing_25 w_agreedTo w_refused 32 0 (lp_X2_countAgreeing_4 8 0 gs_agreeing) (0 : Int32)).2, (lp_X2_countAgreeing_25 w_agreedTo w_refused 32 0 (lp_X2_countAgreeing_4 8 0 gs_agreeing) (0 : Int32)).1)
set_option maxHeartbeats 4000000 in
set_option maxRecDepth 100000 in
theorem c_X2_countAgreeing (l : Launch) (D : va_G) (cI cJ cZ : ClassId) (gs : Nat) (gs_agreeing_a : Nat) (gs_thing : Int32) (gs_left : Int32) (gs_agreeing : Nat → Int32) (w : Nat) (w_points_a : Nat) (w_tired_a : Nat) (w_near_a : Nat) (w_there : Int32) (w_free : Int32) (w_held : Int32) (w_wind : Int32) (w_oil : Int32) (w_hour : Int32) (w_sights : Int32) (w_agreedTo : Int32) (w_refused : Int32) : RW l yX2_countAgreeing wsX2_countAgreeing ({ frames := 3, cells := 0, slots := 0, locals := 68 }) [.ref gs, .ref w] D cI cJ cZ [(gs, .inr (2, [.ref gs_agreeing_a, .int gs_thing, .int gs_left])), (gs_agreeing_a, .inl (cI, 8, .inl gs_agreeing)), (w, .inr (7, [.ref w_points_a, .ref w_tired_a, .ref w_near_a, .int w_there, .int w_free, .int w_held, .int w_wind, .int w_oil, .int w_hour, .int w_sights, .int w_agreedTo, .int w_refused]))] (some (.int ((f_X2_countAgreeing gs_agreeing w_agreedTo w_refused).1))) [(gs, .inr (2, [.ref gs_agreeing_a, .int gs_thing, .int gs_left])), (gs_agreeing_a, .inl (cI, 8, .inl ((f_X2_countAgreeing gs_agreeing w_agreedTo w_refused).2))), (w, .inr (7, [.ref w_points_a, .ref w_tired_a, .ref w_near_a, .int w_there, .int w_free, .int w_held, .int w_wind, .int w_oil, .int w_hour, .int w_sights, .int w_agreedTo, .int w_refused]))] := by
  obtain ⟨R0, R1, hR⟩ := prodE2 (f_X2_countAgreeing gs_agreeing w_agreedTo w_refused)
  rw [hR]
  dsimp only
  refine rw_start (cc := cX2_countAgreeing) (maxL := 6) (ret := (some .int)) (by decide) rfl (Nat.le_of_ble_eq_true rfl) ?_
  intro p e s m args below meth c hx hb hr hml hown hts hlocks hP hD hS hK ls hl
  have hown : s.vm.findClass RX2 = some m.cls := hown
  have hl : lv_has ls 6 [(0, .ref gs), (1, .ref w)] := hl
  have hq0 := hts (.fieldLink RX2 9 "StuckVanes$Guesses" "agreeing" "[I") (by decide +kernel)
  rw [f_X2_countAgreeing] at hR
  refine lv_iconst (v := (0 : Int32)) hx hb dX2_countAgreeing_0 (by decide) ?_
  refine lv_istore_n (lv' := [(2, .int (0 : Int32)), (0, .ref gs), (1, .ref w)]) hx hb dX2_countAgreeing_1 rfl hl (by decide) rfl (fun ls hl => ?_)
  refine lv_iconst (v := (0 : Int32)) hx hb dX2_countAgreeing_2 (by decide) ?_
  refine lv_istore_n (lv' := [(3, .int (0 : Int32)), (2, .int (0 : Int32)), (0, .ref gs), (1, .ref w)]) hx hb dX2_countAgreeing_3 rfl hl (by decide) rfl (fun ls hl => ?_)
  obtain ⟨F4_1, hF4_1⟩ : ∃ x, (lp_X2_countAgreeing_4 8 0 gs_agreeing) = x := ⟨_, rfl⟩
  try rw [hF4_1] at hR
  have hexit4 : ∀ (H : Heap) (locs : List Loc), va_P D vwCl [(gs, .inr (2, [.ref gs_agreeing_a, .int gs_thing, .int gs_left])), (gs_agreeing_a, .inl (cI, 8, .inl F4_1)), (w, .inr (7, [.ref w_points_a, .ref w_tired_a, .ref w_near_a, .int w_there, .int w_free, .int w_held, .int w_wind, .int w_oil, .int w_hour, .int w_sights, .int w_agreedTo, .int w_refused]))] H → va_D (va_In [(gs, .inr (2, [.ref gs_agreeing_a, .int gs_thing, .int gs_left])), (gs_agreeing_a, .inl (cI, 8, .inl gs_agreeing)), (w, .inr (7, [.ref w_points_a, .ref w_tired_a, .ref w_near_a, .int w_there, .int w_free, .int w_held, .int w_wind, .int w_oil, .int w_hour, .int w_sights, .int w_agreedTo, .int w_refused]))]) [(gs, .inr (2, [.ref gs_agreeing_a, .int gs_thing, .int gs_left])), (gs_agreeing_a, .inl (cI, 8, .inl F4_1)), (w, .inr (7, [.ref w_points_a, .ref w_tired_a, .ref w_near_a, .int w_there, .int w_free, .int w_held, .int w_wind, .int w_oil, .int w_hour, .int w_sights, .int w_agreedTo, .int w_refused]))] → va_S (va_In [(gs, .inr (2, [.ref gs_agreeing_a, .int gs_thing, .int gs_left])), (gs_agreeing_a, .inl (cI, 8, .inl gs_agreeing)), (w, .inr (7, [.ref w_points_a, .ref w_tired_a, .ref w_near_a, .int w_there, .int w_free, .int w_held, .int w_wind, .int w_oil, .int w_hour, .int w_sights, .int w_agreedTo, .int w_refused]))]) s.heap H locs → ∀ (ls : Array Slot), lv_has ls 6 [(2, .int (0 : Int32)), (0, .ref gs), (1, .ref w)] → W p l e ({ frames := 3, cells := 0, slots := 0, locals := 68 }) s m args below meth c H locs 0 0 (MQ below (rw_Q D (some (.int R0)) [(gs, .inr (2, [.ref gs_agreeing_a, .int gs_thing, .int gs_left])), (gs_agreeing_a, .inl (cI, 8, .inl gs_agreeing)), (w, .inr (7, [.ref w_points_a, .ref w_tired_a, .ref w_near_a, .int w_there, .int w_free, .int w_held, .int w_wind, .int w_oil, .int w_hour, .int w_sights, .int w_agreedTo, .int w_refused]))] [(gs, .inr (2, [.ref gs_agreeing_a, .int gs_thing, .int gs_left])), (gs_agreeing_a, .inl (cI, 8, .inl R1)), (w, .inr (7, [.ref w_points_a, .ref w_tired_a, .ref w_near_a, .int w_there, .int w_free, .int w_held, .int w_wind, .int w_oil, .int w_hour, .int w_sights, .int w_agreedTo, .int w_refused]))]) args s 0 0 (va_In [(gs, .inr (2, [.ref gs_agreeing_a, .int gs_thing, .int gs_left])), (gs_agreeing_a, .inl (cI, 8, .inl gs_agreeing)), (w, .inr (7, [.ref w_points_a, .ref w_tired_a, .ref w_near_a, .int w_there, .int w_free, .int w_held, .int w_wind, .int w_oil, .int w_hour, .int w_sights, .int w_agreedTo, .int w_refused]))])) (F0 m 23 ls []) := by
    intro H locs hP hD hS ls hl
    refine lv_iconst (v := (0 : Int32)) hx hb dX2_countAgreeing_23 (by decide) ?_
    refine lv_istore_n (lv' := [(3, .int (0 : Int32)), (2, .int (0 : Int32)), (0, .ref gs), (1, .ref w)]) hx hb dX2_countAgreeing_24 rfl hl (by decide) rfl (fun ls hl => ?_)
    obtain ⟨F25_2, hF25_2⟩ : ∃ x, (lp_X2_countAgreeing_25 w_agreedTo w_refused 32 0 F4_1 (0 : Int32)) = x := ⟨_, rfl⟩
    try rw [hF25_2] at hR
    have hexit25 : ∀ (H : Heap) (locs : List Loc), va_P D vwCl [(gs, .inr (2, [.ref gs_agreeing_a, .int gs_thing, .int gs_left])), (gs_agreeing_a, .inl (cI, 8, .inl F25_2.1)), (w, .inr (7, [.ref w_points_a, .ref w_tired_a, .ref w_near_a, .int w_there, .int w_free, .int w_held, .int w_wind, .int w_oil, .int w_hour, .int w_sights, .int w_agreedTo, .int w_refused]))] H → va_D (va_In [(gs, .inr (2, [.ref gs_agreeing_a, .int gs_thing, .int gs_left])), (gs_agreeing_a, .inl (cI, 8, .inl gs_agreeing)), (w, .inr (7, [.ref w_points_a, .ref w_tired_a, .ref w_near_a, .int w_there, .int w_free, .int w_held, .int w_wind, .int w_oil, .int w_hour, .int w_sights, .int w_agreedTo, .int w_refused]))]) [(gs, .inr (2, [.ref gs_agreeing_a, .int gs_thing, .int gs_left])), (gs_agreeing_a, .inl (cI, 8, .inl F25_2.1)), (w, .inr (7, [.ref w_points_a, .ref w_tired_a, .ref w_near_a, .int w_there, .int w_free, .int w_held, .int w_wind, .int w_oil, .int w_hour, .int w_sights, .int w_agreedTo, .int w_refused]))] → va_S (va_In [(gs, .inr (2, [.ref gs_agreeing_a, .int gs_thing, .int gs_left])), (gs_agreeing_a, .inl (cI, 8, .inl gs_agreeing)), (w, .inr (7, [.ref w_points_a, .ref w_tired_a, .ref w_near_a, .int w_there, .int w_free, .int w_held, .int w_wind, .int w_oil, .int w_hour, .int w_sights, .int w_agreedTo, .int w_refused]))]) s.heap H locs → ∀ (ls : Array Slot), lv_has ls 6 [(2, .int F25_2.2), (0, .ref gs), (1, .ref w)] → W p l e ({ frames := 3, cells := 0, slots := 0, locals := 68 }) s m args below meth c H locs 0 0 (MQ below (rw_Q D (some (.int R0)) [(gs, .inr (2, [.ref gs_agreeing_a, .int gs_thing, .int gs_left])), (gs_agreeing_a, .inl (cI, 8, .inl gs_agreeing)), (w, .inr (7, [.ref w_points_a, .ref w_tired_a, .ref w_near_a, .int w_there, .int w_free, .int w_held, .int w_wind, .int w_oil, .int w_hour, .int w_sights, .int w_agreedTo, .int w_refused]))] [(gs, .inr (2, [.ref gs_agreeing_a, .int gs_thing, .int gs_left])), (gs_agreeing_a, .inl (cI, 8, .inl R1)), (w, .inr (7, [.ref w_points_a, .ref w_tired_a, .ref w_near_a, .int w_there, .int w_free, .int w_held, .int w_wind, .int w_oil, .int w_hour, .int w_sights, .int w_agreedTo, .int w_refused]))]) args s 0 0 (va_In [(gs, .inr (2, [.ref gs_agreeing_a, .int gs_thing, .int gs_left])), (gs_agreeing_a, .inl (cI, 8, .inl gs_agreeing)), (w, .inr (7, [.ref w_points_a, .ref w_tired_a, .ref w_near_a, .int w_there, .int w_free, .int w_held, .int w_wind, .int w_oil, .int w_hour, .int w_sights, .int w_agreedTo, .int w_refused]))])) (F0 m 87 ls []) := by
      intro H locs hP hD hS ls hl
      refine lv_iload_n hx hb dX2_countAgreeing_87 rfl (lv_at hl 0 rfl) ?_
      obtain ⟨rfl, rfl⟩ := prodI2 hR
      exact rw_iret hx hb hr hlocks hP hS dX2_countAgreeing_88
    have hloop25 : ∀ (k25 i25 : Nat) (r1_25 : Nat → Int32) (v2_25 : Int32), i25 + k25 = 32 → ∀ (H : Heap) (locs : List Loc), va_P D vwCl [(gs, .inr (2, [.ref gs_agreeing_a, .int gs_thing, .int gs_left])), (gs_agreeing_a, .inl (cI, 8, .inl r1_25)), (w, .inr (7, [.ref w_points_a, .ref w_tired_a, .ref w_near_a, .int w_there, .int w_free, .int w_held, .int w_wind, .int w_oil, .int w_hour, .int w_sights, .int w_agreedTo, .int w_refused]))] H → va_D (va_In [(gs, .inr (2, [.ref gs_agreeing_a, .int gs_thing, .int gs_left])), (gs_agreeing_a, .inl (cI, 8, .inl gs_agreeing)), (w, .inr (7, [.ref w_points_a, .ref w_tired_a, .ref w_near_a, .int w_there, .int w_free, .int w_held, .int w_wind, .int w_oil, .int w_hour, .int w_sights, .int w_agreedTo, .int w_refused]))]) [(gs, .inr (2, [.ref gs_agreeing_a, .int gs_thing, .int gs_left])), (gs_agreeing_a, .inl (cI, 8, .inl r1_25)), (w, .inr (7, [.ref w_points_a, .ref w_tired_a, .ref w_near_a, .int w_there, .int w_free, .int w_held, .int w_wind, .int w_oil, .int w_hour, .int w_sights, .int w_agreedTo, .int w_refused]))] → va_S (va_In [(gs, .inr (2, [.ref gs_agreeing_a, .int gs_thing, .int gs_left])), (gs_agreeing_a, .inl (cI, 8, .inl gs_agreeing)), (w, .inr (7, [.ref w_points_a, .ref w_tired_a, .ref w_near_a, .int w_there, .int w_free, .int w_held, .int w_wind, .int w_oil, .int w_hour, .int w_sights, .int w_agreedTo, .int w_refused]))]) s.heap H locs → ∀ (ls : Array Slot), lv_has ls 6 [(3, .int (nI i25)), (2, .int v2_25), (0, .ref gs), (1, .ref w)] → lp_X2_countAgreeing_25 w_agreedTo w_refused k25 i25 r1_25 v2_25 = F25_2 → W p l e ({ frames := 3, cells := 0, slots := 0, locals := 68 }) s m args below meth c H locs 0 0 (MQ below (rw_Q D (some (.int R0)) [(gs, .inr (2, [.ref gs_agreeing_a, .int gs_thing, .int gs_left])), (gs_agreeing_a, .inl (cI, 8, .inl gs_agreeing)), (w, .inr (7, [.ref w_points_a, .ref w_tired_a, .ref w_near_a, .int w_there, .int w_free, .int w_held, .int w_wind, .int w_oil, .int w_hour, .int w_sights, .int w_agreedTo, .int w_refused]))] [(gs, .inr (2, [.ref gs_agreeing_a, .int gs_thing, .int gs_left])), (gs_agreeing_a, .inl (cI, 8, .inl R1)), (w, .inr (7, [.ref w_points_a, .ref w_tired_a, .ref w_near_a, .int w_there, .int w_free, .int w_held, .int w_wind, .int w_oil, .int w_hour, .int w_sights, .int w_agreedTo, .int w_refused]))]) args s 0 0 (va_In [(gs, .inr (2, [.ref gs_agreeing_a, .int gs_thing, .int gs_left])), (gs_agreeing_a, .inl (cI, 8, .inl gs_agreeing)), (w, .inr (7, [.ref w_points_a, .ref w_tired_a, .ref w_near_a, .int w_there, .int w_free, .int w_held, .int w_wind, .int w_oil, .int w_hour, .int w_sights, .int w_agreedTo, .int w_refused]))])) (F0 m 25 ls []) := by
      intro k25
      induction k25 with
      | zero =>
        intro i25 r1_25 v2_25 h25  H locs hP hD hS ls hl hR
        obtain rfl : 32 = i25 := by omega
        rw [lp_X2_countAgreeing_25] at hR
        refine lv_iload_n hx hb dX2_countAgreeing_25 rfl (lv_at hl 0 rfl) ?_
        refine lv_bipush (v := (32 : Int32)) hx hb dX2_countAgreeing_26 (by decide +kernel) ?_
        refine lv_icmp_ge (tgt := 87) hx hb dX2_countAgreeing_28 (by decide) (fun _ => ?_) (fun h => absurd (cle_t (a := 32) (b := 32) rfl rfl (by omega) (by omega)) h)
        subst hR
        exact hexit25 _ _ hP hD hS _ (lv_sub hl [1, 2, 3] rfl)
      | succ k25 ih25 =>
        intro i25 r1_25 v2_25 h25  H locs hP hD hS ls hl hR
        rw [lp_X2_countAgreeing_25] at hR
        refine lv_iload_n hx hb dX2_countAgreeing_25 rfl (lv_at hl 0 rfl) ?_
        refine lv_bipush (v := (32 : Int32)) hx hb dX2_countAgreeing_26 (by decide +kernel) ?_
        refine lv_icmp_ge (tgt := 87) hx hb dX2_countAgreeing_28 (by decide) (fun h => absurd h (cle_f (a := 32) (b := i25) rfl rfl (by omega) (by omega))) (fun _ => ?_)
        refine lv_aload_n hx hb dX2_countAgreeing_31 rfl (lv_at hl 3 rfl) ?_
        refine lv_iload_n hx hb dX2_countAgreeing_32 rfl (lv_at hl 0 rfl) ?_
        refine ro_S (As := [.ref w, .int (nI i25)]) (rest := []) ⟨hx, hb, hml, hown, hts⟩ hK (c_X2_fits l D cI cJ cZ w w_points_a w_tired_a w_near_a w_there w_free w_held w_wind w_oil w_hour w_sights w_agreedTo w_refused i25 (by first | assumption | omega)) (rw_sub hP [2] rfl) (va_cwS 2 hts gX2_countAgreeing_X2_fits rfl rfl rfl hd_X2_fits ⟨(Nat.le_of_ble_eq_true rfl), (Nat.le_of_ble_eq_true rfl)⟩) rfl hl.1 rfl (Nat.le_of_ble_eq_true rfl) dX2_countAgreeing_33 (Nat.zero_le _) (Nat.zero_le _) ?_
        refine lv_if_eq (tgt := 81) hx hb dX2_countAgreeing_36 (by decide) (fun c36 => ?_) (fun c36 => ?_)
        · rw [if_pos c36] at hR
          refine lv_iinc (v := (nI (i25 + 1))) (lv' := [(3, .int (nI (i25 + 1))), (2, .int v2_25), (0, .ref gs), (1, .ref w)]) hx hb dX2_countAgreeing_81 hl (k := 0) rfl (by exact nI_add i25 1) (by decide) rfl (fun ls hl => ?_)
          refine lv_goto (tgt := 25) hx hb dX2_countAgreeing_84 (by decide) ?_
          exact ih25 _ _ _ (by omega) _ _ hP hD hS _ (lv_sub hl [0, 1, 2, 3] rfl) hR
        · rw [if_neg c36] at hR
          refine lv_iinc (v := (v2_25 + 1)) (lv' := [(2, .int (v2_25 + 1)), (3, .int (nI i25)), (0, .ref gs), (1, .ref w)]) hx hb dX2_countAgreeing_39 hl (k := 1) rfl rfl (by decide) rfl (fun ls hl => ?_)
          refine lv_iload_n hx hb dX2_countAgreeing_42 rfl (lv_at hl 1 rfl) ?_
          refine ro_S (As := [.int (nI i25)]) (rest := []) ⟨hx, hb, hml, hown, hts⟩ hK (c_X2_thingsOf l D cI cJ cZ i25 (by first | assumption | omega)) va_P_nil (va_cwS 1 hts gX2_countAgreeing_X2_thingsOf rfl rfl rfl hd_X2_thingsOf ⟨(Nat.le_of_ble_eq_true rfl), (Nat.le_of_ble_eq_true rfl)⟩) rfl hl.1 rfl (Nat.le_of_ble_eq_true rfl) dX2_countAgreeing_43 (Nat.zero_le _) (Nat.zero_le _) ?_
          refine lv_istore (lv' := [(4, .int (f_X2_thingsOf i25)), (2, .int (v2_25 + 1)), (3, .int (nI i25)), (0, .ref gs), (1, .ref w)]) hx hb dX2_countAgreeing_46 hl (by decide) rfl (fun ls hl => ?_)
          refine lv_iconst (v := (0 : Int32)) hx hb dX2_countAgreeing_48 (by decide) ?_
          refine lv_istore (lv' := [(5, .int (0 : Int32)), (4, .int (f_X2_thingsOf i25)), (2, .int (v2_25 + 1)), (3, .int (nI i25)), (0, .ref gs), (1, .ref w)]) hx hb dX2_countAgreeing_49 hl (by decide) rfl (fun ls hl => ?_)
          obtain ⟨F51_3, hF51_3⟩ : ∃ x, (lp_X2_countAgreeing_51 (f_X2_thingsOf i25) 8 0 r1_25) = x := ⟨_, rfl⟩
          try rw [hF51_3] at hR
          have hexit51 : ∀ (H : Heap) (locs : List Loc), va_P D vwCl [(gs, .inr (2, [.ref gs_agreeing_a, .int gs_thing, .int gs_left])), (gs_agreeing_a, .inl (cI, 8, .inl F51_3)), (w, .inr (7, [.ref w_points_a, .ref w_tired_a, .ref w_near_a, .int w_there, .int w_free, .int w_held, .int w_wind, .int w_oil, .int w_hour, .int w_sights, .int w_agreedTo, .int w_refused]))] H → va_D (va_In [(gs, .inr (2, [.ref gs_agreeing_a, .int gs_thing, .int gs_left])), (gs_agreeing_a, .inl (cI, 8, .inl gs_agreeing)), (w, .inr (7, [.ref w_points_a, .ref w_tired_a, .ref w_near_a, .int w_there, .int w_free, .int w_held, .int w_wind, .int w_oil, .int w_hour, .int w_sights, .int w_agreedTo, .int w_refused]))]) [(gs, .inr (2, [.ref gs_agreeing_a, .int gs_thing, .int gs_left])), (gs_agreeing_a, .inl (cI, 8, .inl F51_3)), (w, .inr (7, [.ref w_points_a, .ref w_tired_a, .ref w_near_a, .int w_there, .int w_free, .int w_held, .int w_wind, .int w_oil, .int w_hour, .int w_sights, .int w_agreedTo, .int w_refused]))] → va_S (va_In [(gs, .inr (2, [.ref gs_agreeing_a, .int gs_thing, .int gs_left])), (gs_agreeing_a, .inl (cI, 8, .inl gs_agreeing)), (w, .inr (7, [.ref w_points_a, .ref w_tired_a, .ref w_near_a, .int w_there, .int w_free, .int w_held, .int w_wind, .int w_oil, .int w_hour, .int w_sights, .int w_agreedTo, .int w_refused]))]) s.heap H locs → ∀ (ls : Array Slot), lv_has ls 6 [(4, .int (f_X2_thingsOf i25)), (2, .int (v2_25 + 1)), (3, .int (nI i25)), (0, .ref gs), (1, .ref w)] → W p l e ({ frames := 3, cells := 0, slots := 0, locals := 68 }) s m args below meth c H locs 0 0 (MQ below (rw_Q D (some (.int R0)) [(gs, .inr (2, [.ref gs_agreeing_a, .int gs_thing, .int gs_left])), (gs_agreeing_a, .inl (cI, 8, .inl gs_agreeing)), (w, .inr (7, [.ref w_points_a, .ref w_tired_a, .ref w_near_a, .int w_there, .int w_free, .int w_held, .int w_wind, .int w_oil, .int w_hour, .int w_sights, .int w_agreedTo, .int w_refused]))] [(gs, .inr (2, [.ref gs_agreeing_a, .int gs_thing, .int gs_left])), (gs_agreeing_a, .inl (cI, 8, .inl R1)), (w, .inr (7, [.ref w_points_a, .ref w_tired_a, .ref w_near_a, .int w_there, .int w_free, .int w_held, .int w_wind, .int w_oil, .int w_hour, .int w_sights, .int w_agreedTo, .int w_refused]))]) args s 0 0 (va_In [(gs, .inr (2, [.ref gs_agreeing_a, .int gs_thing, .int gs_left])), (gs_agreeing_a, .inl (cI, 8, .inl gs_agreeing)), (w, .inr (7, [.ref w_points_a, .ref w_tired_a, .ref w_near_a, .int w_there, .int w_free, .int w_held, .int w_wind, .int w_oil, .int w_hour, .int w_sights, .int w_agreedTo, .int w_refused]))])) (F0 m 81 ls []) := by
            intro H locs hP hD hS ls hl
            refine lv_iinc (v := (nI (i25 + 1))) (lv' := [(3, .int (nI (i25 + 1))), (4, .int (f_X2_thingsOf i25)), (2, .int (v2_25 + 1)), (0, .ref gs), (1, .ref w)]) hx hb dX2_countAgreeing_81 hl (k := 2) rfl (by exact nI_add i25 1) (by decide) rfl (fun ls hl => ?_)
            refine lv_goto (tgt := 25) hx hb dX2_countAgreeing_84 (by decide) ?_
            exact ih25 _ _ _ (by omega) _ _ hP hD hS _ (lv_sub hl [0, 2, 3, 4] rfl) hR
          have hloop51 : ∀ (k51 i51 : Nat) (r1_51 : Nat → Int32), i51 + k51 = 8 → ∀ (H : Heap) (locs : List Loc), va_P D vwCl [(gs, .inr (2, [.ref gs_agreeing_a, .int gs_thing, .int gs_left])), (gs_agreeing_a, .inl (cI, 8, .inl r1_51)), (w, .inr (7, [.ref w_points_a, .ref w_tired_a, .ref w_near_a, .int w_there, .int w_free, .int w_held, .int w_wind, .int w_oil, .int w_hour, .int w_sights, .int w_agreedTo, .int w_refused]))] H → va_D (va_In [(gs, .inr (2, [.ref gs_agreeing_a, .int gs_thing, .int gs_left])), (gs_agreeing_a, .inl (cI, 8, .inl gs_agreeing)), (w, .inr (7, [.ref w_points_a, .ref w_tired_a, .ref w_near_a, .int w_there, .int w_free, .int w_held, .int w_wind, .int w_oil, .int w_hour, .int w_sights, .int w_agreedTo, .int w_refused]))]) [(gs, .inr (2, [.ref gs_agreeing_a, .int gs_thing, .int gs_left])), (gs_agreeing_a, .inl (cI, 8, .inl r1_51)), (w, .inr (7, [.ref w_points_a, .ref w_tired_a, .ref w_near_a, .int w_there, .int w_free, .int w_held, .int w_wind, .int w_oil, .int w_hour, .int w_sights, .int w_agreedTo, .int w_refused]))] → va_S (va_In [(gs, .inr (2, [.ref gs_agreeing_a, .int gs_thing, .int gs_left])), (gs_agreeing_a, .inl (cI, 8, .inl gs_agreeing)), (w, .inr (7, [.ref w_points_a, .ref w_tired_a, .ref w_near_a, .int w_there, .int w_free, .int w_held, .int w_wind, .int w_oil, .int w_hour, .int w_sights, .int w_agreedTo, .int w_refused]))]) s.heap H locs → ∀ (ls : Array Slot), lv_has ls 6 [(5, .int (nI i51)), (4, .int (f_X2_thingsOf i25)), (2, .int (v2_25 + 1)), (3, .int (nI i25)), (0, .ref gs), (1, .ref w)] → lp_X2_countAgreeing_51 (f_X2_thingsOf i25) k51 i51 r1_51 = F51_3 → W p l e ({ frames := 3, cells := 0, slots := 0, locals := 68 }) s m args below meth c H locs 0 0 (MQ below (rw_Q D (some (.int R0)) [(gs, .inr (2, [.ref gs_agreeing_a, .int gs_thing, .int gs_left])), (gs_agreeing_a, .inl (cI, 8, .inl gs_agreeing)), (w, .inr (7, [.ref w_points_a, .ref w_tired_a, .ref w_near_a, .int w_there, .int w_free, .int w_held, .int w_wind, .int w_oil, .int w_hour, .int w_sights, .int w_agreedTo, .int w_refused]))] [(gs, .inr (2, [.ref gs_agreeing_a, .int gs_thing, .int gs_left])), (gs_agreeing_a, .inl (cI, 8, .inl R1)), (w, .inr (7, [.ref w_points_a, .ref w_tired_a, .ref w_near_a, .int w_there, .int w_free, .int w_held, .int w_wind, .int w_oil, .int w_hour, .int w_sights, .int w_agreedTo, .int w_refused]))]) args s 0 0 (va_In [(gs, .inr (2, [.ref gs_agreeing_a, .int gs_thing, .int gs_left])), (gs_agreeing_a, .inl (cI, 8, .inl gs_agreeing)), (w, .inr (7, [.ref w_points_a, .ref w_tired_a, .ref w_near_a, .int w_there, .int w_free, .int w_held, .int w_wind, .int w_oil, .int w_hour, .int w_sights, .int w_agreedTo, .int w_refused]))])) (F0 m 51 ls []) := by
            intro k51
            induction k51 with
            | zero =>
              intro i51 r1_51 h51  H locs hP hD hS ls hl hR
              obtain rfl : 8 = i51 := by omega
              rw [lp_X2_countAgreeing_51] at hR
              refine lv_iload hx hb dX2_countAgreeing_51 (lv_at hl 0 rfl) ?_
              refine lv_bipush (v := (8 : Int32)) hx hb dX2_countAgreeing_53 (by decide +kernel) ?_
              refine lv_icmp_ge (tgt := 81) hx hb dX2_countAgreeing_55 (by decide) (fun _ => ?_) (fun h => absurd (cle_t (a := 8) (b := 8) rfl rfl (by omega) (by omega)) h)
              subst hR
              exact hexit51 _ _ hP hD hS _ (lv_sub hl [1, 2, 3, 4, 5] rfl)
            | succ k51 ih51 =>
              intro i51 r1_51 h51  H locs hP hD hS ls hl hR
              rw [lp_X2_countAgreeing_51] at hR
              refine lv_iload hx hb dX2_countAgreeing_51 (lv_at hl 0 rfl) ?_
              refine lv_bipush (v := (8 : Int32)) hx hb dX2_countAgreeing_53 (by decide +kernel) ?_
              refine lv_icmp_ge (tgt := 81) hx hb dX2_countAgreeing_55 (by decide) (fun h => absurd h (cle_f (a := 8) (b := i51) rfl rfl (by omega) (by omega))) (fun _ => ?_)
              refine lv_aload_n hx hb dX2_countAgreeing_58 rfl (lv_at hl 4 rfl) ?_
              refine va_get (D := D) (ci := 2) (v := .ref gs_agreeing_a) (C := RX2) (T := TX2) (N := 3) hx hb hts in_X2_countAgreeing_X2 hown hK.1 hP 0 rfl rfl 0 (by decide) hq0 (fun _ h9 => h9) rfl dX2_countAgreeing_59 ?_
              refine lv_iload hx hb dX2_countAgreeing_62 (lv_at hl 0 rfl) ?_
              refine lv_dup2_11 hx hb dX2_countAgreeing_64 rfl rfl ?_
              refine ia_ld hx hb hK hP 1 rfl (i := i51) (by omega) (by decide) dX2_countAgreeing_65 ?_
              refine lv_iload hx hb dX2_countAgreeing_66 (lv_at hl 1 rfl) ?_
              refine lv_iload hx hb dX2_countAgreeing_68 (lv_at hl 0 rfl) ?_
              refine lv_ishr hx hb dX2_countAgreeing_70 ?_
              refine lv_iconst (v := (1 : Int32)) hx hb dX2_countAgreeing_71 (by decide) ?_
              refine lv_iand hx hb dX2_countAgreeing_72 ?_
              refine lv_iadd hx hb dX2_countAgreeing_73 ?_
              refine ia_st hx hb hK hP hD hS 1 rfl (i := i51) (by omega) (by decide) dX2_countAgreeing_74 (fun H locs hP hD hS => ?_)
              have hP : va_P D vwCl [(gs, .inr (2, [.ref gs_agreeing_a, .int gs_thing, .int gs_left])), (gs_agreeing_a, .inl (cI, 8, .inl (upd r1_51 i51 ((r1_51 i51) + (((f_X2_thingsOf i25) >>> ((nI i51) &&& 31)) &&& (1 : Int32)))))), (w, .inr (7, [.ref w_points_a, .ref w_tired_a, .ref w_near_a, .int w_there, .int w_free, .int w_held, .int w_wind, .int w_oil, .int w_hour, .int w_sights, .int w_agreedTo, .int w_refused]))] H := hP
              have hD : va_D _ [(gs, .inr (2, [.ref gs_agreeing_a, .int gs_thing, .int gs_left])), (gs_agreeing_a, .inl (cI, 8, .inl (upd r1_51 i51 ((r1_51 i51) + (((f_X2_thingsOf i25) >>> ((nI i51) &&& 31)) &&& (1 : Int32)))))), (w, .inr (7, [.ref w_points_a, .ref w_tired_a, .ref w_near_a, .int w_there, .int w_free, .int w_held, .int w_wind, .int w_oil, .int w_hour, .int w_sights, .int w_agreedTo, .int w_refused]))] := hD
              refine lv_iinc (v := (nI (i51 + 1))) (lv' := [(5, .int (nI (i51 + 1))), (4, .int (f_X2_thingsOf i25)), (2, .int (v2_25 + 1)), (3, .int (nI i25)), (0, .ref gs), (1, .ref w)]) hx hb dX2_countAgreeing_75 hl (k := 0) rfl (by exact nI_add i51 1) (by decide) rfl (fun ls hl => ?_)
              refine lv_goto (tgt := 51) hx hb dX2_countAgreeing_78 (by decide) ?_
              exact ih51 _ _ (by omega) _ _ hP hD hS _ (lv_sub hl [0, 1, 2, 3, 4, 5] rfl) hR
          exact hloop51 8 0 _ (by omega) _ _ hP hD hS _ hl hF51_3
    exact hloop25 32 0 _ _ (by omega) _ _ hP hD hS _ hl hF25_2
  have hloop4 : ∀ (k4 i4 : Nat) (r1_4 : Nat → Int32), i4 + k4 = 8 → ∀ (H : Heap) (locs : List Loc), va_P D vwCl [(gs, .inr (2, [.ref gs_agreeing_a, .int gs_thing, .int gs_left])), (gs_agreeing_a, .inl (cI, 8, .inl r1_4)), (w, .inr (7, [.ref w_points_a, .ref w_tired_a, .ref w_near_a, .int w_there, .int w_free, .int w_held, .int w_wind, .int w_oil, .int w_hour, .int w_sights, .int w_agreedTo, .int w_refused]))] H → va_D (va_In [(gs, .inr (2, [.ref gs_agreeing_a, .int gs_thing, .int gs_left])), (gs_agreeing_a, .inl (cI, 8, .inl gs_agreeing)), (w, .inr (7, [.ref w_points_a, .ref w_tired_a, .ref w_near_a, .int w_there, .int w_free, .int w_held, .int w_wind, .int w_oil, .int w_hour, .int w_sights, .int w_agreedTo, .int w_refused]))]) [(gs, .inr (2, [.ref gs_agreeing_a, .int gs_thing, .int gs_left])), (gs_agreeing_a, .inl (cI, 8, .inl r1_4)), (w, .inr (7, [.ref w_points_a, .ref w_tired_a, .ref w_near_a, .int w_there, .int w_free, .int w_held, .int w_wind, .int w_oil, .int w_hour, .int w_sights, .int w_agreedTo, .int w_refused]))] → va_S (va_In [(gs, .inr (2, [.ref gs_agreeing_a, .int gs_thing, .int gs_left])), (gs_agreeing_a, .inl (cI, 8, .inl gs_agreeing)), (w, .inr (7, [.ref w_points_a, .ref w_tired_a, .ref w_near_a, .int w_there, .int w_free, .int w_held, .int w_wind, .int w_oil, .int w_hour, .int w_sights, .int w_agreedTo, .int w_refused]))]) s.heap H locs → ∀ (ls : Array Slot), lv_has ls 6 [(3, .int (nI i4)), (2, .int (0 : Int32)), (0, .ref gs), (1, .ref w)] → lp_X2_countAgreeing_4 k4 i4 r1_4 = F4_1 → W p l e ({ frames := 3, cells := 0, slots := 0, locals := 68 }) s m args below meth c H locs 0 0 (MQ below (rw_Q D (some (.int R0)) [(gs, .inr (2, [.ref gs_agreeing_a, .int gs_thing, .int gs_left])), (gs_agreeing_a, .inl (cI, 8, .inl gs_agreeing)), (w, .inr (7, [.ref w_points_a, .ref w_tired_a, .ref w_near_a, .int w_there, .int w_free, .int w_held, .int w_wind, .int w_oil, .int w_hour, .int w_sights, .int w_agreedTo, .int w_refused]))] [(gs, .inr (2, [.ref gs_agreeing_a, .int gs_thing, .int gs_left])), (gs_agreeing_a, .inl (cI, 8, .inl R1)), (w, .inr (7, [.ref w_points_a, .ref w_tired_a, .ref w_near_a, .int w_there, .int w_free, .int w_held, .int w_wind, .int w_oil, .int w_hour, .int w_sights, .int w_agreedTo, .int w_refused]))]) args s 0 0 (va_In [(gs, .inr (2, [.ref gs_agreeing_a, .int gs_thing, .int gs_left])), (gs_agreeing_a, .inl (cI, 8, .inl gs_agreeing)), (w, .inr (7, [.ref w_points_a, .ref w_tired_a, .ref w_near_a, .int w_there, .int w_free, .int w_held, .int w_wind, .int w_oil, .int w_hour, .int w_sights, .int w_agreedTo, .int w_refused]))])) (F0 m 4 ls []) := by
    intro k4
    induction k4 with
    | zero =>
      intro i4 r1_4 h4  H locs hP hD hS ls hl hR
      obtain rfl : 8 = i4 := by omega
      rw [lp_X2_countAgreeing_4] at hR
      refine lv_iload_n hx hb dX2_countAgreeing_4 rfl (lv_at hl 0 rfl) ?_
      refine lv_bipush (v := (8 : Int32)) hx hb dX2_countAgreeing_5 (by decide +kernel) ?_
      refine lv_icmp_ge (tgt := 23) hx hb dX2_countAgreeing_7 (by decide) (fun _ => ?_) (fun h => absurd (cle_t (a := 8) (b := 8) rfl rfl (by omega) (by omega)) h)
      subst hR
      exact hexit4 _ _ hP hD hS _ (lv_sub hl [1, 2, 3] rfl)
    | succ k4 ih4 =>
      intro i4 r1_4 h4  H locs hP hD hS ls hl hR
      rw [lp_X2_countAgreeing_4] at hR
      refine lv_iload_n hx hb dX2_countAgreeing_4 rfl (lv_at hl 0 rfl) ?_
      refine lv_bipush (v := (8 : Int32)) hx hb dX2_countAgreeing_5 (by decide +kernel) ?_
      refine lv_icmp_ge (tgt := 23) hx hb dX2_countAgreeing_7 (by decide) (fun h => absurd h (cle_f (a := 8) (b := i4) rfl rfl (by omega) (by omega))) (fun _ => ?_)
      refine lv_aload_n hx hb dX2_countAgreeing_10 rfl (lv_at hl 2 rfl) ?_
      refine va_get (D := D) (ci := 2) (v := .ref gs_agreeing_a) (C := RX2) (T := TX2) (N := 3) hx hb hts in_X2_countAgreeing_X2 hown hK.1 hP 0 rfl rfl 0 (by decide) hq0 (fun _ h9 => h9) rfl dX2_countAgreeing_11 ?_
      refine lv_iload_n hx hb dX2_countAgreeing_14 rfl (lv_at hl 0 rfl) ?_
      refine lv_iconst (v := (0 : Int32)) hx hb dX2_countAgreeing_15 (by decide) ?_
      refine ia_st hx hb hK hP hD hS 1 rfl (i := i4) (by omega) (by decide) dX2_countAgreeing_16 (fun H locs hP hD hS => ?_)
      have hP : va_P D vwCl [(gs, .inr (2, [.ref gs_agreeing_a, .int gs_thing, .int gs_left])), (gs_agreeing_a, .inl (cI, 8, .inl (upd r1_4 i4 (0 : Int32)))), (w, .inr (7, [.ref w_points_a, .ref w_tired_a, .ref w_near_a, .int w_there, .int w_free, .int w_held, .int w_wind, .int w_oil, .int w_hour, .int w_sights, .int w_agreedTo, .int w_refused]))] H := hP
      have hD : va_D _ [(gs, .inr (2, [.ref gs_agreeing_a, .int gs_thing, .int gs_left])), (gs_agreeing_a, .inl (cI, 8, .inl (upd r1_4 i4 (0 : Int32)))), (w, .inr (7, [.ref w_points_a, .ref w_tired_a, .ref w_near_a, .int w_there, .int w_free, .int w_held, .int w_wind, .int w_oil, .int w_hour, .int w_sights, .int w_agreedTo, .int w_refused]))] := hD
      refine lv_iinc (v := (nI (i4 + 1))) (lv' := [(3, .int (nI (i4 + 1))), (2, .int (0 : Int32)), (0, .ref gs), (1, .ref w)]) hx hb dX2_countAgreeing_17 hl (k := 0) rfl (by exact nI_add i4 1) (by decide) rfl (fun ls hl => ?_)
      refine lv_goto (tgt := 4) hx hb dX2_countAgreeing_20 (by decide) ?_
      exact ih4 _ _ (by omega) _ _ hP hD hS _ (lv_sub hl [0, 1, 2, 3] rfl) hR
  exact hloop4 8 0 _ (by omega) _ _ hP hD hS _ hl hF4_1


theorem in_X2_choose_X2 : ∀ w ∈ u_ws RX2 TX2 3, w ∈ wsX2_choose := by decide +kernel
theorem hd_X2_countAgreeing : yX2_countAgreeing.cls ≠ "java/lang/invoke/MethodHandle" ∧ yX2_countAgreeing.cls ≠ "java/lang/invoke/VarHandle" ∧ (parseMethodDescriptor yX2_countAgreeing.desc).map (fun d => d.parameters.length) = some 1 := by decide +kernel
def lp_X2_choose_20 (z1_20 : Int32) (z2_20 : Nat → Int32) : Nat → Nat → Int32 → Int32 → Int32 × Int32
  | 0, _, u0_1_20, u0_2_20 => (u0_1_20, u0_2_20)
  | k20 + 1, i20, u0_1_20, u0_2_20 => (if (z1_20 ≤ 0) then (u0_1_20, u0_2_20) else (if (u0_1_20 = (-6 : Int32)) then (lp_X2_choose_20 z1_20 z2_20 k20 (i20 + 1) (nI i20) (if (z2_20 i20) < (z1_20 - (z2_20 i20)) then (z1_20 - (z2_20 i20)) else (z2_20 i20))) else (if (u0_2_20 ≤ (if (z2_20 i20) < (z1_20 - (z2_20 i20)) then (z1_20 - (z2_20 i20)) else (z2_20 i20))) then (lp_X2_choose_20 z1_20 z2_20 k20 (i20 + 1) u0_1_20 u0_2_20) else (lp_X2_choose_20 z1_20 z2_20 k20 (i20 + 1) (nI i20) (if (z2_20 i20) < (z1_20 - (z2_20 i20)) then (z1_20 - (z2_20 i20)) else (z2_20 i20))))))
def f_X2_choose (gs_agreeing : Nat → Int32) (w_agreedTo : Int32) (w_refused : Int32) : Int32 × Int32 × (Nat → Int32) :=
  ((lp_X2_choose_20 ((f_X2_countAgreeing gs_agreeing w_agreedTo w_refused).1) ((f_X2_countAgreeing gs_agreeing w_agreedTo w_refused).2) 8 0 (-6 : Int32) (-6 : Int32)).1, (lp_X2_choose_20 ((f_X2_countAgreeing gs_agreeing w_agreedTo w_refused).1) ((f_X2_countAgreeing gs_agreeing w_agreedTo w_refused).2) 8 0 (-6 : Int32) (-6 : Int32)).2, ((f_X2_countAgreeing gs_agreeing w_agreedTo w_refused).2))
set_option maxHeartbeats 4000000 in
set_option maxRecDepth 100000 in
theorem c_X2_choose (l : Launch) (D : va_G) (cI cJ cZ : ClassId) (gs : Nat) (gs_agreeing_a : Nat) (gs_thing : Int32) (gs_left : Int32) (gs_agreeing : Nat → Int32) (w : Nat) (w_points_a : Nat) (w_tired_a : Nat) (w_near_a : Nat) (w_there : Int32) (w_free : Int32) (w_held : Int32) (w_wind : Int32) (w_oil : Int32) (w_hour : Int32) (w_sights : Int32) (w_agreedTo : Int32) (w_refused : Int32) : RW l yX2_choose wsX2_choose ({ frames := 4, cells := 0, slots := 0, locals := 93 }) [.ref gs, .ref w] D cI cJ cZ [(gs, .inr (2, [.ref gs_agreeing_a, .int gs_thing, .int gs_left])), (gs_agreeing_a, .inl (cI, 8, .inl gs_agreeing)), (w, .inr (7, [.ref w_points_a, .ref w_tired_a, .ref w_near_a, .int w_there, .int w_free, .int w_held, .int w_wind, .int w_oil, .int w_hour, .int w_sights, .int w_agreedTo, .int w_refused]))] none [(gs, .inr (2, [.ref gs_agreeing_a, .int ((f_X2_choose gs_agreeing w_agreedTo w_refused).1), .int ((f_X2_choose gs_agreeing w_agreedTo w_refused).2.1)])), (gs_agreeing_a, .inl (cI, 8, .inl ((f_X2_choose gs_agreeing w_agreedTo w_refused).2.2))), (w, .inr (7, [.ref w_points_a, .ref w_tired_a, .ref w_near_a, .int w_there, .int w_free, .int w_held, .int w_wind, .int w_oil, .int w_hour, .int w_sights, .int w_agreedTo, .int w_refused]))] := by
  obtain ⟨R0, R1, R2, hR⟩ := prodE3 (f_X2_choose gs_agreeing w_agreedTo w_refused)
  rw [hR]
  dsimp only
  refine rw_start (cc := cX2_choose) (maxL := 5) (ret := none) (by decide) rfl (Nat.le_of_ble_eq_true rfl) ?_
  intro p e s m args below meth c hx hb hr hml hown hts hlocks hP hD hS hK ls hl
  have hown : s.vm.findClass RX2 = some m.cls := hown
  have hl : lv_has ls 5 [(0, .ref gs), (1, .ref w)] := hl
  have hq0 := hts (.fieldLink RX2 23 "StuckVanes$Guesses" "thing" "I") (by decide +kernel)
  have hq1 := hts (.fieldLink RX2 27 "StuckVanes$Guesses" "left" "I") (by decide +kernel)
  have hq2 := hts (.fieldLink RX2 9 "StuckVanes$Guesses" "agreeing" "[I") (by decide +kernel)
  have hq3 := hts (.methodLink RX2 30 Lib.Math.max.name) (by decide +kernel)
  have hq4 := hts (.static Lib.Math.max.name) (by decide +kernel)
  have hq5 := hts (.initialized "java/lang/Math") (by decide +kernel)
  have hq6 := hts (.code Lib.Math.max.name Lib.Math.max.code 2 (some .int)) (by decide +kernel)
  rw [f_X2_choose] at hR
  refine lv_aload_n hx hb dX2_choose_0 rfl (lv_at hl 0 rfl) ?_
  refine lv_aload_n hx hb dX2_choose_1 rfl (lv_at hl 1 rfl) ?_
  refine rw_V (As := [.ref w]) (rest := []) (wr := []) (ws2 := [(gs, .inr (2, [.ref gs_agreeing_a, .int gs_thing, .int gs_left])), (gs_agreeing_a, .inl (cI, 8, .inl ((f_X2_countAgreeing gs_agreeing w_agreedTo w_refused).2))), (w, .inr (7, [.ref w_points_a, .ref w_tired_a, .ref w_near_a, .int w_there, .int w_free, .int w_held, .int w_wind, .int w_oil, .int w_hour, .int w_sights, .int w_agreedTo, .int w_refused]))]) (st1 := [.int ((f_X2_countAgreeing gs_agreeing w_agreedTo w_refused).1)]) ⟨hx, hb, hml, hown, hts⟩ hK hP hD hS (c_X2_countAgreeing l D cI cJ cZ gs gs_agreeing_a gs_thing gs_left gs_agreeing w w_points_a w_tired_a w_near_a w_there w_free w_held w_wind w_oil w_hour w_sights w_agreedTo w_refused) 0 rfl rfl [0, 1, 2] [] [0, 1, 2] rfl rfl (by decide) (by decide) rfl rfl rfl (cwV 1 hts gX2_choose_X2_countAgreeing rfl rfl rfl ⟨rfl, hd_X2_countAgreeing⟩ ⟨(Nat.le_of_ble_eq_true rfl), (Nat.le_of_ble_eq_true rfl)⟩) rfl hl.1 rfl (Nat.le_of_ble_eq_true rfl) dX2_choose_2 (Nat.zero_le _) (Nat.zero_le _) (fun H locs hP hD hS => ?_)
  refine lv_istore_n (lv' := [(2, .int ((f_X2_countAgreeing gs_agreeing w_agreedTo w_refused).1)), (0, .ref gs), (1, .ref w)]) hx hb dX2_choose_5 rfl hl (by decide) rfl (fun ls hl => ?_)
  refine lv_aload_n hx hb dX2_choose_6 rfl (lv_at hl 1 rfl) ?_
  refine lv_bipush (v := (-6 : Int32)) hx hb dX2_choose_7 (by decide +kernel) ?_
  refine va_put (D := D) (ci := 2) (v := .int (-6 : Int32)) (ty := .int) (C := RX2) (T := TX2) (N := 3) hx hb hts in_X2_choose_X2 tyX2 tyX2_ok nmX2 hown hK.1 hP hD hS 0 rfl rfl 1 (by decide) hq0 (fun _ h9 => h9) rfl (by decide +kernel) rfl rfl (Nat.le_of_ble_eq_true rfl) dX2_choose_9 (fun H locs hP hD hS => ?_)
  have hP : va_P D vwCl [(gs, .inr (2, [.ref gs_agreeing_a, .int (-6 : Int32), .int gs_left])), (gs_agreeing_a, .inl (cI, 8, .inl ((f_X2_countAgreeing gs_agreeing w_agreedTo w_refused).2))), (w, .inr (7, [.ref w_points_a, .ref w_tired_a, .ref w_near_a, .int w_there, .int w_free, .int w_held, .int w_wind, .int w_oil, .int w_hour, .int w_sights, .int w_agreedTo, .int w_refused]))] H := hP
  have hD : va_D _ [(gs, .inr (2, [.ref gs_agreeing_a, .int (-6 : Int32), .int gs_left])), (gs_agreeing_a, .inl (cI, 8, .inl ((f_X2_countAgreeing gs_agreeing w_agreedTo w_refused).2))), (w, .inr (7, [.ref w_points_a, .ref w_tired_a, .ref w_near_a, .int w_there, .int w_free, .int w_held, .int w_wind, .int w_oil, .int w_hour, .int w_sights, .int w_agreedTo, .int w_refused]))] := hD
  refine lv_aload_n hx hb dX2_choose_12 rfl (lv_at hl 1 rfl) ?_
  refine lv_bipush (v := (-6 : Int32)) hx hb dX2_choose_13 (by decide +kernel) ?_
  refine va_put (D := D) (ci := 2) (v := .int (-6 : Int32)) (ty := .int) (C := RX2) (T := TX2) (N := 3) hx hb hts in_X2_choose_X2 tyX2 tyX2_ok nmX2 hown hK.1 hP hD hS 0 rfl rfl 2 (by decide) hq1 (fun _ h9 => h9) rfl (by decide +kernel) rfl rfl (Nat.le_of_ble_eq_true rfl) dX2_choose_15 (fun H locs hP hD hS => ?_)
  have hP : va_P D vwCl [(gs, .inr (2, [.ref gs_agreeing_a, .int (-6 : Int32), .int (-6 : Int32)])), (gs_agreeing_a, .inl (cI, 8, .inl ((f_X2_countAgreeing gs_agreeing w_agreedTo w_refused).2))), (w, .inr (7, [.ref w_points_a, .ref w_tired_a, .ref w_near_a, .int w_there, .int w_free, .int w_held, .int w_wind, .int w_oil, .int w_hour, .int w_sights, .int w_agreedTo, .int w_refused]))] H := hP
  have hD : va_D _ [(gs, .inr (2, [.ref gs_agreeing_a, .int (-6 : Int32), .int (-6 : Int32)])), (gs_agreeing_a, .inl (cI, 8, .inl ((f_X2_countAgreeing gs_agreeing w_agreedTo w_refused).2))), (w, .inr (7, [.ref w_points_a, .ref w_tired_a, .ref w_near_a, .int w_there, .int w_free, .int w_held, .int w_wind, .int w_oil, .int w_hour, .int w_sights, .int w_agreedTo, .int w_refused]))] := hD
  refine lv_iconst (v := (0 : Int32)) hx hb dX2_choose_18 (by decide) ?_
  refine lv_istore_n (lv' := [(3, .int (0 : Int32)), (2, .int ((f_X2_countAgreeing gs_agreeing w_agreedTo w_refused).1)), (0, .ref gs), (1, .ref w)]) hx hb dX2_choose_19 rfl hl (by decide) rfl (fun ls hl => ?_)
  obtain ⟨F20_1, hF20_1⟩ : ∃ x, (lp_X2_choose_20 ((f_X2_countAgreeing gs_agreeing w_agreedTo w_refused).1) ((f_X2_countAgreeing gs_agreeing w_agreedTo w_refused).2) 8 0 (-6 : Int32) (-6 : Int32)) = x := ⟨_, rfl⟩
  try rw [hF20_1] at hR
  have hexit20 : ∀ (H : Heap) (locs : List Loc), va_P D vwCl [(gs, .inr (2, [.ref gs_agreeing_a, .int F20_1.1, .int F20_1.2])), (gs_agreeing_a, .inl (cI, 8, .inl ((f_X2_countAgreeing gs_agreeing w_agreedTo w_refused).2))), (w, .inr (7, [.ref w_points_a, .ref w_tired_a, .ref w_near_a, .int w_there, .int w_free, .int w_held, .int w_wind, .int w_oil, .int w_hour, .int w_sights, .int w_agreedTo, .int w_refused]))] H → va_D (va_In [(gs, .inr (2, [.ref gs_agreeing_a, .int gs_thing, .int gs_left])), (gs_agreeing_a, .inl (cI, 8, .inl gs_agreeing)), (w, .inr (7, [.ref w_points_a, .ref w_tired_a, .ref w_near_a, .int w_there, .int w_free, .int w_held, .int w_wind, .int w_oil, .int w_hour, .int w_sights, .int w_agreedTo, .int w_refused]))]) [(gs, .inr (2, [.ref gs_agreeing_a, .int F20_1.1, .int F20_1.2])), (gs_agreeing_a, .inl (cI, 8, .inl ((f_X2_countAgreeing gs_agreeing w_agreedTo w_refused).2))), (w, .inr (7, [.ref w_points_a, .ref w_tired_a, .ref w_near_a, .int w_there, .int w_free, .int w_held, .int w_wind, .int w_oil, .int w_hour, .int w_sights, .int w_agreedTo, .int w_refused]))] → va_S (va_In [(gs, .inr (2, [.ref gs_agreeing_a, .int gs_thing, .int gs_left])), (gs_agreeing_a, .inl (cI, 8, .inl gs_agreeing)), (w, .inr (7, [.ref w_points_a, .ref w_tired_a, .ref w_near_a, .int w_there, .int w_free, .int w_held, .int w_wind, .int w_oil, .int w_hour, .int w_sights, .int w_agreedTo, .int w_refused]))]) s.heap H locs → ∀ (ls : Array Slot), lv_has ls 5 [(2, .int ((f_X2_countAgreeing gs_agreeing w_agreedTo w_refused).1)), (0, .ref gs), (1, .ref w)] → W p l e ({ frames := 4, cells := 0, slots := 0, locals := 93 }) s m args below meth c H locs 0 0 (MQ below (rw_Q D none [(gs, .inr (2, [.ref gs_agreeing_a, .int gs_thing, .int gs_left])), (gs_agreeing_a, .inl (cI, 8, .inl gs_agreeing)), (w, .inr (7, [.ref w_points_a, .ref w_tired_a, .ref w_near_a, .int w_there, .int w_free, .int w_held, .int w_wind, .int w_oil, .int w_hour, .int w_sights, .int w_agreedTo, .int w_refused]))] [(gs, .inr (2, [.ref gs_agreeing_a, .int R0, .int R1])), (gs_agreeing_a, .inl (cI, 8, .inl R2)), (w, .inr (7, [.ref w_points_a, .ref w_tired_a, .ref w_near_a, .int w_there, .int w_free, .int w_held, .int w_wind, .int w_oil, .int w_hour, .int w_sights, .int w_agreedTo, .int w_refused]))]) args s 0 0 (va_In [(gs, .inr (2, [.ref gs_agreeing_a, .int gs_thing, .int gs_left])), (gs_agreeing_a, .inl (cI, 8, .inl gs_agreeing)), (w, .inr (7, [.ref w_points_a, .ref w_tired_a, .ref w_near_a, .int w_there, .int w_free, .int w_held, .int w_wind, .int w_oil, .int w_hour, .int w_sights, .int w_agreedTo, .int w_refused]))])) (F0 m 84 ls []) := by
    intro H locs hP hD hS ls hl
    obtain ⟨rfl, rfl, rfl⟩ := prodI3 hR
    exact rw_vret hx hb hr hlocks hP hS dX2_choose_84
  have hloop20 : ∀ (k20 i20 : Nat) (u0_1_20 : Int32) (u0_2_20 : Int32), i20 + k20 = 8 → ∀ (H : Heap) (locs : List Loc), va_P D vwCl [(gs, .inr (2, [.ref gs_agreeing_a, .int u0_1_20, .int u0_2_20])), (gs_agreeing_a, .inl (cI, 8, .inl ((f_X2_countAgreeing gs_agreeing w_agreedTo w_refused).2))), (w, .inr (7, [.ref w_points_a, .ref w_tired_a, .ref w_near_a, .int w_there, .int w_free, .int w_held, .int w_wind, .int w_oil, .int w_hour, .int w_sights, .int w_agreedTo, .int w_refused]))] H → va_D (va_In [(gs, .inr (2, [.ref gs_agreeing_a, .int gs_thing, .int gs_left])), (gs_agreeing_a, .inl (cI, 8, .inl gs_agreeing)), (w, .inr (7, [.ref w_points_a, .ref w_tired_a, .ref w_near_a, .int w_there, .int w_free, .int w_held, .int w_wind, .int w_oil, .int w_hour, .int w_sights, .int w_agreedTo, .int w_refused]))]) [(gs, .inr (2, [.ref gs_agreeing_a, .int u0_1_20, .int u0_2_20])), (gs_agreeing_a, .inl (cI, 8, .inl ((f_X2_countAgreeing gs_agreeing w_agreedTo w_refused).2))), (w, .inr (7, [.ref w_points_a, .ref w_tired_a, .ref w_near_a, .int w_there, .int w_free, .int w_held, .int w_wind, .int w_oil, .int w_hour, .int w_sights, .int w_agreedTo, .int w_refused]))] → va_S (va_In [(gs, .inr (2, [.ref gs_agreeing_a, .int gs_thing, .int gs_left])), (gs_agreeing_a, .inl (cI, 8, .inl gs_agreeing)), (w, .inr (7, [.ref w_points_a, .ref w_tired_a, .ref w_near_a, .int w_there, .int w_free, .int w_held, .int w_wind, .int w_oil, .int w_hour, .int w_sights, .int w_agreedTo, .int w_refused]))]) s.heap H locs → ∀ (ls : Array Slot), lv_has ls 5 [(3, .int (nI i20)), (2, .int ((f_X2_countAgreeing gs_agreeing w_agreedTo w_refused).1)), (0, .ref gs), (1, .ref w)] → lp_X2_choose_20 ((f_X2_countAgreeing gs_agreeing w_agreedTo w_refused).1) ((f_X2_countAgreeing gs_agreeing w_agreedTo w_refused).2) k20 i20 u0_1_20 u0_2_20 = F20_1 → W p l e ({ frames := 4, cells := 0, slots := 0, locals := 93 }) s m args below meth c H locs 0 0 (MQ below (rw_Q D none [(gs, .inr (2, [.ref gs_agreeing_a, .int gs_thing, .int gs_left])), (gs_agreeing_a, .inl (cI, 8, .inl gs_agreeing)), (w, .inr (7, [.ref w_points_a, .ref w_tired_a, .ref w_near_a, .int w_there, .int w_free, .int w_held, .int w_wind, .int w_oil, .int w_hour, .int w_sights, .int w_agreedTo, .int w_refused]))] [(gs, .inr (2, [.ref gs_agreeing_a, .int R0, .int R1])), (gs_agreeing_a, .inl (cI, 8, .inl R2)), (w, .inr (7, [.ref w_points_a, .ref w_tired_a, .ref w_near_a, .int w_there, .int w_free, .int w_held, .int w_wind, .int w_oil, .int w_hour, .int w_sights, .int w_agreedTo, .int w_refused]))]) args s 0 0 (va_In [(gs, .inr (2, [.ref gs_agreeing_a, .int gs_thing, .int gs_left])), (gs_agreeing_a, .inl (cI, 8, .inl gs_agreeing)), (w, .inr (7, [.ref w_points_a, .ref w_tired_a, .ref w_near_a, .int w_there, .int w_free, .int w_held, .int w_wind, .int w_oil, .int w_hour, .int w_sights, .int w_agreedTo, .int w_refused]))])) (F0 m 20 ls []) := by
    intro k20
    induction k20 with
    | zero =>
      intro i20 u0_1_20 u0_2_20 h20  H locs hP hD hS ls hl hR
      obtain rfl : 8 = i20 := by omega
      rw [lp_X2_choose_20] at hR
      refine lv_iload_n hx hb dX2_choose_20 rfl (lv_at hl 0 rfl) ?_
      refine lv_bipush (v := (8 : Int32)) hx hb dX2_choose_21 (by decide +kernel) ?_
      refine lv_icmp_ge (tgt := 84) hx hb dX2_choose_23 (by decide) (fun _ => ?_) (fun h => absurd (cle_t (a := 8) (b := 8) rfl rfl (by omega) (by omega)) h)
      subst hR
      exact hexit20 _ _ hP hD hS _ (lv_sub hl [1, 2, 3] rfl)
    | succ k20 ih20 =>
      intro i20 u0_1_20 u0_2_20 h20  H locs hP hD hS ls hl hR
      rw [lp_X2_choose_20] at hR
      refine lv_iload_n hx hb dX2_choose_20 rfl (lv_at hl 0 rfl) ?_
      refine lv_bipush (v := (8 : Int32)) hx hb dX2_choose_21 (by decide +kernel) ?_
      refine lv_icmp_ge (tgt := 84) hx hb dX2_choose_23 (by decide) (fun h => absurd h (cle_f (a := 8) (b := i20) rfl rfl (by omega) (by omega))) (fun _ => ?_)
      refine lv_iload_n hx hb dX2_choose_26 rfl (lv_at hl 1 rfl) ?_
      refine lv_if_le (tgt := 84) hx hb dX2_choose_27 (by decide) (fun c27 => ?_) (fun c27 => ?_)
      · rw [if_pos c27] at hR
        subst hR
        exact hexit20 _ _ hP hD hS _ (lv_sub hl [1, 2, 3] rfl)
      · rw [if_neg c27] at hR
        refine lv_aload_n hx hb dX2_choose_30 rfl (lv_at hl 2 rfl) ?_
        refine va_get (D := D) (ci := 2) (v := .ref gs_agreeing_a) (C := RX2) (T := TX2) (N := 3) hx hb hts in_X2_choose_X2 hown hK.1 hP 0 rfl rfl 0 (by decide) hq2 (fun _ h9 => h9) rfl dX2_choose_31 ?_
        refine lv_iload_n hx hb dX2_choose_34 rfl (lv_at hl 0 rfl) ?_
        refine ia_ld hx hb hK hP 1 rfl (i := i20) (by omega) (by decide) dX2_choose_35 ?_
        refine lv_iload_n hx hb dX2_choose_36 rfl (lv_at hl 1 rfl) ?_
        refine lv_aload_n hx hb dX2_choose_37 rfl (lv_at hl 2 rfl) ?_
        refine va_get (D := D) (ci := 2) (v := .ref gs_agreeing_a) (C := RX2) (T := TX2) (N := 3) hx hb hts in_X2_choose_X2 hown hK.1 hP 0 rfl rfl 0 (by decide) hq2 (fun _ h9 => h9) rfl dX2_choose_38 ?_
        refine lv_iload_n hx hb dX2_choose_41 rfl (lv_at hl 0 rfl) ?_
        refine ia_ld hx hb hK hP 1 rfl (i := i20) (by omega) (by decide) dX2_choose_42 ?_
        refine lv_isub hx hb dX2_choose_43 ?_
        refine va_mmax (rest := []) hx hb (hml.trans hl.1.symm) hown hq3 hq4 hq5 hq6 (Nat.le_of_ble_eq_true rfl) (Nat.le_of_ble_eq_true rfl) (Nat.zero_le _) (Nat.zero_le _) dX2_choose_44 ?_
        refine lv_istore (lv' := [(4, .int (if (((f_X2_countAgreeing gs_agreeing w_agreedTo w_refused).2) i20) < (((f_X2_countAgreeing gs_agreeing w_agreedTo w_refused).1) - (((f_X2_countAgreeing gs_agreeing w_agreedTo w_refused).2) i20)) then (((f_X2_countAgreeing gs_agreeing w_agreedTo w_refused).1) - (((f_X2_countAgreeing gs_agreeing w_agreedTo w_refused).2) i20)) else (((f_X2_countAgreeing gs_agreeing w_agreedTo w_refused).2) i20))), (3, .int (nI i20)), (2, .int ((f_X2_countAgreeing gs_agreeing w_agreedTo w_refused).1)), (0, .ref gs), (1, .ref w)]) hx hb dX2_choose_47 hl (by decide) rfl (fun ls hl => ?_)
        refine lv_aload_n hx hb dX2_choose_49 rfl (lv_at hl 3 rfl) ?_
        refine va_get (D := D) (ci := 2) (v := .int u0_1_20) (C := RX2) (T := TX2) (N := 3) hx hb hts in_X2_choose_X2 hown hK.1 hP 0 rfl rfl 1 (by decide) hq0 (fun _ h9 => h9) rfl dX2_choose_50 ?_
        refine lv_bipush (v := (-6 : Int32)) hx hb dX2_choose_53 (by decide +kernel) ?_
        refine lv_icmp_eq (tgt := 67) hx hb dX2_choose_55 (by decide) (fun c55 => ?_) (fun c55 => ?_)
        · rw [if_pos c55] at hR
          refine lv_aload_n hx hb dX2_choose_67 rfl (lv_at hl 3 rfl) ?_
          refine lv_iload_n hx hb dX2_choose_68 rfl (lv_at hl 1 rfl) ?_
          refine va_put (D := D) (ci := 2) (v := .int (nI i20)) (ty := .int) (C := RX2) (T := TX2) (N := 3) hx hb hts in_X2_choose_X2 tyX2 tyX2_ok nmX2 hown hK.1 hP hD hS 0 rfl rfl 1 (by decide) hq0 (fun _ h9 => h9) rfl (by decide +kernel) rfl rfl (Nat.le_of_ble_eq_true rfl) dX2_choose_69 (fun H locs hP hD hS => ?_)
          have hP : va_P D vwCl [(gs, .inr (2, [.ref gs_agreeing_a, .int (nI i20), .int u0_2_20])), (gs_agreeing_a, .inl (cI, 8, .inl ((f_X2_countAgreeing gs_agreeing w_agreedTo w_refused).2))), (w, .inr (7, [.ref w_points_a, .ref w_tired_a, .ref w_near_a, .int w_there, .int w_free, .int w_held, .int w_wind, .int w_oil, .int w_hour, .int w_sights, .int w_agreedTo, .int w_refused]))] H := hP
          have hD : va_D _ [(gs, .inr (2, [.ref gs_agreeing_a, .int (nI i20), .int u0_2_20])), (gs_agreeing_a, .inl (cI, 8, .inl ((f_X2_countAgreeing gs_agreeing w_agreedTo w_refused).2))), (w, .inr (7, [.ref w_points_a, .ref w_tired_a, .ref w_near_a, .int w_there, .int w_free, .int w_held, .int w_wind, .int w_oil, .int w_hour, .int w_sights, .int w_agreedTo, .int w_refused]))] := hD
          refine lv_aload_n hx hb dX2_choose_72 rfl (lv_at hl 3 rfl) ?_
          refine lv_iload hx hb dX2_choose_73 (lv_at hl 0 rfl) ?_
          refine va_put (D := D) (ci := 2) (v := .int (if (((f_X2_countAgreeing gs_agreeing w_agreedTo w_refused).2) i20) < (((f_X2_countAgreeing gs_agreeing w_agreedTo w_refused).1) - (((f_X2_countAgreeing gs_agreeing w_agreedTo w_refused).2) i20)) then (((f_X2_countAgreeing gs_agreeing w_agreedTo w_refused).1) - (((f_X2_countAgreeing gs_agreeing w_agreedTo w_refused).2) i20)) else (((f_X2_countAgreeing gs_agreeing w_agreedTo w_refused).2) i20))) (ty := .int) (C := RX2) (T := TX2) (N := 3) hx hb hts in_X2_choose_X2 tyX2 tyX2_ok nmX2 hown hK.1 hP hD hS 0 rfl rfl 2 (by decide) hq1 (fun _ h9 => h9) rfl (by decide +kernel) rfl rfl (Nat.le_of_ble_eq_true rfl) dX2_choose_75 (fun H locs hP hD hS => ?_)
          have hP : va_P D vwCl [(gs, .inr (2, [.ref gs_agreeing_a, .int (nI i20), .int (if (((f_X2_countAgreeing gs_agreeing w_agreedTo w_refused).2) i20) < (((f_X2_countAgreeing gs_agreeing w_agreedTo w_refused).1) - (((f_X2_countAgreeing gs_agreeing w_agreedTo w_refused).2) i20)) then (((f_X2_countAgreeing gs_agreeing w_agreedTo w_refused).1) - (((f_X2_countAgreeing gs_agreeing w_agreedTo w_refused).2) i20)) else (((f_X2_countAgreeing gs_agreeing w_agreedTo w_refused).2) i20))])), (gs_agreeing_a, .inl (cI, 8, .inl ((f_X2_countAgreeing gs_agreeing w_agreedTo w_refused).2))), (w, .inr (7, [.ref w_points_a, .ref w_tired_a, .ref w_near_a, .int w_there, .int w_free, .int w_held, .int w_wind, .int w_oil, .int w_hour, .int w_sights, .int w_agreedTo, .int w_refused]))] H := hP
          have hD : va_D _ [(gs, .inr (2, [.ref gs_agreeing_a, .int (nI i20), .int (if (((f_X2_countAgreeing gs_agreeing w_agreedTo w_refused).2) i20) < (((f_X2_countAgreeing gs_agreeing w_agreedTo w_refused).1) - (((f_X2_countAgreeing gs_agreeing w_agreedTo w_refused).2) i20)) then (((f_X2_countAgreeing gs_agreeing w_agreedTo w_refused).1) - (((f_X2_countAgreeing gs_agreeing w_agreedTo w_refused).2) i20)) else (((f_X2_countAgreeing gs_agreeing w_agreedTo w_refused).2) i20))])), (gs_agreeing_a, .inl (cI, 8, .inl ((f_X2_countAgreeing gs_agreeing w_agreedTo w_refused).2))), (w, .inr (7, [.ref w_points_a, .ref w_tired_a, .ref w_near_a, .int w_there, .int w_free, .int w_held, .int w_wind, .int w_oil, .int w_hour, .int w_sights, .int w_agreedTo, .int w_refused]))] := hD
          refine lv_iinc (v := (nI (i20 + 1))) (lv' := [(3, .int (nI (i20 + 1))), (4, .int (if (((f_X2_countAgreeing gs_agreeing w_agreedTo w_refused).2) i20) < (((f_X2_countAgreeing gs_agreeing w_agreedTo w_refused).1) - (((f_X2_countAgreeing gs_agreeing w_agreedTo w_refused).2) i20)) then (((f_X2_countAgreeing gs_agreeing w_agreedTo w_refused).1) - (((f_X2_countAgreeing gs_agreeing w_agreedTo w_refused).2) i20)) else (((f_X2_countAgreeing gs_agreeing w_agreedTo w_refused).2) i20))), (2, .int ((f_X2_countAgreeing gs_agreeing w_agreedTo w_refused).1)), (0, .ref gs), (1, .ref w)]) hx hb dX2_choose_78 hl (k := 1) rfl (by exact nI_add i20 1) (by decide) rfl (fun ls hl => ?_)
          refine lv_goto (tgt := 20) hx hb dX2_choose_81 (by decide) ?_
          exact ih20 _ _ _ (by omega) _ _ hP hD hS _ (lv_sub hl [0, 2, 3, 4] rfl) hR
        · rw [if_neg c55] at hR
          refine lv_iload hx hb dX2_choose_58 (lv_at hl 0 rfl) ?_
          refine lv_aload_n hx hb dX2_choose_60 rfl (lv_at hl 3 rfl) ?_
          refine va_get (D := D) (ci := 2) (v := .int u0_2_20) (C := RX2) (T := TX2) (N := 3) hx hb hts in_X2_choose_X2 hown hK.1 hP 0 rfl rfl 2 (by decide) hq1 (fun _ h9 => h9) rfl dX2_choose_61 ?_
          refine lv_icmp_ge (tgt := 78) hx hb dX2_choose_64 (by decide) (fun c64 => ?_) (fun c64 => ?_)
          · rw [if_pos c64] at hR
            refine lv_iinc (v := (nI (i20 + 1))) (lv' := [(3, .int (nI (i20 + 1))), (4, .int (if (((f_X2_countAgreeing gs_agreeing w_agreedTo w_refused).2) i20) < (((f_X2_countAgreeing gs_agreeing w_agreedTo w_refused).1) - (((f_X2_countAgreeing gs_agreeing w_agreedTo w_refused).2) i20)) then (((f_X2_countAgreeing gs_agreeing w_agreedTo w_refused).1) - (((f_X2_countAgreeing gs_agreeing w_agreedTo w_refused).2) i20)) else (((f_X2_countAgreeing gs_agreeing w_agreedTo w_refused).2) i20))), (2, .int ((f_X2_countAgreeing gs_agreeing w_agreedTo w_refused).1)), (0, .ref gs), (1, .ref w)]) hx hb dX2_choose_78 hl (k := 1) rfl (by exact nI_add i20 1) (by decide) rfl (fun ls hl => ?_)
            refine lv_goto (tgt := 20) hx hb dX2_choose_81 (by decide) ?_
            exact ih20 _ _ _ (by omega) _ _ hP hD hS _ (lv_sub hl [0, 2, 3, 4] rfl) hR
          · rw [if_neg c64] at hR
            refine lv_aload_n hx hb dX2_choose_67 rfl (lv_at hl 3 rfl) ?_
            refine lv_iload_n hx hb dX2_choose_68 rfl (lv_at hl 1 rfl) ?_
            refine va_put (D := D) (ci := 2) (v := .int (nI i20)) (ty := .int) (C := RX2) (T := TX2) (N := 3) hx hb hts in_X2_choose_X2 tyX2 tyX2_ok nmX2 hown hK.1 hP hD hS 0 rfl rfl 1 (by decide) hq0 (fun _ h9 => h9) rfl (by decide +kernel) rfl rfl (Nat.le_of_ble_eq_true rfl) dX2_choose_69 (fun H locs hP hD hS => ?_)
            have hP : va_P D vwCl [(gs, .inr (2, [.ref gs_agreeing_a, .int (nI i20), .int u0_2_20])), (gs_agreeing_a, .inl (cI, 8, .inl ((f_X2_countAgreeing gs_agreeing w_agreedTo w_refused).2))), (w, .inr (7, [.ref w_points_a, .ref w_tired_a, .ref w_near_a, .int w_there, .int w_free, .int w_held, .int w_wind, .int w_oil, .int w_hour, .int w_sights, .int w_agreedTo, .int w_refused]))] H := hP
            have hD : va_D _ [(gs, .inr (2, [.ref gs_agreeing_a, .int (nI i20), .int u0_2_20])), (gs_agreeing_a, .inl (cI, 8, .inl ((f_X2_countAgreeing gs_agreeing w_agreedTo w_refused).2))), (w, .inr (7, [.ref w_points_a, .ref w_tired_a, .ref w_near_a, .int w_there, .int w_free, .int w_held, .int w_wind, .int w_oil, .int w_hour, .int w_sights, .int w_agreedTo, .int w_refused]))] := hD
            refine lv_aload_n hx hb dX2_choose_72 rfl (lv_at hl 3 rfl) ?_
            refine lv_iload hx hb dX2_choose_73 (lv_at hl 0 rfl) ?_
            refine va_put (D := D) (ci := 2) (v := .int (if (((f_X2_countAgreeing gs_agreeing w_agreedTo w_refused).2) i20) < (((f_X2_countAgreeing gs_agreeing w_agreedTo w_refused).1) - (((f_X2_countAgreeing gs_agreeing w_agreedTo w_refused).2) i20)) then (((f_X2_countAgreeing gs_agreeing w_agreedTo w_refused).1) - (((f_X2_countAgreeing gs_agreeing w_agreedTo w_refused).2) i20)) else (((f_X2_countAgreeing gs_agreeing w_agreedTo w_refused).2) i20))) (ty := .int) (C := RX2) (T := TX2) (N := 3) hx hb hts in_X2_choose_X2 tyX2 tyX2_ok nmX2 hown hK.1 hP hD hS 0 rfl rfl 2 (by decide) hq1 (fun _ h9 => h9) rfl (by decide +kernel) rfl rfl (Nat.le_of_ble_eq_true rfl) dX2_choose_75 (fun H locs hP hD hS => ?_)
            have hP : va_P D vwCl [(gs, .inr (2, [.ref gs_agreeing_a, .int (nI i20), .int (if (((f_X2_countAgreeing gs_agreeing w_agreedTo w_refused).2) i20) < (((f_X2_countAgreeing gs_agreeing w_agreedTo w_refused).1) - (((f_X2_countAgreeing gs_agreeing w_agreedTo w_refused).2) i20)) then (((f_X2_countAgreeing gs_agreeing w_agreedTo w_refused).1) - (((f_X2_countAgreeing gs_agreeing w_agreedTo w_refused).2) i20)) else (((f_X2_countAgreeing gs_agreeing w_agreedTo w_refused).2) i20))])), (gs_agreeing_a, .inl (cI, 8, .inl ((f_X2_countAgreeing gs_agreeing w_agreedTo w_refused).2))), (w, .inr (7, [.ref w_points_a, .ref w_tired_a, .ref w_near_a, .int w_there, .int w_free, .int w_held, .int w_wind, .int w_oil, .int w_hour, .int w_sights, .int w_agreedTo, .int w_refused]))] H := hP
            have hD : va_D _ [(gs, .inr (2, [.ref gs_agreeing_a, .int (nI i20), .int (if (((f_X2_countAgreeing gs_agreeing w_agreedTo w_refused).2) i20) < (((f_X2_countAgreeing gs_agreeing w_agreedTo w_refused).1) - (((f_X2_countAgreeing gs_agreeing w_agreedTo w_refused).2) i20)) then (((f_X2_countAgreeing gs_agreeing w_agreedTo w_refused).1) - (((f_X2_countAgreeing gs_agreeing w_agreedTo w_refused).2) i20)) else (((f_X2_countAgreeing gs_agreeing w_agreedTo w_refused).2) i20))])), (gs_agreeing_a, .inl (cI, 8, .inl ((f_X2_countAgreeing gs_agreeing w_agreedTo w_refused).2))), (w, .inr (7, [.ref w_points_a, .ref w_tired_a, .ref w_near_a, .int w_there, .int w_free, .int w_held, .int w_wind, .int w_oil, .int w_hour, .int w_sights, .int w_agreedTo, .int w_refused]))] := hD
            refine lv_iinc (v := (nI (i20 + 1))) (lv' := [(3, .int (nI (i20 + 1))), (4, .int (if (((f_X2_countAgreeing gs_agreeing w_agreedTo w_refused).2) i20) < (((f_X2_countAgreeing gs_agreeing w_agreedTo w_refused).1) - (((f_X2_countAgreeing gs_agreeing w_agreedTo w_refused).2) i20)) then (((f_X2_countAgreeing gs_agreeing w_agreedTo w_refused).1) - (((f_X2_countAgreeing gs_agreeing w_agreedTo w_refused).2) i20)) else (((f_X2_countAgreeing gs_agreeing w_agreedTo w_refused).2) i20))), (2, .int ((f_X2_countAgreeing gs_agreeing w_agreedTo w_refused).1)), (0, .ref gs), (1, .ref w)]) hx hb dX2_choose_78 hl (k := 1) rfl (by exact nI_add i20 1) (by decide) rfl (fun ls hl => ?_)
            refine lv_goto (tgt := 20) hx hb dX2_choose_81 (by decide) ?_
            exact ih20 _ _ _ (by omega) _ _ hP hD hS _ (lv_sub hl [0, 2, 3, 4] rfl) hR
  exact hloop20 8 0 _ _ (by omega) _ _ hP hD hS _ hl hF20_1

