theorem sq_lt {i : Nat} (h : i < 15) : i * i < 2 ^ 31 := by
  have := Nat.mul_le_mul (Nat.le_of_lt h) (Nat.le_of_lt h)
  omega

theorem in_X5_findTake_X5 : ∀ w ∈ u_ws RX5 TX5 2, w ∈ wsX5_findTake := by decide +kernel
def lp_X5_findTake_2 (sq_takes : Nat → Int32) (xn : Nat) : Nat → Nat → Int32
  | 0, _ => (-6 : Int32)
  | k2 + 1, i2 => (if ((nI xn) < (nI (i2 * i2))) then (-6 : Int32) else (if ((sq_takes (xn - (i2 * i2))) = (-6 : Int32)) then (nI (i2 * i2)) else (lp_X5_findTake_2 sq_takes xn k2 (i2 + 1) )))
def f_X5_findTake (sq_takes : Nat → Int32) (xn : Nat) : Int32 :=
  (lp_X5_findTake_2 sq_takes xn 14 1 )
set_option maxHeartbeats 4000000 in
set_option maxRecDepth 100000 in
theorem c_X5_findTake (l : Launch) (D : va_G) (cI cJ cZ : ClassId) (sq : Nat) (sq_takes_a : Nat) (sq_known : Int32) (sq_takes : Nat → Int32) (xn : Nat) (hxn : xn ≤ 200) : RO l yX5_findTake wsX5_findTake ({ frames := 0, cells := 0, slots := 0, locals := 0 }) [.ref sq, .int (nI xn)] D cI cJ cZ [(sq, .inr (5, [.ref sq_takes_a, .int sq_known])), (sq_takes_a, .inl (cI, 201, .inl sq_takes))] (.int (f_X5_findTake sq_takes xn)) := by
  obtain ⟨R, hR⟩ : ∃ R, (f_X5_findTake sq_takes xn) = R := ⟨_, rfl⟩
  rw [hR]
  refine ro_start (cc := cX5_findTake) (maxL := 4) (ret := (some .int)) (by decide) rfl (Nat.le_of_ble_eq_true rfl) ?_
  intro p e s m args below meth c hx hb hr hml hown hts hlocks hP hK ls hl
  have hown : s.vm.findClass RX5 = some m.cls := hown
  have hl : lv_has ls 4 [(0, .ref sq), (1, .int (nI xn))] := hl
  have hq0 := hts (.fieldLink RX5 9 "StuckVanes$Squares" "takes" "[I") (by decide +kernel)
  rw [f_X5_findTake] at hR
  refine lv_iconst (v := (1 : Int32)) hx hb dX5_findTake_0 (by decide) ?_
  refine lv_istore_n (lv' := [(2, .int (1 : Int32)), (0, .ref sq), (1, .int (nI xn))]) hx hb dX5_findTake_1 rfl hl (by decide) rfl (fun ls hl => ?_)
  have hloop2 : ∀ (k2 i2 : Nat), i2 + k2 = 15 → 1 ≤ i2 → ∀ (ls : Array Slot), lv_has ls 4 [(2, .int (nI i2)), (0, .ref sq), (1, .int (nI xn))] → lp_X5_findTake_2 sq_takes xn k2 i2  = R → W p l e ({ frames := 0, cells := 0, slots := 0, locals := 0 }) s m args below meth c s.heap [] 0 0 (MQ below (ro_Q (.int R)) args s 0 0 (fun _ => False)) (F0 m 2 ls []) := by
    intro k2
    induction k2 with
    | zero =>
      intro i2  h2 hs2  ls hl hR
      obtain rfl : 15 = i2 := by omega
      rw [lp_X5_findTake_2] at hR
      refine lv_iload_n hx hb dX5_findTake_2 rfl (lv_at hl 0 rfl) ?_
      refine lv_iload_n hx hb dX5_findTake_3 rfl (lv_at hl 0 rfl) ?_
      refine lv_imul hx hb dX5_findTake_4 ?_
      rw [show ((nI 15) * (nI 15)) = (nI (15 * 15)) from pk_mul 15 15]
      refine lv_iload_n hx hb dX5_findTake_5 rfl (lv_at hl 2 rfl) ?_
      refine lv_icmp_gt (tgt := 34) hx hb dX5_findTake_6 (by decide) (fun _ => ?_) (fun h => absurd (clt_t (a := xn) (b := (15 * 15)) rfl rfl (by omega) (by omega)) h)
      refine lv_bipush (v := (-6 : Int32)) hx hb dX5_findTake_34 (by decide +kernel) ?_
      subst hR
      exact ro_iret hx hb hr hlocks dX5_findTake_36
    | succ k2 ih2 =>
      intro i2  h2 hs2  ls hl hR
      rw [lp_X5_findTake_2] at hR
      refine lv_iload_n hx hb dX5_findTake_2 rfl (lv_at hl 0 rfl) ?_
      refine lv_iload_n hx hb dX5_findTake_3 rfl (lv_at hl 0 rfl) ?_
      refine lv_imul hx hb dX5_findTake_4 ?_
      rw [show ((nI i2) * (nI i2)) = (nI (i2 * i2)) from pk_mul i2 i2]
      refine lv_iload_n hx hb dX5_findTake_5 rfl (lv_at hl 2 rfl) ?_
      refine lv_icmp_gt (tgt := 34) hx hb dX5_findTake_6 (by decide) (fun c6 => ?_) (fun c6 => ?_)
      · rw [if_pos c6] at hR
        refine lv_bipush (v := (-6 : Int32)) hx hb dX5_findTake_34 (by decide +kernel) ?_
        subst hR
        exact ro_iret hx hb hr hlocks dX5_findTake_36
      · rw [if_neg c6] at hR
        refine lv_iload_n hx hb dX5_findTake_9 rfl (lv_at hl 0 rfl) ?_
        refine lv_iload_n hx hb dX5_findTake_10 rfl (lv_at hl 0 rfl) ?_
        refine lv_imul hx hb dX5_findTake_11 ?_
        rw [show ((nI i2) * (nI i2)) = (nI (i2 * i2)) from pk_mul i2 i2]
        refine lv_istore_n (lv' := [(3, .int (nI (i2 * i2))), (2, .int (nI i2)), (0, .ref sq), (1, .int (nI xn))]) hx hb dX5_findTake_12 rfl hl (by decide) rfl (fun ls hl => ?_)
        refine lv_aload_n hx hb dX5_findTake_13 rfl (lv_at hl 2 rfl) ?_
        refine va_get (D := D) (ci := 5) (v := .ref sq_takes_a) (C := RX5) (T := TX5) (N := 2) hx hb hts in_X5_findTake_X5 hown hK.1 hP 0 rfl rfl 0 (by decide) hq0 (fun _ h9 => h9) rfl dX5_findTake_14 ?_
        refine lv_iload_n hx hb dX5_findTake_17 rfl (lv_at hl 3 rfl) ?_
        refine lv_iload_n hx hb dX5_findTake_18 rfl (lv_at hl 0 rfl) ?_
        refine lv_isub hx hb dX5_findTake_19 ?_
        rw [show ((nI xn) - (nI (i2 * i2))) = (nI (xn - (i2 * i2))) from pk_sub (a := xn) (b := (i2 * i2)) (of_nlt (a := xn) (b := i2 * i2) (by omega) (sq_lt (by omega)) c6)]
        refine ia_ld hx hb hK hP 1 rfl (i := (xn - (i2 * i2))) (by omega) (by decide) dX5_findTake_20 ?_
        refine lv_bipush (v := (-6 : Int32)) hx hb dX5_findTake_21 (by decide +kernel) ?_
        refine lv_icmp_ne (tgt := 28) hx hb dX5_findTake_23 (by decide) (fun c23 => ?_) (fun c23 => ?_)
        · rw [if_neg c23] at hR
          refine lv_iinc (v := (nI (i2 + 1))) (lv' := [(2, .int (nI (i2 + 1))), (3, .int (nI (i2 * i2))), (0, .ref sq), (1, .int (nI xn))]) hx hb dX5_findTake_28 hl (k := 1) rfl (by exact nI_add i2 1) (by decide) rfl (fun ls hl => ?_)
          refine lv_goto (tgt := 2) hx hb dX5_findTake_31 (by decide) ?_
          exact ih2 _ (by omega) (by omega) _ (lv_sub hl [0, 2, 3] rfl) hR
        · rw [if_pos c23] at hR
          refine lv_iload_n hx hb dX5_findTake_26 rfl (lv_at hl 0 rfl) ?_
          subst hR
          exact ro_iret hx hb hr hlocks dX5_findTake_27
  exact hloop2 14 1 (by omega) (Nat.le_refl _) _ hl hR


theorem in_X5_leastWinningTake_X5 : ∀ w ∈ u_ws RX5 TX5 2, w ∈ wsX5_leastWinningTake := by decide +kernel
theorem hd_X5_findTake : yX5_findTake.cls ≠ "java/lang/invoke/MethodHandle" ∧ yX5_findTake.cls ≠ "java/lang/invoke/VarHandle" ∧ (parseMethodDescriptor yX5_findTake.desc).map (fun d => d.parameters.length) = some 1 := by decide +kernel
def lp_X5_leastWinningTake_13 (xn : Nat) : Nat → Nat → (Nat → Int32) → Nat × (Nat → Int32)
  | 0, u0_1_13, r1_13 => (u0_1_13, r1_13)
  | k13 + 1, u0_1_13, r1_13 => (if ((nI xn) < (nI u0_1_13)) then (u0_1_13, r1_13) else (lp_X5_leastWinningTake_13 xn k13 (u0_1_13 + 1) (upd r1_13 u0_1_13 (f_X5_findTake r1_13 u0_1_13))))
def f_X5_leastWinningTake (sq_known : Nat) (sq_takes : Nat → Int32) (xn : Nat) : Int32 × Int32 × (Nat → Int32) :=
  (if ((f_X8_isUpTo (nI xn) (200 : Int32)) = 0) then ((-6 : Int32), (nI sq_known), sq_takes) else (((lp_X5_leastWinningTake_13 xn 202 sq_known sq_takes).2 xn), (nI (lp_X5_leastWinningTake_13 xn 202 sq_known sq_takes).1), (lp_X5_leastWinningTake_13 xn 202 sq_known sq_takes).2))
set_option maxHeartbeats 4000000 in
set_option maxRecDepth 100000 in
theorem c_X5_leastWinningTake (l : Launch) (D : va_G) (cI cJ cZ : ClassId) (sq : Nat) (sq_takes_a : Nat) (sq_known : Nat) (sq_takes : Nat → Int32) (xn : Nat) (hxn : xn ≤ 200) (hkn : sq_known ≤ 201) : RW l yX5_leastWinningTake wsX5_leastWinningTake ({ frames := 1, cells := 0, slots := 0, locals := 23 }) [.ref sq, .int (nI xn)] D cI cJ cZ [(sq, .inr (5, [.ref sq_takes_a, .int (nI sq_known)])), (sq_takes_a, .inl (cI, 201, .inl sq_takes))] (some (.int ((f_X5_leastWinningTake sq_known sq_takes xn).1))) [(sq, .inr (5, [.ref sq_takes_a, .int ((f_X5_leastWinningTake sq_known sq_takes xn).2.1)])), (sq_takes_a, .inl (cI, 201, .inl ((f_X5_leastWinningTake sq_known sq_takes xn).2.2)))] := by
  obtain ⟨R0, R1, R2, hR⟩ := prodE3 (f_X5_leastWinningTake sq_known sq_takes xn)
  rw [hR]
  dsimp only
  refine rw_start (cc := cX5_leastWinningTake) (maxL := 2) (ret := (some .int)) (by decide) rfl (Nat.le_of_ble_eq_true rfl) ?_
  intro p e s m args below meth c hx hb hr hml hown hts hlocks hP hD hS hK ls hl
  have hown : s.vm.findClass RX5 = some m.cls := hown
  have hl : lv_has ls 2 [(0, .ref sq), (1, .int (nI xn))] := hl
  have hq0 := hts (.initialized RX8) (by decide +kernel)
  have hq1 := hts (.static yX8_isUpTo) (by decide +kernel)
  have hq2 := hts (.fieldLink RX5 19 "StuckVanes$Squares" "known" "I") (by decide +kernel)
  have hq3 := hts (.fieldLink RX5 9 "StuckVanes$Squares" "takes" "[I") (by decide +kernel)
  rw [f_X5_leastWinningTake] at hR
  refine lv_iload_n hx hb dX5_leastWinningTake_0 rfl (lv_at hl 1 rfl) ?_
  refine lv_sipush (v := (200 : Int32)) hx hb dX5_leastWinningTake_1 (by decide +kernel) ?_
  refine ro_SN (As := [.int (nI xn), .int (200 : Int32)]) (rest := []) ⟨hx, hb, hml, hown, hts⟩ hK (c_X8_isUpTo l D cI cJ cZ (nI xn) (200 : Int32)) va_P_nil (va_cnB 2 hts gX5_leastWinningTake_X8_isUpTo_n15 rfl rfl rfl (hK.2 _ gN_48) hq0 hd_X8_isUpTo ⟨(Nat.le_of_ble_eq_true rfl), (Nat.le_of_ble_eq_true rfl)⟩) hq1 rfl hl.1 rfl (Nat.le_of_ble_eq_true rfl) dX5_leastWinningTake_4 (Nat.zero_le _) (Nat.zero_le _) ?_
  refine lv_if_ne (tgt := 13) hx hb dX5_leastWinningTake_7 (by decide) (fun c7 => ?_) (fun c7 => ?_)
  · rw [if_neg c7] at hR
    obtain ⟨F13_1, hF13_1⟩ : ∃ x, (lp_X5_leastWinningTake_13 xn 202 sq_known sq_takes) = x := ⟨_, rfl⟩
    try rw [hF13_1] at hR
    have hexit13 : ∀ (H : Heap) (locs : List Loc), va_P D vwCl [(sq, .inr (5, [.ref sq_takes_a, .int (nI F13_1.1)])), (sq_takes_a, .inl (cI, 201, .inl F13_1.2))] H → va_D (va_In [(sq, .inr (5, [.ref sq_takes_a, .int (nI sq_known)])), (sq_takes_a, .inl (cI, 201, .inl sq_takes))]) [(sq, .inr (5, [.ref sq_takes_a, .int (nI F13_1.1)])), (sq_takes_a, .inl (cI, 201, .inl F13_1.2))] → va_S (va_In [(sq, .inr (5, [.ref sq_takes_a, .int (nI sq_known)])), (sq_takes_a, .inl (cI, 201, .inl sq_takes))]) s.heap H locs → ∀ (ls : Array Slot), lv_has ls 2 [(0, .ref sq), (1, .int (nI xn))] → W p l e ({ frames := 1, cells := 0, slots := 0, locals := 23 }) s m args below meth c H locs 0 0 (MQ below (rw_Q D (some (.int R0)) [(sq, .inr (5, [.ref sq_takes_a, .int (nI sq_known)])), (sq_takes_a, .inl (cI, 201, .inl sq_takes))] [(sq, .inr (5, [.ref sq_takes_a, .int R1])), (sq_takes_a, .inl (cI, 201, .inl R2))]) args s 0 0 (va_In [(sq, .inr (5, [.ref sq_takes_a, .int (nI sq_known)])), (sq_takes_a, .inl (cI, 201, .inl sq_takes))])) (F0 m 51 ls []) := by
      intro H locs hP hD hS ls hl
      refine lv_aload_n hx hb dX5_leastWinningTake_51 rfl (lv_at hl 0 rfl) ?_
      refine va_get (D := D) (ci := 5) (v := .ref sq_takes_a) (C := RX5) (T := TX5) (N := 2) hx hb hts in_X5_leastWinningTake_X5 hown hK.1 hP 0 rfl rfl 0 (by decide) hq3 (fun _ h9 => h9) rfl dX5_leastWinningTake_52 ?_
      refine lv_iload_n hx hb dX5_leastWinningTake_55 rfl (lv_at hl 1 rfl) ?_
      refine ia_ld hx hb hK hP 1 rfl (i := xn) (by omega) (by decide) dX5_leastWinningTake_56 ?_
      obtain ⟨rfl, rfl, rfl⟩ := prodI3 hR
      exact rw_iret hx hb hr hlocks hP hS dX5_leastWinningTake_57
    have hloop13 : ∀ (k13 : Nat) (u0_1_13 : Nat) (r1_13 : Nat → Int32), xn + 1 - u0_1_13 < k13 → u0_1_13 ≤ 201 → ∀ (H : Heap) (locs : List Loc), va_P D vwCl [(sq, .inr (5, [.ref sq_takes_a, .int (nI u0_1_13)])), (sq_takes_a, .inl (cI, 201, .inl r1_13))] H → va_D (va_In [(sq, .inr (5, [.ref sq_takes_a, .int (nI sq_known)])), (sq_takes_a, .inl (cI, 201, .inl sq_takes))]) [(sq, .inr (5, [.ref sq_takes_a, .int (nI u0_1_13)])), (sq_takes_a, .inl (cI, 201, .inl r1_13))] → va_S (va_In [(sq, .inr (5, [.ref sq_takes_a, .int (nI sq_known)])), (sq_takes_a, .inl (cI, 201, .inl sq_takes))]) s.heap H locs → ∀ (ls : Array Slot), lv_has ls 2 [(0, .ref sq), (1, .int (nI xn))] → lp_X5_leastWinningTake_13 xn k13 u0_1_13 r1_13 = F13_1 → W p l e ({ frames := 1, cells := 0, slots := 0, locals := 23 }) s m args below meth c H locs 0 0 (MQ below (rw_Q D (some (.int R0)) [(sq, .inr (5, [.ref sq_takes_a, .int (nI sq_known)])), (sq_takes_a, .inl (cI, 201, .inl sq_takes))] [(sq, .inr (5, [.ref sq_takes_a, .int R1])), (sq_takes_a, .inl (cI, 201, .inl R2))]) args s 0 0 (va_In [(sq, .inr (5, [.ref sq_takes_a, .int (nI sq_known)])), (sq_takes_a, .inl (cI, 201, .inl sq_takes))])) (F0 m 13 ls []) := by
      intro k13
      induction k13 with
      | zero =>
        intro u0_1_13 r1_13 h13 hu H locs hP hD hS ls hl hR
        exact absurd h13 (Nat.not_lt_zero _)
      | succ k13 ih13 =>
        intro u0_1_13 r1_13 h13 hu H locs hP hD hS ls hl hR
        rw [lp_X5_leastWinningTake_13] at hR
        refine lv_aload_n hx hb dX5_leastWinningTake_13 rfl (lv_at hl 0 rfl) ?_
        refine va_get (D := D) (ci := 5) (v := .int (nI u0_1_13)) (C := RX5) (T := TX5) (N := 2) hx hb hts in_X5_leastWinningTake_X5 hown hK.1 hP 0 rfl rfl 1 (by decide) hq2 (fun _ h9 => h9) rfl dX5_leastWinningTake_14 ?_
        refine lv_iload_n hx hb dX5_leastWinningTake_17 rfl (lv_at hl 1 rfl) ?_
        refine lv_icmp_gt (tgt := 51) hx hb dX5_leastWinningTake_18 (by decide) (fun c18 => ?_) (fun c18 => ?_)
        · rw [if_pos c18] at hR
          subst hR
          exact hexit13 _ _ hP hD hS _ (lv_sub hl [0, 1] rfl)
        · rw [if_neg c18] at hR
          refine lv_aload_n hx hb dX5_leastWinningTake_21 rfl (lv_at hl 0 rfl) ?_
          refine va_get (D := D) (ci := 5) (v := .ref sq_takes_a) (C := RX5) (T := TX5) (N := 2) hx hb hts in_X5_leastWinningTake_X5 hown hK.1 hP 0 rfl rfl 0 (by decide) hq3 (fun _ h9 => h9) rfl dX5_leastWinningTake_22 ?_
          refine lv_aload_n hx hb dX5_leastWinningTake_25 rfl (lv_at hl 0 rfl) ?_
          refine va_get (D := D) (ci := 5) (v := .int (nI u0_1_13)) (C := RX5) (T := TX5) (N := 2) hx hb hts in_X5_leastWinningTake_X5 hown hK.1 hP 0 rfl rfl 1 (by decide) hq2 (fun _ h9 => h9) rfl dX5_leastWinningTake_26 ?_
          refine lv_aload_n hx hb dX5_leastWinningTake_29 rfl (lv_at hl 0 rfl) ?_
          refine lv_aload_n hx hb dX5_leastWinningTake_30 rfl (lv_at hl 0 rfl) ?_
          refine va_get (D := D) (ci := 5) (v := .int (nI u0_1_13)) (C := RX5) (T := TX5) (N := 2) hx hb hts in_X5_leastWinningTake_X5 hown hK.1 hP 0 rfl rfl 1 (by decide) hq2 (fun _ h9 => h9) rfl dX5_leastWinningTake_31 ?_
          refine ro_V (As := [.int (nI u0_1_13)]) (rest := [.int (nI u0_1_13), .ref sq_takes_a]) ⟨hx, hb, hml, hown, hts⟩ hK (c_X5_findTake l D cI cJ cZ sq sq_takes_a (nI u0_1_13) r1_13 u0_1_13 (by have := of_nlt (a := xn) (b := u0_1_13) (by omega) (by omega) c18; omega)) hP 0 rfl rfl (rw_sub hP [0, 1] rfl) (cwV 1 hts gX5_leastWinningTake_X5_findTake rfl rfl rfl ⟨rfl, hd_X5_findTake⟩ ⟨(Nat.le_of_ble_eq_true rfl), (Nat.le_of_ble_eq_true rfl)⟩) rfl hl.1 rfl (Nat.le_of_ble_eq_true rfl) dX5_leastWinningTake_34 (Nat.zero_le _) (Nat.zero_le _) ?_
          refine ia_st hx hb hK hP hD hS 1 rfl (i := u0_1_13) (by have := of_nlt (a := xn) (b := u0_1_13) (by omega) (by omega) c18; omega) (by decide) dX5_leastWinningTake_37 (fun H locs hP hD hS => ?_)
          have hP : va_P D vwCl [(sq, .inr (5, [.ref sq_takes_a, .int (nI u0_1_13)])), (sq_takes_a, .inl (cI, 201, .inl (upd r1_13 u0_1_13 (f_X5_findTake r1_13 u0_1_13))))] H := hP
          have hD : va_D _ [(sq, .inr (5, [.ref sq_takes_a, .int (nI u0_1_13)])), (sq_takes_a, .inl (cI, 201, .inl (upd r1_13 u0_1_13 (f_X5_findTake r1_13 u0_1_13))))] := hD
          refine lv_aload_n hx hb dX5_leastWinningTake_38 rfl (lv_at hl 0 rfl) ?_
          refine lv_dup hx hb dX5_leastWinningTake_39 rfl ?_
          refine va_get (D := D) (ci := 5) (v := .int (nI u0_1_13)) (C := RX5) (T := TX5) (N := 2) hx hb hts in_X5_leastWinningTake_X5 hown hK.1 hP 0 rfl rfl 1 (by decide) hq2 (fun _ h9 => h9) rfl dX5_leastWinningTake_40 ?_
          refine lv_iconst (v := (1 : Int32)) hx hb dX5_leastWinningTake_43 (by decide) ?_
          refine lv_iadd hx hb dX5_leastWinningTake_44 ?_
          rw [show ((nI u0_1_13) + (1 : Int32)) = (nI (u0_1_13 + 1)) from nI_add u0_1_13 1]
          refine va_put (D := D) (ci := 5) (v := .int (nI (u0_1_13 + 1))) (ty := .int) (C := RX5) (T := TX5) (N := 2) hx hb hts in_X5_leastWinningTake_X5 tyX5 tyX5_ok nmX5 hown hK.1 hP hD hS 0 rfl rfl 1 (by decide) hq2 (fun _ h9 => h9) rfl (by decide +kernel) rfl rfl (Nat.le_of_ble_eq_true rfl) dX5_leastWinningTake_45 (fun H locs hP hD hS => ?_)
          have hP : va_P D vwCl [(sq, .inr (5, [.ref sq_takes_a, .int (nI (u0_1_13 + 1))])), (sq_takes_a, .inl (cI, 201, .inl (upd r1_13 u0_1_13 (f_X5_findTake r1_13 u0_1_13))))] H := hP
          have hD : va_D _ [(sq, .inr (5, [.ref sq_takes_a, .int (nI (u0_1_13 + 1))])), (sq_takes_a, .inl (cI, 201, .inl (upd r1_13 u0_1_13 (f_X5_findTake r1_13 u0_1_13))))] := hD
          refine lv_goto (tgt := 13) hx hb dX5_leastWinningTake_48 (by decide) ?_
          exact ih13 _ _ (by have := of_nlt (a := xn) (b := u0_1_13) (by omega) (by omega) c18; omega) (by have := of_nlt (a := xn) (b := u0_1_13) (by omega) (by omega) c18; omega) _ _ hP hD hS _ (lv_sub hl [0, 1] rfl) hR
    exact hloop13 202 _ _ (by omega) hkn _ _ hP hD hS _ hl hF13_1
  · rw [if_pos c7] at hR
    refine lv_bipush (v := (-6 : Int32)) hx hb dX5_leastWinningTake_10 (by decide +kernel) ?_
    obtain ⟨rfl, rfl, rfl⟩ := prodI3 hR
    exact rw_iret hx hb hr hlocks hP hS dX5_leastWinningTake_12

