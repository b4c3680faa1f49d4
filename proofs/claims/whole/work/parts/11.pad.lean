def f_X3_isHead (xs : Int32) : Int32 :=
  (if ((f_X8_isParish (xs - (65 : Int32))) = 0) then (if (xs = (119 : Int32)) then (1 : Int32) else (if (xs = (118 : Int32)) then (1 : Int32) else (0 : Int32))) else (1 : Int32))
set_option maxHeartbeats 4000000 in
set_option maxRecDepth 100000 in
theorem c_X3_isHead (l : Launch) (D : va_G) (cI cJ cZ : ClassId) (xs : Int32) : RO l yX3_isHead wsX3_isHead ({ frames := 2, cells := 0, slots := 0, locals := 41 }) [.int xs] D cI cJ cZ [] (.int (f_X3_isHead xs)) := by
  obtain ⟨R, hR⟩ : ∃ R, (f_X3_isHead xs) = R := ⟨_, rfl⟩
  rw [hR]
  refine ro_start (cc := cX3_isHead) (maxL := 1) (ret := (some .boolean)) (by decide) rfl (Nat.le_of_ble_eq_true rfl) ?_
  intro p e s m args below meth c hx hb hr hml hown hts hlocks hP hK ls hl
  have hown : s.vm.findClass RX3 = some m.cls := hown
  have hl : lv_has ls 1 [(0, .int xs)] := hl
  have hq0 := hts (.initialized RX8) (by decide +kernel)
  have hq1 := hts (.static yX8_isParish) (by decide +kernel)
  rw [f_X3_isHead] at hR
  refine lv_iload_n hx hb dX3_isHead_0 rfl (lv_at hl 0 rfl) ?_
  refine lv_bipush (v := (65 : Int32)) hx hb dX3_isHead_1 (by decide +kernel) ?_
  refine lv_isub hx hb dX3_isHead_3 ?_
  refine ro_SN (As := [.int (xs - (65 : Int32))]) (rest := []) ⟨hx, hb, hml, hown, hts⟩ hK (c_X8_isParish l D cI cJ cZ (xs - (65 : Int32))) va_P_nil (va_cnB 1 hts gX3_isHead_X8_isParish_n43 rfl rfl rfl (hK.2 _ gN_38) hq0 hd_X8_isParish ⟨(Nat.le_of_ble_eq_true rfl), (Nat.le_of_ble_eq_true rfl)⟩) hq1 rfl hl.1 rfl (Nat.le_of_ble_eq_true rfl) dX3_isHead_4 (Nat.zero_le _) (Nat.zero_le _) ?_
  refine lv_if_ne (tgt := 22) hx hb dX3_isHead_7 (by decide) (fun c7 => ?_) (fun c7 => ?_)
  · rw [if_neg c7] at hR
    refine lv_iconst (v := (1 : Int32)) hx hb dX3_isHead_22 (by decide) ?_
    refine lv_goto (tgt := 27) hx hb dX3_isHead_23 (by decide) ?_
    subst hR
    exact ro_zret hx hb hr hlocks (Or.inr rfl) dX3_isHead_27
  · rw [if_pos c7] at hR
    refine lv_iload_n hx hb dX3_isHead_10 rfl (lv_at hl 0 rfl) ?_
    refine lv_bipush (v := (119 : Int32)) hx hb dX3_isHead_11 (by decide +kernel) ?_
    refine lv_icmp_eq (tgt := 22) hx hb dX3_isHead_13 (by decide) (fun c13 => ?_) (fun c13 => ?_)
    · rw [if_pos c13] at hR
      refine lv_iconst (v := (1 : Int32)) hx hb dX3_isHead_22 (by decide) ?_
      refine lv_goto (tgt := 27) hx hb dX3_isHead_23 (by decide) ?_
      subst hR
      exact ro_zret hx hb hr hlocks (Or.inr rfl) dX3_isHead_27
    · rw [if_neg c13] at hR
      refine lv_iload_n hx hb dX3_isHead_16 rfl (lv_at hl 0 rfl) ?_
      refine lv_bipush (v := (118 : Int32)) hx hb dX3_isHead_17 (by decide +kernel) ?_
      refine lv_icmp_ne (tgt := 26) hx hb dX3_isHead_19 (by decide) (fun c19 => ?_) (fun c19 => ?_)
      · rw [if_neg c19] at hR
        refine lv_iconst (v := (0 : Int32)) hx hb dX3_isHead_26 (by decide) ?_
        subst hR
        exact ro_zret hx hb hr hlocks (Or.inl rfl) dX3_isHead_27
      · rw [if_pos c19] at hR
        refine lv_iconst (v := (1 : Int32)) hx hb dX3_isHead_22 (by decide) ?_
        refine lv_goto (tgt := 27) hx hb dX3_isHead_23 (by decide) ?_
        subst hR
        exact ro_zret hx hb hr hlocks (Or.inr rfl) dX3_isHead_27

theorem z_X3_isHead (xs : Int32) : (f_X3_isHead xs) = 0 ∨ (f_X3_isHead xs) = 1 := by
  unfold f_X3_isHead
  (repeat' split) <;> first | exact Or.inl rfl | exact Or.inr rfl | exact z_X8_isParish ..


theorem hd_X8_isWay : yX8_isWay.cls ≠ "java/lang/invoke/MethodHandle" ∧ yX8_isWay.cls ≠ "java/lang/invoke/VarHandle" ∧ (parseMethodDescriptor yX8_isWay.desc).map (fun d => d.parameters.length) = some 1 := by decide +kernel
def f_X3_kindOf (xh : Int32) (xs : Int32) : Int32 :=
  (if (xh = (119 : Int32)) then (if ((f_X8_isWay (xs - (48 : Int32))) = 0) then (-6 : Int32) else (3 : Int32)) else (if (xh = (118 : Int32)) then (if ((f_X8_isWay (xs - (48 : Int32))) = 0) then (-6 : Int32) else (4 : Int32)) else (if (xs = (42 : Int32)) then (0 : Int32) else (if (xs = (35 : Int32)) then (1 : Int32) else (if ((f_X8_isWay (xs - (48 : Int32))) = 0) then (-6 : Int32) else (2 : Int32))))))
set_option maxHeartbeats 4000000 in
set_option maxRecDepth 100000 in
theorem c_X3_kindOf (l : Launch) (D : va_G) (cI cJ cZ : ClassId) (xh : Int32) (xs : Int32) : RO l yX3_kindOf wsX3_kindOf ({ frames := 2, cells := 0, slots := 0, locals := 41 }) [.int xh, .int xs] D cI cJ cZ [] (.int (f_X3_kindOf xh xs)) := by
  obtain ⟨R, hR⟩ : ∃ R, (f_X3_kindOf xh xs) = R := ⟨_, rfl⟩
  rw [hR]
  refine ro_start (cc := cX3_kindOf) (maxL := 3) (ret := (some .int)) (by decide) rfl (Nat.le_of_ble_eq_true rfl) ?_
  intro p e s m args below meth c hx hb hr hml hown hts hlocks hP hK ls hl
  have hown : s.vm.findClass RX3 = some m.cls := hown
  have hl : lv_has ls 3 [(0, .int xh), (1, .int xs)] := hl
  have hq0 := hts (.initialized RX8) (by decide +kernel)
  have hq1 := hts (.static yX8_isWay) (by decide +kernel)
  rw [f_X3_kindOf] at hR
  refine lv_iload_n hx hb dX3_kindOf_0 rfl (lv_at hl 1 rfl) ?_
  refine lv_bipush (v := (48 : Int32)) hx hb dX3_kindOf_1 (by decide +kernel) ?_
  refine lv_isub hx hb dX3_kindOf_3 ?_
  refine ro_SN (As := [.int (xs - (48 : Int32))]) (rest := []) ⟨hx, hb, hml, hown, hts⟩ hK (c_X8_isWay l D cI cJ cZ (xs - (48 : Int32))) va_P_nil (va_cnB 1 hts gX3_kindOf_X8_isWay_n46 rfl rfl rfl (hK.2 _ gN_37) hq0 hd_X8_isWay ⟨(Nat.le_of_ble_eq_true rfl), (Nat.le_of_ble_eq_true rfl)⟩) hq1 rfl hl.1 rfl (Nat.le_of_ble_eq_true rfl) dX3_kindOf_4 (Nat.zero_le _) (Nat.zero_le _) ?_
  refine lv_istore_n (lv' := [(2, .int (f_X8_isWay (xs - (48 : Int32)))), (0, .int xh), (1, .int xs)]) hx hb dX3_kindOf_7 rfl hl (by decide) rfl (fun ls hl => ?_)
  refine lv_iload_n hx hb dX3_kindOf_8 rfl (lv_at hl 1 rfl) ?_
  refine lv_bipush (v := (119 : Int32)) hx hb dX3_kindOf_9 (by decide +kernel) ?_
  refine lv_icmp_ne (tgt := 25) hx hb dX3_kindOf_11 (by decide) (fun c11 => ?_) (fun c11 => ?_)
  · rw [if_neg c11] at hR
    refine lv_iload_n hx hb dX3_kindOf_25 rfl (lv_at hl 1 rfl) ?_
    refine lv_bipush (v := (118 : Int32)) hx hb dX3_kindOf_26 (by decide +kernel) ?_
    refine lv_icmp_ne (tgt := 42) hx hb dX3_kindOf_28 (by decide) (fun c28 => ?_) (fun c28 => ?_)
    · rw [if_neg c28] at hR
      refine lv_iload_n hx hb dX3_kindOf_42 rfl (lv_at hl 2 rfl) ?_
      refine lv_bipush (v := (42 : Int32)) hx hb dX3_kindOf_43 (by decide +kernel) ?_
      refine lv_icmp_ne (tgt := 50) hx hb dX3_kindOf_45 (by decide) (fun c45 => ?_) (fun c45 => ?_)
      · rw [if_neg c45] at hR
        refine lv_iload_n hx hb dX3_kindOf_50 rfl (lv_at hl 2 rfl) ?_
        refine lv_bipush (v := (35 : Int32)) hx hb dX3_kindOf_51 (by decide +kernel) ?_
        refine lv_icmp_ne (tgt := 58) hx hb dX3_kindOf_53 (by decide) (fun c53 => ?_) (fun c53 => ?_)
        · rw [if_neg c53] at hR
          refine lv_iload_n hx hb dX3_kindOf_58 rfl (lv_at hl 0 rfl) ?_
          refine lv_if_eq (tgt := 66) hx hb dX3_kindOf_59 (by decide) (fun c59 => ?_) (fun c59 => ?_)
          · rw [if_pos c59] at hR
            refine lv_bipush (v := (-6 : Int32)) hx hb dX3_kindOf_66 (by decide +kernel) ?_
            subst hR
            exact ro_iret hx hb hr hlocks dX3_kindOf_68
          · rw [if_neg c59] at hR
            refine lv_iconst (v := (2 : Int32)) hx hb dX3_kindOf_62 (by decide) ?_
            refine lv_goto (tgt := 68) hx hb dX3_kindOf_63 (by decide) ?_
            subst hR
            exact ro_iret hx hb hr hlocks dX3_kindOf_68
        · rw [if_pos c53] at hR
          refine lv_iconst (v := (1 : Int32)) hx hb dX3_kindOf_56 (by decide) ?_
          subst hR
          exact ro_iret hx hb hr hlocks dX3_kindOf_57
      · rw [if_pos c45] at hR
        refine lv_iconst (v := (0 : Int32)) hx hb dX3_kindOf_48 (by decide) ?_
        subst hR
        exact ro_iret hx hb hr hlocks dX3_kindOf_49
    · rw [if_pos c28] at hR
      refine lv_iload_n hx hb dX3_kindOf_31 rfl (lv_at hl 0 rfl) ?_
      refine lv_if_eq (tgt := 39) hx hb dX3_kindOf_32 (by decide) (fun c32 => ?_) (fun c32 => ?_)
      · rw [if_pos c32] at hR
        refine lv_bipush (v := (-6 : Int32)) hx hb dX3_kindOf_39 (by decide +kernel) ?_
        subst hR
        exact ro_iret hx hb hr hlocks dX3_kindOf_41
      · rw [if_neg c32] at hR
        refine lv_iconst (v := (4 : Int32)) hx hb dX3_kindOf_35 (by decide) ?_
        refine lv_goto (tgt := 41) hx hb dX3_kindOf_36 (by decide) ?_
        subst hR
        exact ro_iret hx hb hr hlocks dX3_kindOf_41
  · rw [if_pos c11] at hR
    refine lv_iload_n hx hb dX3_kindOf_14 rfl (lv_at hl 0 rfl) ?_
    refine lv_if_eq (tgt := 22) hx hb dX3_kindOf_15 (by decide) (fun c15 => ?_) (fun c15 => ?_)
    · rw [if_pos c15] at hR
      refine lv_bipush (v := (-6 : Int32)) hx hb dX3_kindOf_22 (by decide +kernel) ?_
      subst hR
      exact ro_iret hx hb hr hlocks dX3_kindOf_24
    · rw [if_neg c15] at hR
      refine lv_iconst (v := (3 : Int32)) hx hb dX3_kindOf_18 (by decide) ?_
      refine lv_goto (tgt := 24) hx hb dX3_kindOf_19 (by decide) ?_
      subst hR
      exact ro_iret hx hb hr hlocks dX3_kindOf_24


theorem in_X3_write_X3 : ∀ w ∈ u_ws RX3 TX3 6, w ∈ wsX3_write := by decide +kernel
def f_X3_write (pd_length : Nat) (pd_signs : Nat → Int32) (xs : Int32) : Int32 × Int32 × (Nat → Int32) :=
  (if ((nI pd_length) < (60 : Int32)) then ((1 : Int32), (nI (pd_length + 1)), (upd pd_signs pd_length xs)) else ((0 : Int32), (nI pd_length), pd_signs))
set_option maxHeartbeats 4000000 in
set_option maxRecDepth 100000 in
theorem c_X3_write (l : Launch) (D : va_G) (cI cJ cZ : ClassId) (pd : Nat) (pd_signs_a : Nat) (pd_length : Nat) (pd_kinds_a : Nat) (pd_parishes_a : Nat) (pd_numbers_a : Nat) (pd_acts : Int32) (pd_signs : Nat → Int32) (xs : Int32) (hln : pd_length ≤ 60) : RW l yX3_write wsX3_write ({ frames := 0, cells := 0, slots := 0, locals := 0 }) [.ref pd, .int xs] D cI cJ cZ [(pd, .inr (3, [.ref pd_signs_a, .int (nI pd_length), .ref pd_kinds_a, .ref pd_parishes_a, .ref pd_numbers_a, .int pd_acts])), (pd_signs_a, .inl (cI, 60, .inl pd_signs))] (some (.int ((f_X3_write pd_length pd_signs xs).1))) [(pd, .inr (3, [.ref pd_signs_a, .int ((f_X3_write pd_length pd_signs xs).2.1), .ref pd_kinds_a, .ref pd_parishes_a, .ref pd_numbers_a, .int pd_acts])), (pd_signs_a, .inl (cI, 60, .inl ((f_X3_write pd_length pd_signs xs).2.2)))] := by
  obtain ⟨R0, R1, R2, hR⟩ := prodE3 (f_X3_write pd_length pd_signs xs)
  rw [hR]
  dsimp only
  refine rw_start (cc := cX3_write) (maxL := 2) (ret := (some .boolean)) (by decide) rfl (Nat.le_of_ble_eq_true rfl) ?_
  intro p e s m args below meth c hx hb hr hml hown hts hlocks hP hD hS hK ls hl
  have hown : s.vm.findClass RX3 = some m.cls := hown
  have hl : lv_has ls 2 [(0, .ref pd), (1, .int xs)] := hl
  have hq0 := hts (.fieldLink RX3 24 "StuckVanes$Pad" "length" "I") (by decide +kernel)
  have hq1 := hts (.fieldLink RX3 9 "StuckVanes$Pad" "signs" "[I") (by decide +kernel)
  rw [f_X3_write] at hR
  refine lv_aload_n hx hb dX3_write_0 rfl (lv_at hl 0 rfl) ?_
  refine va_get (D := D) (ci := 3) (v := .int (nI pd_length)) (C := RX3) (T := TX3) (N := 6) hx hb hts in_X3_write_X3 hown hK.1 hP 0 rfl rfl 1 (by decide) hq0 (fun _ h9 => h9) rfl dX3_write_1 ?_
  refine lv_bipush (v := (60 : Int32)) hx hb dX3_write_4 (by decide +kernel) ?_
  refine lv_icmp_lt (tgt := 11) hx hb dX3_write_6 (by decide) (fun c6 => ?_) (fun c6 => ?_)
  · rw [if_pos c6] at hR
    refine lv_aload_n hx hb dX3_write_11 rfl (lv_at hl 0 rfl) ?_
    refine va_get (D := D) (ci := 3) (v := .ref pd_signs_a) (C := RX3) (T := TX3) (N := 6) hx hb hts in_X3_write_X3 hown hK.1 hP 0 rfl rfl 0 (by decide) hq1 (fun _ h9 => h9) rfl dX3_write_12 ?_
    refine lv_aload_n hx hb dX3_write_15 rfl (lv_at hl 0 rfl) ?_
    refine va_get (D := D) (ci := 3) (v := .int (nI pd_length)) (C := RX3) (T := TX3) (N := 6) hx hb hts in_X3_write_X3 hown hK.1 hP 0 rfl rfl 1 (by decide) hq0 (fun _ h9 => h9) rfl dX3_write_16 ?_
    refine lv_iload_n hx hb dX3_write_19 rfl (lv_at hl 1 rfl) ?_
    refine ia_st hx hb hK hP hD hS 1 rfl (i := pd_length) (of_lt (a := pd_length) (b := 60) (by omega) (by decide) c6) (by decide) dX3_write_20 (fun H locs hP hD hS => ?_)
    have hP : va_P D vwCl [(pd, .inr (3, [.ref pd_signs_a, .int (nI pd_length), .ref pd_kinds_a, .ref pd_parishes_a, .ref pd_numbers_a, .int pd_acts])), (pd_signs_a, .inl (cI, 60, .inl (upd pd_signs pd_length xs)))] H := hP
    have hD : va_D _ [(pd, .inr (3, [.ref pd_signs_a, .int (nI pd_length), .ref pd_kinds_a, .ref pd_parishes_a, .ref pd_numbers_a, .int pd_acts])), (pd_signs_a, .inl (cI, 60, .inl (upd pd_signs pd_length xs)))] := hD
    refine lv_aload_n hx hb dX3_write_21 rfl (lv_at hl 0 rfl) ?_
    refine lv_dup hx hb dX3_write_22 rfl ?_
    refine va_get (D := D) (ci := 3) (v := .int (nI pd_length)) (C := RX3) (T := TX3) (N := 6) hx hb hts in_X3_write_X3 hown hK.1 hP 0 rfl rfl 1 (by decide) hq0 (fun _ h9 => h9) rfl dX3_write_23 ?_
    refine lv_iconst (v := (1 : Int32)) hx hb dX3_write_26 (by decide) ?_
    refine lv_iadd hx hb dX3_write_27 ?_
    rw [show ((nI pd_length) + (1 : Int32)) = (nI (pd_length + 1)) from nI_add pd_length 1]
    refine va_put (D := D) (ci := 3) (v := .int (nI (pd_length + 1))) (ty := .int) (C := RX3) (T := TX3) (N := 6) hx hb hts in_X3_write_X3 tyX3 tyX3_ok nmX3 hown hK.1 hP hD hS 0 rfl rfl 1 (by decide) hq0 (fun _ h9 => h9) rfl (by decide +kernel) rfl rfl (Nat.le_of_ble_eq_true rfl) dX3_write_28 (fun H locs hP hD hS => ?_)
    have hP : va_P D vwCl [(pd, .inr (3, [.ref pd_signs_a, .int (nI (pd_length + 1)), .ref pd_kinds_a, .ref pd_parishes_a, .ref pd_numbers_a, .int pd_acts])), (pd_signs_a, .inl (cI, 60, .inl (upd pd_signs pd_length xs)))] H := hP
    have hD : va_D _ [(pd, .inr (3, [.ref pd_signs_a, .int (nI (pd_length + 1)), .ref pd_kinds_a, .ref pd_parishes_a, .ref pd_numbers_a, .int pd_acts])), (pd_signs_a, .inl (cI, 60, .inl (upd pd_signs pd_length xs)))] := hD
    refine lv_iconst (v := (1 : Int32)) hx hb dX3_write_31 (by decide) ?_
    obtain ⟨rfl, rfl, rfl⟩ := prodI3 hR
    exact rw_zret hx hb hr hlocks (Or.inr rfl) hP hS dX3_write_32
  · rw [if_neg c6] at hR
    refine lv_iconst (v := (0 : Int32)) hx hb dX3_write_9 (by decide) ?_
    obtain ⟨rfl, rfl, rfl⟩ := prodI3 hR
    exact rw_zret hx hb hr hlocks (Or.inl rfl) hP hS dX3_write_10

theorem z_X3_write (pd_length : Nat) (pd_signs : Nat → Int32) (xs : Int32) : (f_X3_write pd_length pd_signs xs).1 = 0 ∨ (f_X3_write pd_length pd_signs xs).1 = 1 := by
  unfold f_X3_write
  (repeat' split) <;> first | exact Or.inl rfl | exact Or.inr rfl


theorem in_X3_addAct_X3 : ∀ w ∈ u_ws RX3 TX3 6, w ∈ wsX3_addAct := by decide +kernel
def f_X3_addAct (pd_acts : Int32) (pd_kinds : Nat → Int32) (pd_parishes : Nat → Int32) (pd_numbers : Nat → Int32) (xk : Int32) (xp : Int32) (xn : Int32) : Int32 × (Nat → Int32) × (Nat → Int32) × (Nat → Int32) :=
  (if ((60 : Int32) ≤ pd_acts) then (pd_acts, pd_kinds, pd_parishes, pd_numbers) else ((pd_acts + (1 : Int32)), (upd pd_kinds pd_acts.toNatClampNeg xk), (upd pd_parishes pd_acts.toNatClampNeg xp), (upd pd_numbers pd_acts.toNatClampNeg xn)))
set_option maxHeartbeats 4000000 in
set_option maxRecDepth 100000 in
theorem c_X3_addAct (l : Launch) (D : va_G) (cI cJ cZ : ClassId) (pd : Nat) (pd_signs_a : Nat) (pd_length : Int32) (pd_kinds_a : Nat) (pd_parishes_a : Nat) (pd_numbers_a : Nat) (pd_acts : Int32) (pd_kinds : Nat → Int32) (pd_parishes : Nat → Int32) (pd_numbers : Nat → Int32) (xk : Int32) (xp : Int32) (xn : Int32) (hac : ¬ pd_acts < 0) : RW l yX3_addAct wsX3_addAct ({ frames := 0, cells := 0, slots := 0, locals := 0 }) [.ref pd, .int xk, .int xp, .int xn] D cI cJ cZ [(pd, .inr (3, [.ref pd_signs_a, .int pd_length, .ref pd_kinds_a, .ref pd_parishes_a, .ref pd_numbers_a, .int pd_acts])), (pd_kinds_a, .inl (cI, 60, .inl pd_kinds)), (pd_parishes_a, .inl (cI, 60, .inl pd_parishes)), (pd_numbers_a, .inl (cI, 60, .inl pd_numbers))] none [(pd, .inr (3, [.ref pd_signs_a, .int pd_length, .ref pd_kinds_a, .ref pd_parishes_a, .ref pd_numbers_a, .int ((f_X3_addAct pd_acts pd_kinds pd_parishes pd_numbers xk xp xn).1)])), (pd_kinds_a, .inl (cI, 60, .inl ((f_X3_addAct pd_acts pd_kinds pd_parishes pd_numbers xk xp xn).2.1))), (pd_parishes_a, .inl (cI, 60, .inl ((f_X3_addAct pd_acts pd_kinds pd_parishes pd_numbers xk xp xn).2.2.1))), (pd_numbers_a, .inl (cI, 60, .inl ((f_X3_addAct pd_acts pd_kinds pd_parishes pd_numbers xk xp xn).2.2.2)))] := by
  obtain ⟨R0, R1, R2, R3, hR⟩ := prodE4 (f_X3_addAct pd_acts pd_kinds pd_parishes pd_numbers xk xp xn)
  rw [hR]
  dsimp only
  refine rw_start (cc := cX3_addAct) (maxL := 4) (ret := none) (by decide) rfl (Nat.le_of_ble_eq_true rfl) ?_
  intro p e s m args below meth c hx hb hr hml hown hts hlocks hP hD hS hK ls hl
  have hown : s.vm.findClass RX3 = some m.cls := hown
  have hl : lv_has ls 4 [(0, .ref pd), (1, .int xk), (2, .int xp), (3, .int xn)] := hl
  have hq0 := hts (.fieldLink RX3 28 "StuckVanes$Pad" "acts" "I") (by decide +kernel)
  have hq1 := hts (.fieldLink RX3 15 "StuckVanes$Pad" "kinds" "[I") (by decide +kernel)
  have hq2 := hts (.fieldLink RX3 18 "StuckVanes$Pad" "parishes" "[I") (by decide +kernel)
  have hq3 := hts (.fieldLink RX3 21 "StuckVanes$Pad" "numbers" "[I") (by decide +kernel)
  rw [f_X3_addAct] at hR
  refine lv_aload_n hx hb dX3_addAct_0 rfl (lv_at hl 0 rfl) ?_
  refine va_get (D := D) (ci := 3) (v := .int pd_acts) (C := RX3) (T := TX3) (N := 6) hx hb hts in_X3_addAct_X3 hown hK.1 hP 0 rfl rfl 5 (by decide) hq0 (fun _ h9 => h9) rfl dX3_addAct_1 ?_
  refine lv_bipush (v := (60 : Int32)) hx hb dX3_addAct_4 (by decide +kernel) ?_
  refine lv_icmp_ge (tgt := 49) hx hb dX3_addAct_6 (by decide) (fun c6 => ?_) (fun c6 => ?_)
  · rw [if_pos c6] at hR
    obtain ⟨rfl, rfl, rfl, rfl⟩ := prodI4 hR
    exact rw_vret hx hb hr hlocks hP hS dX3_addAct_49
  · rw [if_neg c6] at hR
    refine lv_aload_n hx hb dX3_addAct_9 rfl (lv_at hl 0 rfl) ?_
    refine va_get (D := D) (ci := 3) (v := .ref pd_kinds_a) (C := RX3) (T := TX3) (N := 6) hx hb hts in_X3_addAct_X3 hown hK.1 hP 0 rfl rfl 2 (by decide) hq1 (fun _ h9 => h9) rfl dX3_addAct_10 ?_
    refine lv_aload_n hx hb dX3_addAct_13 rfl (lv_at hl 0 rfl) ?_
    refine va_get (D := D) (ci := 3) (v := .int pd_acts) (C := RX3) (T := TX3) (N := 6) hx hb hts in_X3_addAct_X3 hown hK.1 hP 0 rfl rfl 5 (by decide) hq0 (fun _ h9 => h9) rfl dX3_addAct_14 ?_
    refine lv_iload_n hx hb dX3_addAct_17 rfl (lv_at hl 1 rfl) ?_
    refine va_iast hx hb hK.1 hP hD hS 1 0 rfl rfl (vp_of (n := 60) hac c6 (by decide)) dX3_addAct_18 (fun H locs hP hD hS => ?_)
    have hP : va_P D vwCl [(pd, .inr (3, [.ref pd_signs_a, .int pd_length, .ref pd_kinds_a, .ref pd_parishes_a, .ref pd_numbers_a, .int pd_acts])), (pd_kinds_a, .inl (cI, 60, .inl (upd pd_kinds pd_acts.toNatClampNeg xk))), (pd_parishes_a, .inl (cI, 60, .inl pd_parishes)), (pd_numbers_a, .inl (cI, 60, .inl pd_numbers))] H := hP
    have hD : va_D _ [(pd, .inr (3, [.ref pd_signs_a, .int pd_length, .ref pd_kinds_a, .ref pd_parishes_a, .ref pd_numbers_a, .int pd_acts])), (pd_kinds_a, .inl (cI, 60, .inl (upd pd_kinds pd_acts.toNatClampNeg xk))), (pd_parishes_a, .inl (cI, 60, .inl pd_parishes)), (pd_numbers_a, .inl (cI, 60, .inl pd_numbers))] := hD
    refine lv_aload_n hx hb dX3_addAct_19 rfl (lv_at hl 0 rfl) ?_
    refine va_get (D := D) (ci := 3) (v := .ref pd_parishes_a) (C := RX3) (T := TX3) (N := 6) hx hb hts in_X3_addAct_X3 hown hK.1 hP 0 rfl rfl 3 (by decide) hq2 (fun _ h9 => h9) rfl dX3_addAct_20 ?_
    refine lv_aload_n hx hb dX3_addAct_23 rfl (lv_at hl 0 rfl) ?_
    refine va_get (D := D) (ci := 3) (v := .int pd_acts) (C := RX3) (T := TX3) (N := 6) hx hb hts in_X3_addAct_X3 hown hK.1 hP 0 rfl rfl 5 (by decide) hq0 (fun _ h9 => h9) rfl dX3_addAct_24 ?_
    refine lv_iload_n hx hb dX3_addAct_27 rfl (lv_at hl 2 rfl) ?_
    refine va_iast hx hb hK.1 hP hD hS 2 0 rfl rfl (vp_of (n := 60) hac c6 (by decide)) dX3_addAct_28 (fun H locs hP hD hS => ?_)
    have hP : va_P D vwCl [(pd, .inr (3, [.ref pd_signs_a, .int pd_length, .ref pd_kinds_a, .ref pd_parishes_a, .ref pd_numbers_a, .int pd_acts])), (pd_kinds_a, .inl (cI, 60, .inl (upd pd_kinds pd_acts.toNatClampNeg xk))), (pd_parishes_a, .inl (cI, 60, .inl (upd pd_parishes pd_acts.toNatClampNeg xp))), (pd_numbers_a, .inl (cI, 60, .inl pd_numbers))] H := hP
    have hD : va_D _ [(pd, .inr (3, [.ref pd_signs_a, .int pd_length, .ref pd_kinds_a, .ref pd_parishes_a, .ref pd_numbers_a, .int pd_acts])), (pd_kinds_a, .inl (cI, 60, .inl (upd pd_kinds pd_acts.toNatClampNeg xk))), (pd_parishes_a, .inl (cI, 60, .inl (upd pd_parishes pd_acts.toNatClampNeg xp))), (pd_numbers_a, .inl (cI, 60, .inl pd_numbers))] := hD
    refine lv_aload_n hx hb dX3_addAct_29 rfl (lv_at hl 0 rfl) ?_
    refine va_get (D := D) (ci := 3) (v := .ref pd_numbers_a) (C := RX3) (T := TX3) (N := 6) hx hb hts in_X3_addAct_X3 hown hK.1 hP 0 rfl rfl 4 (by decide) hq3 (fun _ h9 => h9) rfl dX3_addAct_30 ?_
    refine lv_aload_n hx hb dX3_addAct_33 rfl (lv_at hl 0 rfl) ?_
    refine va_get (D := D) (ci := 3) (v := .int pd_acts) (C := RX3) (T := TX3) (N := 6) hx hb hts in_X3_addAct_X3 hown hK.1 hP 0 rfl rfl 5 (by decide) hq0 (fun _ h9 => h9) rfl dX3_addAct_34 ?_
    refine lv_iload_n hx hb dX3_addAct_37 rfl (lv_at hl 3 rfl) ?_
    refine va_iast hx hb hK.1 hP hD hS 3 0 rfl rfl (vp_of (n := 60) hac c6 (by decide)) dX3_addAct_38 (fun H locs hP hD hS => ?_)
    have hP : va_P D vwCl [(pd, .inr (3, [.ref pd_signs_a, .int pd_length, .ref pd_kinds_a, .ref pd_parishes_a, .ref pd_numbers_a, .int pd_acts])), (pd_kinds_a, .inl (cI, 60, .inl (upd pd_kinds pd_acts.toNatClampNeg xk))), (pd_parishes_a, .inl (cI, 60, .inl (upd pd_parishes pd_acts.toNatClampNeg xp))), (pd_numbers_a, .inl (cI, 60, .inl (upd pd_numbers pd_acts.toNatClampNeg xn)))] H := hP
    have hD : va_D _ [(pd, .inr (3, [.ref pd_signs_a, .int pd_length, .ref pd_kinds_a, .ref pd_parishes_a, .ref pd_numbers_a, .int pd_acts])), (pd_kinds_a, .inl (cI, 60, .inl (upd pd_kinds pd_acts.toNatClampNeg xk))), (pd_parishes_a, .inl (cI, 60, .inl (upd pd_parishes pd_acts.toNatClampNeg xp))), (pd_numbers_a, .inl (cI, 60, .inl (upd pd_numbers pd_acts.toNatClampNeg xn)))] := hD
    refine lv_aload_n hx hb dX3_addAct_39 rfl (lv_at hl 0 rfl) ?_
    refine lv_dup hx hb dX3_addAct_40 rfl ?_
    refine va_get (D := D) (ci := 3) (v := .int pd_acts) (C := RX3) (T := TX3) (N := 6) hx hb hts in_X3_addAct_X3 hown hK.1 hP 0 rfl rfl 5 (by decide) hq0 (fun _ h9 => h9) rfl dX3_addAct_41 ?_
    refine lv_iconst (v := (1 : Int32)) hx hb dX3_addAct_44 (by decide) ?_
    refine lv_iadd hx hb dX3_addAct_45 ?_
    refine va_put (D := D) (ci := 3) (v := .int (pd_acts + (1 : Int32))) (ty := .int) (C := RX3) (T := TX3) (N := 6) hx hb hts in_X3_addAct_X3 tyX3 tyX3_ok nmX3 hown hK.1 hP hD hS 0 rfl rfl 5 (by decide) hq0 (fun _ h9 => h9) rfl (by decide +kernel) rfl rfl (Nat.le_of_ble_eq_true rfl) dX3_addAct_46 (fun H locs hP hD hS => ?_)
    have hP : va_P D vwCl [(pd, .inr (3, [.ref pd_signs_a, .int pd_length, .ref pd_kinds_a, .ref pd_parishes_a, .ref pd_numbers_a, .int (pd_acts + (1 : Int32))])), (pd_kinds_a, .inl (cI, 60, .inl (upd pd_kinds pd_acts.toNatClampNeg xk))), (pd_parishes_a, .inl (cI, 60, .inl (upd pd_parishes pd_acts.toNatClampNeg xp))), (pd_numbers_a, .inl (cI, 60, .inl (upd pd_numbers pd_acts.toNatClampNeg xn)))] H := hP
    have hD : va_D _ [(pd, .inr (3, [.ref pd_signs_a, .int pd_length, .ref pd_kinds_a, .ref pd_parishes_a, .ref pd_numbers_a, .int (pd_acts + (1 : Int32))])), (pd_kinds_a, .inl (cI, 60, .inl (upd pd_kinds pd_acts.toNatClampNeg xk))), (pd_parishes_a, .inl (cI, 60, .inl (upd pd_parishes pd_acts.toNatClampNeg xp))), (pd_numbers_a, .inl (cI, 60, .inl (upd pd_numbers pd_acts.toNatClampNeg xn)))] := hD
    obtain ⟨rfl, rfl, rfl, rfl⟩ := prodI4 hR
    exact rw_vret hx hb hr hlocks hP hS dX3_addAct_49

theorem addAct_nn (a : Int32) (k q n : Nat → Int32) (x y z : Int32) (h : ¬ a < 0) : ¬ (f_X3_addAct a k q n x y z).1 < 0 := by
  unfold f_X3_addAct
  split
  · exact h
  · next c =>
    obtain ⟨j, hj, rfl⟩ := nI_of h
    have q := of_nle (a := j) (b := 60) hj (by decide) c
    show ¬ nI j + 1 < 0
    rw [nI_1]
    exact nI_pos (by omega)
theorem addAct_le (a : Int32) (k q n : Nat → Int32) (x y z : Int32) (h0 : ¬ a < 0) (h : a ≤ nI 60) : (f_X3_addAct a k q n x y z).1 ≤ nI 60 := by
  unfold f_X3_addAct
  split
  · exact h
  · next c =>
    obtain ⟨j, hj, rfl⟩ := nI_of h0
    have q := of_nle (a := j) (b := 60) hj (by decide) c
    show nI j + 1 ≤ nI 60
    rw [nI_1]
    exact nI_le (by omega) (by decide)

theorem in_X3_read_X3 : ∀ w ∈ u_ws RX3 TX3 6, w ∈ wsX3_read := by decide +kernel
theorem hd_X3_addAct : yX3_addAct.cls ≠ "java/lang/invoke/MethodHandle" ∧ yX3_addAct.cls ≠ "java/lang/invoke/VarHandle" ∧ (parseMethodDescriptor yX3_addAct.desc).map (fun d => d.parameters.length) = some 3 := by decide +kernel
theorem hd_X3_isHead : yX3_isHead.cls ≠ "java/lang/invoke/MethodHandle" ∧ yX3_isHead.cls ≠ "java/lang/invoke/VarHandle" ∧ (parseMethodDescriptor yX3_isHead.desc).map (fun d => d.parameters.length) = some 1 := by decide +kernel
theorem hd_X3_kindOf : yX3_kindOf.cls ≠ "java/lang/invoke/MethodHandle" ∧ yX3_kindOf.cls ≠ "java/lang/invoke/VarHandle" ∧ (parseMethodDescriptor yX3_kindOf.desc).map (fun d => d.parameters.length) = some 2 := by decide +kernel
def lp_X3_read_9 (pd_length : Nat) (pd_signs : Nat → Int32) : Nat → Nat → Int32 → (Nat → Int32) → (Nat → Int32) → (Nat → Int32) → Int32 → Int32 × Int32 × (Nat → Int32) × (Nat → Int32) × (Nat → Int32)
  | 0, _, u0_5_9, r2_9, r3_9, r4_9, v1_9 => (if (v1_9 = 0) then ((-6 : Int32), u0_5_9, r2_9, r3_9, r4_9) else ((nI pd_length), u0_5_9, r2_9, r3_9, r4_9))
  | k9 + 1, i9, u0_5_9, r2_9, r3_9, r4_9, v1_9 => (if (v1_9 = 0) then (if ((pd_signs i9) = (46 : Int32)) then (lp_X3_read_9 pd_length pd_signs k9 (i9 + 1) ((f_X3_addAct u0_5_9 r2_9 r3_9 r4_9 (5 : Int32) (0 : Int32) (0 : Int32)).1) ((f_X3_addAct u0_5_9 r2_9 r3_9 r4_9 (5 : Int32) (0 : Int32) (0 : Int32)).2.1) ((f_X3_addAct u0_5_9 r2_9 r3_9 r4_9 (5 : Int32) (0 : Int32) (0 : Int32)).2.2.1) ((f_X3_addAct u0_5_9 r2_9 r3_9 r4_9 (5 : Int32) (0 : Int32) (0 : Int32)).2.2.2) v1_9) else (if ((f_X3_isHead (pd_signs i9)) = 0) then ((nI i9), u0_5_9, r2_9, r3_9, r4_9) else (lp_X3_read_9 pd_length pd_signs k9 (i9 + 1) u0_5_9 r2_9 r3_9 r4_9 (pd_signs i9)))) else (if ((f_X3_kindOf v1_9 (pd_signs i9)) = (-6 : Int32)) then ((nI i9), u0_5_9, r2_9, r3_9, r4_9) else (lp_X3_read_9 pd_length pd_signs k9 (i9 + 1) ((f_X3_addAct u0_5_9 r2_9 r3_9 r4_9 (f_X3_kindOf v1_9 (pd_signs i9)) (v1_9 - (65 : Int32)) ((pd_signs i9) - (48 : Int32))).1) ((f_X3_addAct u0_5_9 r2_9 r3_9 r4_9 (f_X3_kindOf v1_9 (pd_signs i9)) (v1_9 - (65 : Int32)) ((pd_signs i9) - (48 : Int32))).2.1) ((f_X3_addAct u0_5_9 r2_9 r3_9 r4_9 (f_X3_kindOf v1_9 (pd_signs i9)) (v1_9 - (65 : Int32)) ((pd_signs i9) - (48 : Int32))).2.2.1) ((f_X3_addAct u0_5_9 r2_9 r3_9 r4_9 (f_X3_kindOf v1_9 (pd_signs i9)) (v1_9 - (65 : Int32)) ((pd_signs i9) - (48 : Int32))).2.2.2) (0 : Int32))))
def f_X3_read (pd_length : Nat) (pd_signs : Nat → Int32) (pd_kinds : Nat → Int32) (pd_parishes : Nat → Int32) (pd_numbers : Nat → Int32) : Int32 × Int32 × (Nat → Int32) × (Nat → Int32) × (Nat → Int32) :=
  (lp_X3_read_9 pd_length pd_signs pd_length 0 (0 : Int32) pd_kinds pd_parishes pd_numbers (0 : Int32))
set_option maxHeartbeats 4000000 in
set_option maxRecDepth 100000 in
theorem c_X3_read (l : Launch) (D : va_G) (cI cJ cZ : ClassId) (pd : Nat) (pd_signs_a : Nat) (pd_length : Nat) (pd_kinds_a : Nat) (pd_parishes_a : Nat) (pd_numbers_a : Nat) (pd_acts : Int32) (pd_signs : Nat → Int32) (pd_kinds : Nat → Int32) (pd_parishes : Nat → Int32) (pd_numbers : Nat → Int32) (hln : pd_length ≤ 60) : RW l yX3_read wsX3_read ({ frames := 3, cells := 0, slots := 0, locals := 63 }) [.ref pd] D cI cJ cZ [(pd, .inr (3, [.ref pd_signs_a, .int (nI pd_length), .ref pd_kinds_a, .ref pd_parishes_a, .ref pd_numbers_a, .int pd_acts])), (pd_signs_a, .inl (cI, 60, .inl pd_signs)), (pd_kinds_a, .inl (cI, 60, .inl pd_kinds)), (pd_parishes_a, .inl (cI, 60, .inl pd_parishes)), (pd_numbers_a, .inl (cI, 60, .inl pd_numbers))] (some (.int ((f_X3_read pd_length pd_signs pd_kinds pd_parishes pd_numbers).1))) [(pd, .inr (3, [.ref pd_signs_a, .int (nI pd_length), .ref pd_kinds_a, .ref pd_parishes_a, .ref pd_numbers_a, .int ((f_X3_read pd_length pd_signs pd_kinds pd_parishes pd_numbers).2.1)])), (pd_signs_a, .inl (cI, 60, .inl pd_signs)), (pd_kinds_a, .inl (cI, 60, .inl ((f_X3_read pd_length pd_signs pd_kinds pd_parishes pd_numbers).2.2.1))), (pd_parishes_a, .inl (cI, 60, .inl ((f_X3_read pd_length pd_signs pd_kinds pd_parishes pd_numbers).2.2.2.1))), (pd_numbers_a, .inl (cI, 60, .inl ((f_X3_read pd_length pd_signs pd_kinds pd_parishes pd_numbers).2.2.2.2)))] := by
  obtain ⟨R0, R1, R2, R3, R4, hR⟩ := prodE5 (f_X3_read pd_length pd_signs pd_kinds pd_parishes pd_numbers)
  rw [hR]
  dsimp only
  refine rw_start (cc := cX3_read) (maxL := 5) (ret := (some .int)) (by decide) rfl (Nat.le_of_ble_eq_true rfl) ?_
  intro p e s m args below meth c hx hb hr hml hown hts hlocks hP hD hS hK ls hl
  have hown : s.vm.findClass RX3 = some m.cls := hown
  have hl : lv_has ls 5 [(0, .ref pd)] := hl
  have hq0 := hts (.fieldLink RX3 28 "StuckVanes$Pad" "acts" "I") (by decide +kernel)
  have hq1 := hts (.fieldLink RX3 24 "StuckVanes$Pad" "length" "I") (by decide +kernel)
  have hq2 := hts (.fieldLink RX3 9 "StuckVanes$Pad" "signs" "[I") (by decide +kernel)
  rw [f_X3_read] at hR
  refine lv_aload_n hx hb dX3_read_0 rfl (lv_at hl 0 rfl) ?_
  refine lv_iconst (v := (0 : Int32)) hx hb dX3_read_1 (by decide) ?_
  refine va_put (D := D) (ci := 3) (v := .int (0 : Int32)) (ty := .int) (C := RX3) (T := TX3) (N := 6) hx hb hts in_X3_read_X3 tyX3 tyX3_ok nmX3 hown hK.1 hP hD hS 0 rfl rfl 5 (by decide) hq0 (fun _ h9 => h9) rfl (by decide +kernel) rfl rfl (Nat.le_of_ble_eq_true rfl) dX3_read_2 (fun H locs hP hD hS => ?_)
  have hP : va_P D vwCl [(pd, .inr (3, [.ref pd_signs_a, .int (nI pd_length), .ref pd_kinds_a, .ref pd_parishes_a, .ref pd_numbers_a, .int (0 : Int32)])), (pd_signs_a, .inl (cI, 60, .inl pd_signs)), (pd_kinds_a, .inl (cI, 60, .inl pd_kinds)), (pd_parishes_a, .inl (cI, 60, .inl pd_parishes)), (pd_numbers_a, .inl (cI, 60, .inl pd_numbers))] H := hP
  have hD : va_D _ [(pd, .inr (3, [.ref pd_signs_a, .int (nI pd_length), .ref pd_kinds_a, .ref pd_parishes_a, .ref pd_numbers_a, .int (0 : Int32)])), (pd_signs_a, .inl (cI, 60, .inl pd_signs)), (pd_kinds_a, .inl (cI, 60, .inl pd_kinds)), (pd_parishes_a, .inl (cI, 60, .inl pd_parishes)), (pd_numbers_a, .inl (cI, 60, .inl pd_numbers))] := hD
  refine lv_iconst (v := (0 : Int32)) hx hb dX3_read_5 (by decide) ?_
  refine lv_istore_n (lv' := [(1, .int (0 : Int32)), (0, .ref pd)]) hx hb dX3_read_6 rfl hl (by decide) rfl (fun ls hl => ?_)
  refine lv_iconst (v := (0 : Int32)) hx hb dX3_read_7 (by decide) ?_
  refine lv_istore_n (lv' := [(2, .int (0 : Int32)), (1, .int (0 : Int32)), (0, .ref pd)]) hx hb dX3_read_8 rfl hl (by decide) rfl (fun ls hl => ?_)
  have hloop9 : ∀ (k9 i9 : Nat) (u0_5_9 : Int32) (r2_9 : Nat → Int32) (r3_9 : Nat → Int32) (r4_9 : Nat → Int32) (v1_9 : Int32), i9 + k9 = pd_length → ¬ u0_5_9 < 0 → ∀ (H : Heap) (locs : List Loc), va_P D vwCl [(pd, .inr (3, [.ref pd_signs_a, .int (nI pd_length), .ref pd_kinds_a, .ref pd_parishes_a, .ref pd_numbers_a, .int u0_5_9])), (pd_signs_a, .inl (cI, 60, .inl pd_signs)), (pd_kinds_a, .inl (cI, 60, .inl r2_9)), (pd_parishes_a, .inl (cI, 60, .inl r3_9)), (pd_numbers_a, .inl (cI, 60, .inl r4_9))] H → va_D (va_In [(pd, .inr (3, [.ref pd_signs_a, .int (nI pd_length), .ref pd_kinds_a, .ref pd_parishes_a, .ref pd_numbers_a, .int pd_acts])), (pd_signs_a, .inl (cI, 60, .inl pd_signs)), (pd_kinds_a, .inl (cI, 60, .inl pd_kinds)), (pd_parishes_a, .inl (cI, 60, .inl pd_parishes)), (pd_numbers_a, .inl (cI, 60, .inl pd_numbers))]) [(pd, .inr (3, [.ref pd_signs_a, .int (nI pd_length), .ref pd_kinds_a, .ref pd_parishes_a, .ref pd_numbers_a, .int u0_5_9])), (pd_signs_a, .inl (cI, 60, .inl pd_signs)), (pd_kinds_a, .inl (cI, 60, .inl r2_9)), (pd_parishes_a, .inl (cI, 60, .inl r3_9)), (pd_numbers_a, .inl (cI, 60, .inl r4_9))] → va_S (va_In [(pd, .inr (3, [.ref pd_signs_a, .int (nI pd_length), .ref pd_kinds_a, .ref pd_parishes_a, .ref pd_numbers_a, .int pd_acts])), (pd_signs_a, .inl (cI, 60, .inl pd_signs)), (pd_kinds_a, .inl (cI, 60, .inl pd_kinds)), (pd_parishes_a, .inl (cI, 60, .inl pd_parishes)), (pd_numbers_a, .inl (cI, 60, .inl pd_numbers))]) s.heap H locs → ∀ (ls : Array Slot), lv_has ls 5 [(2, .int (nI i9)), (1, .int v1_9), (0, .ref pd)] → lp_X3_read_9 pd_length pd_signs k9 i9 u0_5_9 r2_9 r3_9 r4_9 v1_9 = (R0, R1, R2, R3, R4) → W p l e ({ frames := 3, cells := 0, slots := 0, locals := 63 }) s m args below meth c H locs 0 0 (MQ below (rw_Q D (some (.int R0)) [(pd, .inr (3, [.ref pd_signs_a, .int (nI pd_length), .ref pd_kinds_a, .ref pd_parishes_a, .ref pd_numbers_a, .int pd_acts])), (pd_signs_a, .inl (cI, 60, .inl pd_signs)), (pd_kinds_a, .inl (cI, 60, .inl pd_kinds)), (pd_parishes_a, .inl (cI, 60, .inl pd_parishes)), (pd_numbers_a, .inl (cI, 60, .inl pd_numbers))] [(pd, .inr (3, [.ref pd_signs_a, .int (nI pd_length), .ref pd_kinds_a, .ref pd_parishes_a, .ref pd_numbers_a, .int R1])), (pd_signs_a, .inl (cI, 60, .inl pd_signs)), (pd_kinds_a, .inl (cI, 60, .inl R2)), (pd_parishes_a, .inl (cI, 60, .inl R3)), (pd_numbers_a, .inl (cI, 60, .inl R4))]) args s 0 0 (va_In [(pd, .inr (3, [.ref pd_signs_a, .int (nI pd_length), .ref pd_kinds_a, .ref pd_parishes_a, .ref pd_numbers_a, .int pd_acts])), (pd_signs_a, .inl (cI, 60, .inl pd_signs)), (pd_kinds_a, .inl (cI, 60, .inl pd_kinds)), (pd_parishes_a, .inl (cI, 60, .inl pd_parishes)), (pd_numbers_a, .inl (cI, 60, .inl pd_numbers))])) (F0 m 9 ls []) := by
    intro k9
    induction k9 with
    | zero =>
      intro i9 u0_5_9 r2_9 r3_9 r4_9 v1_9 h9 ha H locs hP hD hS ls hl hR
      obtain rfl : pd_length = i9 := by omega
      rw [lp_X3_read_9] at hR
      refine lv_iload_n hx hb dX3_read_9 rfl (lv_at hl 0 rfl) ?_
      refine lv_aload_n hx hb dX3_read_10 rfl (lv_at hl 2 rfl) ?_
      refine va_get (D := D) (ci := 3) (v := .int (nI pd_length)) (C := RX3) (T := TX3) (N := 6) hx hb hts in_X3_read_X3 hown hK.1 hP 0 rfl rfl 1 (by decide) hq1 (fun _ h9 => h9) rfl dX3_read_11 ?_
      refine lv_icmp_ge (tgt := 105) hx hb dX3_read_14 (by decide) (fun _ => ?_) (fun h => absurd (cle_t (a := pd_length) (b := pd_length) rfl rfl (by omega) (by omega)) h)
      refine lv_iload_n hx hb dX3_read_105 rfl (lv_at hl 1 rfl) ?_
      refine lv_if_ne (tgt := 114) hx hb dX3_read_106 (by decide) (fun c106 => ?_) (fun c106 => ?_)
      · rw [if_neg c106] at hR
        refine lv_aload_n hx hb dX3_read_114 rfl (lv_at hl 2 rfl) ?_
        refine va_get (D := D) (ci := 3) (v := .int (nI pd_length)) (C := RX3) (T := TX3) (N := 6) hx hb hts in_X3_read_X3 hown hK.1 hP 0 rfl rfl 1 (by decide) hq1 (fun _ h9 => h9) rfl dX3_read_115 ?_
        obtain ⟨rfl, rfl, rfl, rfl, rfl⟩ := prodI5 hR
        exact rw_iret hx hb hr hlocks hP hS dX3_read_118
      · rw [if_pos c106] at hR
        refine lv_bipush (v := (-6 : Int32)) hx hb dX3_read_109 (by decide +kernel) ?_
        refine lv_goto (tgt := 118) hx hb dX3_read_111 (by decide) ?_
        obtain ⟨rfl, rfl, rfl, rfl, rfl⟩ := prodI5 hR
        exact rw_iret hx hb hr hlocks hP hS dX3_read_118
    | succ k9 ih9 =>
      intro i9 u0_5_9 r2_9 r3_9 r4_9 v1_9 h9 ha H locs hP hD hS ls hl hR
      rw [lp_X3_read_9] at hR
      refine lv_iload_n hx hb dX3_read_9 rfl (lv_at hl 0 rfl) ?_
      refine lv_aload_n hx hb dX3_read_10 rfl (lv_at hl 2 rfl) ?_
      refine va_get (D := D) (ci := 3) (v := .int (nI pd_length)) (C := RX3) (T := TX3) (N := 6) hx hb hts in_X3_read_X3 hown hK.1 hP 0 rfl rfl 1 (by decide) hq1 (fun _ h9 => h9) rfl dX3_read_11 ?_
      refine lv_icmp_ge (tgt := 105) hx hb dX3_read_14 (by decide) (fun h => absurd h (cle_f (a := pd_length) (b := i9) rfl rfl (by omega) (by omega))) (fun _ => ?_)
      refine lv_iload_n hx hb dX3_read_17 rfl (lv_at hl 0 rfl) ?_
      refine lv_bipush (v := (60 : Int32)) hx hb dX3_read_18 (by decide +kernel) ?_
      refine lv_icmp_ge (tgt := 105) hx hb dX3_read_20 (by decide) (fun h => absurd h (cle_f (a := 60) (b := i9) rfl rfl (by omega) (by omega))) (fun _ => ?_)
      refine lv_aload_n hx hb dX3_read_23 rfl (lv_at hl 2 rfl) ?_
      refine va_get (D := D) (ci := 3) (v := .ref pd_signs_a) (C := RX3) (T := TX3) (N := 6) hx hb hts in_X3_read_X3 hown hK.1 hP 0 rfl rfl 0 (by decide) hq2 (fun _ h9 => h9) rfl dX3_read_24 ?_
      refine lv_iload_n hx hb dX3_read_27 rfl (lv_at hl 0 rfl) ?_
      refine ia_ld hx hb hK hP 1 rfl (i := i9) (by omega) (by decide) dX3_read_28 ?_
      refine lv_istore_n (lv' := [(3, .int (pd_signs i9)), (2, .int (nI i9)), (1, .int v1_9), (0, .ref pd)]) hx hb dX3_read_29 rfl hl (by decide) rfl (fun ls hl => ?_)
      refine lv_iload_n hx hb dX3_read_30 rfl (lv_at hl 2 rfl) ?_
      refine lv_if_eq (tgt := 69) hx hb dX3_read_31 (by decide) (fun c31 => ?_) (fun c31 => ?_)
      · rw [if_pos c31] at hR
        refine lv_iload_n hx hb dX3_read_69 rfl (lv_at hl 0 rfl) ?_
        refine lv_bipush (v := (46 : Int32)) hx hb dX3_read_70 (by decide +kernel) ?_
        refine lv_icmp_ne (tgt := 85) hx hb dX3_read_72 (by decide) (fun c72 => ?_) (fun c72 => ?_)
        · rw [if_neg c72] at hR
          refine lv_iload_n hx hb dX3_read_85 rfl (lv_at hl 0 rfl) ?_
          refine ro_S (As := [.int (pd_signs i9)]) (rest := []) ⟨hx, hb, hml, hown, hts⟩ hK (c_X3_isHead l D cI cJ cZ (pd_signs i9)) va_P_nil (va_cwS 1 hts gX3_read_X3_isHead rfl rfl rfl hd_X3_isHead ⟨(Nat.le_of_ble_eq_true rfl), (Nat.le_of_ble_eq_true rfl)⟩) rfl hl.1 rfl (Nat.le_of_ble_eq_true rfl) dX3_read_86 (Nat.zero_le _) (Nat.zero_le _) ?_
          refine lv_if_eq (tgt := 97) hx hb dX3_read_89 (by decide) (fun c89 => ?_) (fun c89 => ?_)
          · rw [if_pos c89] at hR
            refine lv_iload_n hx hb dX3_read_97 rfl (lv_at hl 1 rfl) ?_
            obtain ⟨rfl, rfl, rfl, rfl, rfl⟩ := prodI5 hR
            exact rw_iret hx hb hr hlocks hP hS dX3_read_98
          · rw [if_neg c89] at hR
            refine lv_iload_n hx hb dX3_read_92 rfl (lv_at hl 0 rfl) ?_
            refine lv_istore_n (lv' := [(1, .int (pd_signs i9)), (3, .int (pd_signs i9)), (2, .int (nI i9)), (0, .ref pd)]) hx hb dX3_read_93 rfl hl (by decide) rfl (fun ls hl => ?_)
            refine lv_goto (tgt := 99) hx hb dX3_read_94 (by decide) ?_
            refine lv_iinc (v := (nI (i9 + 1))) (lv' := [(2, .int (nI (i9 + 1))), (1, .int (pd_signs i9)), (3, .int (pd_signs i9)), (0, .ref pd)]) hx hb dX3_read_99 hl (k := 2) rfl (by exact nI_add i9 1) (by decide) rfl (fun ls hl => ?_)
            refine lv_goto (tgt := 9) hx hb dX3_read_102 (by decide) ?_
            exact ih9 _ _ _ _ _ _ (by omega) (by first | assumption | exact addAct_nn _ _ _ _ _ _ _ ha) _ _ hP hD hS _ (lv_sub hl [0, 1, 3] rfl) hR
        · rw [if_pos c72] at hR
          refine lv_aload_n hx hb dX3_read_75 rfl (lv_at hl 3 rfl) ?_
          refine lv_iconst (v := (5 : Int32)) hx hb dX3_read_76 (by decide) ?_
          refine lv_iconst (v := (0 : Int32)) hx hb dX3_read_77 (by decide) ?_
          refine lv_iconst (v := (0 : Int32)) hx hb dX3_read_78 (by decide) ?_
          refine rw_V (As := [.int (5 : Int32), .int (0 : Int32), .int (0 : Int32)]) (rest := []) (wr := [(pd_signs_a, .inl (cI, 60, .inl pd_signs))]) (ws2 := [(pd, .inr (3, [.ref pd_signs_a, .int (nI pd_length), .ref pd_kinds_a, .ref pd_parishes_a, .ref pd_numbers_a, .int ((f_X3_addAct u0_5_9 r2_9 r3_9 r4_9 (5 : Int32) (0 : Int32) (0 : Int32)).1)])), (pd_signs_a, .inl (cI, 60, .inl pd_signs)), (pd_kinds_a, .inl (cI, 60, .inl ((f_X3_addAct u0_5_9 r2_9 r3_9 r4_9 (5 : Int32) (0 : Int32) (0 : Int32)).2.1))), (pd_parishes_a, .inl (cI, 60, .inl ((f_X3_addAct u0_5_9 r2_9 r3_9 r4_9 (5 : Int32) (0 : Int32) (0 : Int32)).2.2.1))), (pd_numbers_a, .inl (cI, 60, .inl ((f_X3_addAct u0_5_9 r2_9 r3_9 r4_9 (5 : Int32) (0 : Int32) (0 : Int32)).2.2.2)))]) (st1 := []) ⟨hx, hb, hml, hown, hts⟩ hK hP hD hS (c_X3_addAct l D cI cJ cZ pd pd_signs_a (nI pd_length) pd_kinds_a pd_parishes_a pd_numbers_a u0_5_9 r2_9 r3_9 r4_9 (5 : Int32) (0 : Int32) (0 : Int32) (by first | assumption | omega)) 0 rfl rfl [0, 2, 3, 4] [1] [1, 0, 2, 3, 4] rfl rfl (by decide) (by decide) rfl rfl rfl (cwV 3 hts gX3_read_X3_addAct rfl rfl rfl ⟨rfl, hd_X3_addAct⟩ ⟨(Nat.le_of_ble_eq_true rfl), (Nat.le_of_ble_eq_true rfl)⟩) rfl hl.1 rfl (Nat.le_of_ble_eq_true rfl) dX3_read_79 (Nat.zero_le _) (Nat.zero_le _) (fun H locs hP hD hS => ?_)
          refine lv_goto (tgt := 99) hx hb dX3_read_82 (by decide) ?_
          refine lv_iinc (v := (nI (i9 + 1))) (lv' := [(2, .int (nI (i9 + 1))), (3, .int (pd_signs i9)), (1, .int v1_9), (0, .ref pd)]) hx hb dX3_read_99 hl (k := 1) rfl (by exact nI_add i9 1) (by decide) rfl (fun ls hl => ?_)
          refine lv_goto (tgt := 9) hx hb dX3_read_102 (by decide) ?_
          exact ih9 _ _ _ _ _ _ (by omega) (by first | assumption | exact addAct_nn _ _ _ _ _ _ _ ha) _ _ hP hD hS _ (lv_sub hl [0, 2, 3] rfl) hR
      · rw [if_neg c31] at hR
        refine lv_iload_n hx hb dX3_read_34 rfl (lv_at hl 2 rfl) ?_
        refine lv_iload_n hx hb dX3_read_35 rfl (lv_at hl 0 rfl) ?_
        refine ro_S (As := [.int v1_9, .int (pd_signs i9)]) (rest := []) ⟨hx, hb, hml, hown, hts⟩ hK (c_X3_kindOf l D cI cJ cZ v1_9 (pd_signs i9)) va_P_nil (va_cwS 2 hts gX3_read_X3_kindOf rfl rfl rfl hd_X3_kindOf ⟨(Nat.le_of_ble_eq_true rfl), (Nat.le_of_ble_eq_true rfl)⟩) rfl hl.1 rfl (Nat.le_of_ble_eq_true rfl) dX3_read_36 (Nat.zero_le _) (Nat.zero_le _) ?_
        refine lv_istore (lv' := [(4, .int (f_X3_kindOf v1_9 (pd_signs i9))), (3, .int (pd_signs i9)), (2, .int (nI i9)), (1, .int v1_9), (0, .ref pd)]) hx hb dX3_read_39 hl (by decide) rfl (fun ls hl => ?_)
        refine lv_iload hx hb dX3_read_41 (lv_at hl 0 rfl) ?_
        refine lv_bipush (v := (-6 : Int32)) hx hb dX3_read_43 (by decide +kernel) ?_
        refine lv_icmp_ne (tgt := 50) hx hb dX3_read_45 (by decide) (fun c45 => ?_) (fun c45 => ?_)
        · rw [if_neg c45] at hR
          refine lv_aload_n hx hb dX3_read_50 rfl (lv_at hl 4 rfl) ?_
          refine lv_iload hx hb dX3_read_51 (lv_at hl 0 rfl) ?_
          refine lv_iload_n hx hb dX3_read_53 rfl (lv_at hl 3 rfl) ?_
          refine lv_bipush (v := (65 : Int32)) hx hb dX3_read_54 (by decide +kernel) ?_
          refine lv_isub hx hb dX3_read_56 ?_
          refine lv_iload_n hx hb dX3_read_57 rfl (lv_at hl 1 rfl) ?_
          refine lv_bipush (v := (48 : Int32)) hx hb dX3_read_58 (by decide +kernel) ?_
          refine lv_isub hx hb dX3_read_60 ?_
          refine rw_V (As := [.int (f_X3_kindOf v1_9 (pd_signs i9)), .int (v1_9 - (65 : Int32)), .int ((pd_signs i9) - (48 : Int32))]) (rest := []) (wr := [(pd_signs_a, .inl (cI, 60, .inl pd_signs))]) (ws2 := [(pd, .inr (3, [.ref pd_signs_a, .int (nI pd_length), .ref pd_kinds_a, .ref pd_parishes_a, .ref pd_numbers_a, .int ((f_X3_addAct u0_5_9 r2_9 r3_9 r4_9 (f_X3_kindOf v1_9 (pd_signs i9)) (v1_9 - (65 : Int32)) ((pd_signs i9) - (48 : Int32))).1)])), (pd_signs_a, .inl (cI, 60, .inl pd_signs)), (pd_kinds_a, .inl (cI, 60, .inl ((f_X3_addAct u0_5_9 r2_9 r3_9 r4_9 (f_X3_kindOf v1_9 (pd_signs i9)) (v1_9 - (65 : Int32)) ((pd_signs i9) - (48 : Int32))).2.1))), (pd_parishes_a, .inl (cI, 60, .inl ((f_X3_addAct u0_5_9 r2_9 r3_9 r4_9 (f_X3_kindOf v1_9 (pd_signs i9)) (v1_9 - (65 : Int32)) ((pd_signs i9) - (48 : Int32))).2.2.1))), (pd_numbers_a, .inl (cI, 60, .inl ((f_X3_addAct u0_5_9 r2_9 r3_9 r4_9 (f_X3_kindOf v1_9 (pd_signs i9)) (v1_9 - (65 : Int32)) ((pd_signs i9) - (48 : Int32))).2.2.2)))]) (st1 := []) ⟨hx, hb, hml, hown, hts⟩ hK hP hD hS (c_X3_addAct l D cI cJ cZ pd pd_signs_a (nI pd_length) pd_kinds_a pd_parishes_a pd_numbers_a u0_5_9 r2_9 r3_9 r4_9 (f_X3_kindOf v1_9 (pd_signs i9)) (v1_9 - (65 : Int32)) ((pd_signs i9) - (48 : Int32)) (by first | assumption | omega)) 0 rfl rfl [0, 2, 3, 4] [1] [1, 0, 2, 3, 4] rfl rfl (by decide) (by decide) rfl rfl rfl (cwV 3 hts gX3_read_X3_addAct rfl rfl rfl ⟨rfl, hd_X3_addAct⟩ ⟨(Nat.le_of_ble_eq_true rfl), (Nat.le_of_ble_eq_true rfl)⟩) rfl hl.1 rfl (Nat.le_of_ble_eq_true rfl) dX3_read_61 (Nat.zero_le _) (Nat.zero_le _) (fun H locs hP hD hS => ?_)
          refine lv_iconst (v := (0 : Int32)) hx hb dX3_read_64 (by decide) ?_
          refine lv_istore_n (lv' := [(1, .int (0 : Int32)), (4, .int (f_X3_kindOf v1_9 (pd_signs i9))), (3, .int (pd_signs i9)), (2, .int (nI i9)), (0, .ref pd)]) hx hb dX3_read_65 rfl hl (by decide) rfl (fun ls hl => ?_)
          refine lv_goto (tgt := 99) hx hb dX3_read_66 (by decide) ?_
          refine lv_iinc (v := (nI (i9 + 1))) (lv' := [(2, .int (nI (i9 + 1))), (1, .int (0 : Int32)), (4, .int (f_X3_kindOf v1_9 (pd_signs i9))), (3, .int (pd_signs i9)), (0, .ref pd)]) hx hb dX3_read_99 hl (k := 3) rfl (by exact nI_add i9 1) (by decide) rfl (fun ls hl => ?_)
          refine lv_goto (tgt := 9) hx hb dX3_read_102 (by decide) ?_
          exact ih9 _ _ _ _ _ _ (by omega) (by first | assumption | exact addAct_nn _ _ _ _ _ _ _ ha) _ _ hP hD hS _ (lv_sub hl [0, 1, 4] rfl) hR
        · rw [if_pos c45] at hR
          refine lv_iload_n hx hb dX3_read_48 rfl (lv_at hl 2 rfl) ?_
          obtain ⟨rfl, rfl, rfl, rfl, rfl⟩ := prodI5 hR
          exact rw_iret hx hb hr hlocks hP hS dX3_read_49
  exact hloop9 pd_length 0 _ _ _ _ _ (by omega) (by decide) _ _ hP hD hS _ hl hR


theorem lp_read_le (pl : Nat) (sg : Nat → Int32) : ∀ (k i : Nat) (a : Int32) (x y z : Nat → Int32) (h : Int32), ¬ a < 0 → a ≤ nI 60 → ∃ t, lp_X3_read_9 pl sg k i a x y z h = t ∧ ¬ t.2.1 < 0 ∧ t.2.1 ≤ nI 60 := by
  intro k
  induction k with
  | zero =>
    intro i a x y z h h0 h1
    rw [lp_X3_read_9]
    split <;> exact ⟨_, rfl, h0, h1⟩
  | succ k ih =>
    intro i a x y z h h0 h1
    rw [lp_X3_read_9]
    repeat' split
    all_goals first
      | exact ⟨_, rfl, h0, h1⟩
      | exact ih _ _ _ _ _ _ h0 h1
      | exact ih _ _ _ _ _ _ (addAct_nn _ _ _ _ _ _ _ h0) (addAct_le _ _ _ _ _ _ _ h0 h1)
theorem read_acts_le (pl : Nat) (sg a b c : Nat → Int32) : (f_X3_read pl sg a b c).2.1 ≤ nI 60 := by
  obtain ⟨t, e, -, h⟩ := lp_read_le pl sg pl 0 0 a b c 0 (by decide) (by decide)
  unfold f_X3_read
  rw [e]
  exact h
theorem read_acts_nn (pl : Nat) (sg a b c : Nat → Int32) : ¬ (f_X3_read pl sg a b c).2.1 < 0 := by
  obtain ⟨t, e, h, -⟩ := lp_read_le pl sg pl 0 0 a b c 0 (by decide) (by decide)
  unfold f_X3_read
  rw [e]
  exact h
