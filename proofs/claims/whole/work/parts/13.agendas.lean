theorem in_X0_beats_X7 : ∀ w ∈ u_ws RX7 TX7 12, w ∈ wsX0_beats := by decide +kernel
theorem hd_J6_compare_7cf53 : yJ6_compare_7cf53.cls ≠ "java/lang/invoke/MethodHandle" ∧ yJ6_compare_7cf53.cls ≠ "java/lang/invoke/VarHandle" ∧ (parseMethodDescriptor yJ6_compare_7cf53.desc).map (fun d => d.parameters.length) = some 2 := by decide +kernel
def lp_X0_beats_5 (w_there : Int32) (w_points : Nat → Int32) (xa : Int32) (xb : Int32) : Nat → Nat → Int32 → Int32
  | 0, _, v3_5 => v3_5
  | k5 + 1, i5, v3_5 => (if ((f_X7_isThere w_there (nI i5)) = 0) then (lp_X0_beats_5 w_there w_points xa xb k5 (i5 + 1) v3_5) else (lp_X0_beats_5 w_there w_points xa xb k5 (i5 + 1) (v3_5 + (f_J6_compare_7cf53 (f_X8_apart (w_points i5) xb) (f_X8_apart (w_points i5) xa)))))
def f_X0_beats (w_there : Int32) (w_points : Nat → Int32) (xa : Int32) (xb : Int32) : Int32 :=
  (if (0 < (lp_X0_beats_5 w_there w_points xa xb 7 0 (0 : Int32))) then (1 : Int32) else (if ((lp_X0_beats_5 w_there w_points xa xb 7 0 (0 : Int32)) = 0) then (if (xb ≤ xa) then (0 : Int32) else (1 : Int32)) else (0 : Int32)))
set_option maxHeartbeats 4000000 in
set_option maxRecDepth 100000 in
theorem c_X0_beats (l : Launch) (D : va_G) (cI cJ cZ : ClassId) (w : Nat) (w_points_a : Nat) (w_tired_a : Nat) (w_near_a : Nat) (w_there : Int32) (w_free : Int32) (w_held : Int32) (w_wind : Int32) (w_oil : Int32) (w_hour : Int32) (w_sights : Int32) (w_agreedTo : Int32) (w_refused : Int32) (w_points : Nat → Int32) (xa : Int32) (xb : Int32) : RO l yX0_beats wsX0_beats ({ frames := 2, cells := 0, slots := 0, locals := 43 }) [.ref w, .int xa, .int xb] D cI cJ cZ [(w, .inr (7, [.ref w_points_a, .ref w_tired_a, .ref w_near_a, .int w_there, .int w_free, .int w_held, .int w_wind, .int w_oil, .int w_hour, .int w_sights, .int w_agreedTo, .int w_refused])), (w_points_a, .inl (cI, 7, .inl w_points))] (.int (f_X0_beats w_there w_points xa xb)) := by
  obtain ⟨R, hR⟩ : ∃ R, (f_X0_beats w_there w_points xa xb) = R := ⟨_, rfl⟩
  rw [hR]
  refine ro_start (cc := cX0_beats) (maxL := 6) (ret := (some .boolean)) (by decide) rfl (Nat.le_of_ble_eq_true rfl) ?_
  intro p e s m args below meth c hx hb hr hml hown hts hlocks hP hK ls hl
  have hown : s.vm.findClass RX0 = some m.cls := hown
  have hl : lv_has ls 6 [(0, .ref w), (1, .int xa), (2, .int xb)] := hl
  have hq0 := hts (.initialized RX8) (by decide +kernel)
  have hq1 := hts (.static yX8_apart) (by decide +kernel)
  rw [f_X0_beats] at hR
  refine lv_iconst (v := (0 : Int32)) hx hb dX0_beats_0 (by decide) ?_
  refine lv_istore_n (lv' := [(3, .int (0 : Int32)), (0, .ref w), (1, .int xa), (2, .int xb)]) hx hb dX0_beats_1 rfl hl (by decide) rfl (fun ls hl => ?_)
  refine lv_iconst (v := (0 : Int32)) hx hb dX0_beats_2 (by decide) ?_
  refine lv_istore (lv' := [(4, .int (0 : Int32)), (3, .int (0 : Int32)), (0, .ref w), (1, .int xa), (2, .int xb)]) hx hb dX0_beats_3 hl (by decide) rfl (fun ls hl => ?_)
  obtain ⟨F5_1, hF5_1⟩ : ∃ x, (lp_X0_beats_5 w_there w_points xa xb 7 0 (0 : Int32)) = x := ⟨_, rfl⟩
  try rw [hF5_1] at hR
  have hexit5 : ∀ (ls : Array Slot), lv_has ls 6 [(3, .int F5_1), (0, .ref w), (1, .int xa), (2, .int xb)] → W p l e ({ frames := 2, cells := 0, slots := 0, locals := 43 }) s m args below meth c s.heap [] 0 0 (MQ below (ro_Q (.int R)) args s 0 0 (fun _ => False)) (F0 m 54 ls []) := by
    intro ls hl
    refine lv_iload_n hx hb dX0_beats_54 rfl (lv_at hl 0 rfl) ?_
    refine lv_if_gt (tgt := 67) hx hb dX0_beats_55 (by decide) (fun c55 => ?_) (fun c55 => ?_)
    · rw [if_pos c55] at hR
      refine lv_iconst (v := (1 : Int32)) hx hb dX0_beats_67 (by decide) ?_
      refine lv_goto (tgt := 72) hx hb dX0_beats_68 (by decide) ?_
      subst hR
      exact ro_zret hx hb hr hlocks (Or.inr rfl) dX0_beats_72
    · rw [if_neg c55] at hR
      refine lv_iload_n hx hb dX0_beats_58 rfl (lv_at hl 0 rfl) ?_
      refine lv_if_ne (tgt := 71) hx hb dX0_beats_59 (by decide) (fun c59 => ?_) (fun c59 => ?_)
      · rw [if_neg c59] at hR
        refine lv_iconst (v := (0 : Int32)) hx hb dX0_beats_71 (by decide) ?_
        subst hR
        exact ro_zret hx hb hr hlocks (Or.inl rfl) dX0_beats_72
      · rw [if_pos c59] at hR
        refine lv_iload_n hx hb dX0_beats_62 rfl (lv_at hl 2 rfl) ?_
        refine lv_iload_n hx hb dX0_beats_63 rfl (lv_at hl 3 rfl) ?_
        refine lv_icmp_ge (tgt := 71) hx hb dX0_beats_64 (by decide) (fun c64 => ?_) (fun c64 => ?_)
        · rw [if_pos c64] at hR
          refine lv_iconst (v := (0 : Int32)) hx hb dX0_beats_71 (by decide) ?_
          subst hR
          exact ro_zret hx hb hr hlocks (Or.inl rfl) dX0_beats_72
        · rw [if_neg c64] at hR
          refine lv_iconst (v := (1 : Int32)) hx hb dX0_beats_67 (by decide) ?_
          refine lv_goto (tgt := 72) hx hb dX0_beats_68 (by decide) ?_
          subst hR
          exact ro_zret hx hb hr hlocks (Or.inr rfl) dX0_beats_72
  have hloop5 : ∀ (k5 i5 : Nat) (v3_5 : Int32), i5 + k5 = 7 → ∀ (ls : Array Slot), lv_has ls 6 [(4, .int (nI i5)), (3, .int v3_5), (0, .ref w), (1, .int xa), (2, .int xb)] → lp_X0_beats_5 w_there w_points xa xb k5 i5 v3_5 = F5_1 → W p l e ({ frames := 2, cells := 0, slots := 0, locals := 43 }) s m args below meth c s.heap [] 0 0 (MQ below (ro_Q (.int R)) args s 0 0 (fun _ => False)) (F0 m 5 ls []) := by
    intro k5
    induction k5 with
    | zero =>
      intro i5 v3_5 h5  ls hl hR
      obtain rfl : 7 = i5 := by omega
      rw [lp_X0_beats_5] at hR
      refine lv_iload hx hb dX0_beats_5 (lv_at hl 0 rfl) ?_
      refine lv_bipush (v := (7 : Int32)) hx hb dX0_beats_7 (by decide +kernel) ?_
      refine lv_icmp_ge (tgt := 54) hx hb dX0_beats_9 (by decide) (fun _ => ?_) (fun h => absurd (cle_t (a := 7) (b := 7) rfl rfl (by omega) (by omega)) h)
      subst hR
      exact hexit5 _ (lv_sub hl [1, 2, 3, 4] rfl)
    | succ k5 ih5 =>
      intro i5 v3_5 h5  ls hl hR
      rw [lp_X0_beats_5] at hR
      refine lv_iload hx hb dX0_beats_5 (lv_at hl 0 rfl) ?_
      refine lv_bipush (v := (7 : Int32)) hx hb dX0_beats_7 (by decide +kernel) ?_
      refine lv_icmp_ge (tgt := 54) hx hb dX0_beats_9 (by decide) (fun h => absurd h (cle_f (a := 7) (b := i5) rfl rfl (by omega) (by omega))) (fun _ => ?_)
      refine lv_aload_n hx hb dX0_beats_12 rfl (lv_at hl 2 rfl) ?_
      refine lv_iload hx hb dX0_beats_13 (lv_at hl 0 rfl) ?_
      refine ro_V (As := [.int (nI i5)]) (rest := []) ⟨hx, hb, hml, hown, hts⟩ hK (c_X7_isThere l D cI cJ cZ w w_points_a w_tired_a w_near_a w_there w_free w_held w_wind w_oil w_hour w_sights w_agreedTo w_refused (nI i5)) hP 0 rfl rfl (rw_sub hP [0] rfl) (cwV 1 hts gX0_beats_X7_isThere rfl rfl rfl ⟨rfl, hd_X7_isThere⟩ ⟨(Nat.le_of_ble_eq_true rfl), (Nat.le_of_ble_eq_true rfl)⟩) rfl hl.1 rfl (Nat.le_of_ble_eq_true rfl) dX0_beats_15 (Nat.zero_le _) (Nat.zero_le _) ?_
      refine lv_if_eq (tgt := 48) hx hb dX0_beats_18 (by decide) (fun c18 => ?_) (fun c18 => ?_)
      · rw [if_pos c18] at hR
        refine lv_iinc (v := (nI (i5 + 1))) (lv' := [(4, .int (nI (i5 + 1))), (3, .int v3_5), (0, .ref w), (1, .int xa), (2, .int xb)]) hx hb dX0_beats_48 hl (k := 0) rfl (by exact nI_add i5 1) (by decide) rfl (fun ls hl => ?_)
        refine lv_goto (tgt := 5) hx hb dX0_beats_51 (by decide) ?_
        exact ih5 _ _ (by omega) _ (lv_sub hl [0, 1, 2, 3, 4] rfl) hR
      · rw [if_neg c18] at hR
        refine lv_aload_n hx hb dX0_beats_21 rfl (lv_at hl 2 rfl) ?_
        refine va_getN (D := D) (ci := 7) (v := .ref w_points_a) (C := RX7) (T := TX7) (N := 12) hx hb hts in_X0_beats_X7 hown hK.1 hP 0 rfl rfl 0 (by decide) (va_Nw.use rfl (hK.2 _ gN_1)) (fun _ h9 => h9) rfl dX0_beats_22 ?_
        refine lv_iload hx hb dX0_beats_25 (lv_at hl 0 rfl) ?_
        refine ia_ld hx hb hK hP 1 rfl (i := i5) (by omega) (by decide) dX0_beats_27 ?_
        refine lv_istore (lv' := [(5, .int (w_points i5)), (4, .int (nI i5)), (3, .int v3_5), (0, .ref w), (1, .int xa), (2, .int xb)]) hx hb dX0_beats_28 hl (by decide) rfl (fun ls hl => ?_)
        refine lv_iload_n hx hb dX0_beats_30 rfl (lv_at hl 2 rfl) ?_
        refine lv_iload hx hb dX0_beats_31 (lv_at hl 0 rfl) ?_
        refine lv_iload_n hx hb dX0_beats_33 rfl (lv_at hl 5 rfl) ?_
        refine ro_SN (As := [.int (w_points i5), .int xb]) (rest := [.int v3_5]) ⟨hx, hb, hml, hown, hts⟩ hK (c_X8_apart l D cI cJ cZ (w_points i5) xb) va_P_nil (va_cnB 2 hts gX0_beats_X8_apart_n58 rfl rfl rfl (hK.2 _ gN_43) hq0 hd_X8_apart ⟨(Nat.le_of_ble_eq_true rfl), (Nat.le_of_ble_eq_true rfl)⟩) hq1 rfl hl.1 rfl (Nat.le_of_ble_eq_true rfl) dX0_beats_34 (Nat.zero_le _) (Nat.zero_le _) ?_
        refine lv_iload hx hb dX0_beats_37 (lv_at hl 0 rfl) ?_
        refine lv_iload_n hx hb dX0_beats_39 rfl (lv_at hl 4 rfl) ?_
        refine ro_SN (As := [.int (w_points i5), .int xa]) (rest := [.int (f_X8_apart (w_points i5) xb), .int v3_5]) ⟨hx, hb, hml, hown, hts⟩ hK (c_X8_apart l D cI cJ cZ (w_points i5) xa) va_P_nil (va_cnB 2 hts gX0_beats_X8_apart_n58 rfl rfl rfl (hK.2 _ gN_43) hq0 hd_X8_apart ⟨(Nat.le_of_ble_eq_true rfl), (Nat.le_of_ble_eq_true rfl)⟩) hq1 rfl hl.1 rfl (Nat.le_of_ble_eq_true rfl) dX0_beats_40 (Nat.zero_le _) (Nat.zero_le _) ?_
        refine ro_S (As := [.int (f_X8_apart (w_points i5) xb), .int (f_X8_apart (w_points i5) xa)]) (rest := [.int v3_5]) ⟨hx, hb, hml, hown, hts⟩ hK (c_J6_compare_7cf53 l D cI cJ cZ (f_X8_apart (w_points i5) xb) (f_X8_apart (w_points i5) xa)) va_P_nil (va_cwS 2 hts gX0_beats_J6_compare_7cf53 rfl rfl rfl hd_J6_compare_7cf53 ⟨(Nat.le_of_ble_eq_true rfl), (Nat.le_of_ble_eq_true rfl)⟩) rfl hl.1 rfl (Nat.le_of_ble_eq_true rfl) dX0_beats_43 (Nat.zero_le _) (Nat.zero_le _) ?_
        refine lv_iadd hx hb dX0_beats_46 ?_
        refine lv_istore_n (lv' := [(3, .int (v3_5 + (f_J6_compare_7cf53 (f_X8_apart (w_points i5) xb) (f_X8_apart (w_points i5) xa)))), (5, .int (w_points i5)), (4, .int (nI i5)), (0, .ref w), (1, .int xa), (2, .int xb)]) hx hb dX0_beats_47 rfl hl (by decide) rfl (fun ls hl => ?_)
        refine lv_iinc (v := (nI (i5 + 1))) (lv' := [(4, .int (nI (i5 + 1))), (3, .int (v3_5 + (f_J6_compare_7cf53 (f_X8_apart (w_points i5) xb) (f_X8_apart (w_points i5) xa)))), (5, .int (w_points i5)), (0, .ref w), (1, .int xa), (2, .int xb)]) hx hb dX0_beats_48 hl (k := 2) rfl (by exact nI_add i5 1) (by decide) rfl (fun ls hl => ?_)
        refine lv_goto (tgt := 5) hx hb dX0_beats_51 (by decide) ?_
        exact ih5 _ _ (by omega) _ (lv_sub hl [0, 1, 3, 4, 5] rfl) hR
  exact hloop5 7 0 _ (by omega) _ hl hF5_1

theorem z_X0_beats (w_there : Int32) (w_points : Nat → Int32) (xa : Int32) (xb : Int32) : (f_X0_beats w_there w_points xa xb) = 0 ∨ (f_X0_beats w_there w_points xa xb) = 1 := by
  unfold f_X0_beats
  (repeat' split) <;> first | exact Or.inl rfl | exact Or.inr rfl | exact z_X7_isThere ..


theorem hd_X0_beats : yX0_beats.cls ≠ "java/lang/invoke/MethodHandle" ∧ yX0_beats.cls ≠ "java/lang/invoke/VarHandle" ∧ (parseMethodDescriptor yX0_beats.desc).map (fun d => d.parameters.length) = some 3 := by decide +kernel
def lp_X0_beatenBy_4 (w_there : Int32) (w_points : Nat → Int32) (xt : Int32) : Nat → Nat → Int32 → Int32
  | 0, _, v2_4 => v2_4
  | k4 + 1, i4, v2_4 => (if ((nI i4) = xt) then (lp_X0_beatenBy_4 w_there w_points xt k4 (i4 + 1) (f_X8_withBit v2_4 (nI i4) (0 : Int32))) else (if ((f_X0_beats w_there w_points xt (nI i4)) = 0) then (lp_X0_beatenBy_4 w_there w_points xt k4 (i4 + 1) (f_X8_withBit v2_4 (nI i4) (0 : Int32))) else (lp_X0_beatenBy_4 w_there w_points xt k4 (i4 + 1) (f_X8_withBit v2_4 (nI i4) (1 : Int32)))))
def f_X0_beatenBy (w_there : Int32) (w_points : Nat → Int32) (xt : Int32) : Int32 :=
  (lp_X0_beatenBy_4 w_there w_points xt 8 0 (0 : Int32))
set_option maxHeartbeats 4000000 in
set_option maxRecDepth 100000 in
theorem c_X0_beatenBy (l : Launch) (D : va_G) (cI cJ cZ : ClassId) (w : Nat) (w_points_a : Nat) (w_tired_a : Nat) (w_near_a : Nat) (w_there : Int32) (w_free : Int32) (w_held : Int32) (w_wind : Int32) (w_oil : Int32) (w_hour : Int32) (w_sights : Int32) (w_agreedTo : Int32) (w_refused : Int32) (w_points : Nat → Int32) (xt : Int32) : RO l yX0_beatenBy wsX0_beatenBy ({ frames := 3, cells := 0, slots := 0, locals := 68 }) [.ref w, .int xt] D cI cJ cZ [(w, .inr (7, [.ref w_points_a, .ref w_tired_a, .ref w_near_a, .int w_there, .int w_free, .int w_held, .int w_wind, .int w_oil, .int w_hour, .int w_sights, .int w_agreedTo, .int w_refused])), (w_points_a, .inl (cI, 7, .inl w_points))] (.int (f_X0_beatenBy w_there w_points xt)) := by
  obtain ⟨R, hR⟩ : ∃ R, (f_X0_beatenBy w_there w_points xt) = R := ⟨_, rfl⟩
  rw [hR]
  refine ro_start (cc := cX0_beatenBy) (maxL := 4) (ret := (some .int)) (by decide) rfl (Nat.le_of_ble_eq_true rfl) ?_
  intro p e s m args below meth c hx hb hr hml hown hts hlocks hP hK ls hl
  have hown : s.vm.findClass RX0 = some m.cls := hown
  have hl : lv_has ls 4 [(0, .ref w), (1, .int xt)] := hl
  have hq0 := hts (.initialized RX8) (by decide +kernel)
  have hq1 := hts (.static yX8_withBit) (by decide +kernel)
  rw [f_X0_beatenBy] at hR
  refine lv_iconst (v := (0 : Int32)) hx hb dX0_beatenBy_0 (by decide) ?_
  refine lv_istore_n (lv' := [(2, .int (0 : Int32)), (0, .ref w), (1, .int xt)]) hx hb dX0_beatenBy_1 rfl hl (by decide) rfl (fun ls hl => ?_)
  refine lv_iconst (v := (0 : Int32)) hx hb dX0_beatenBy_2 (by decide) ?_
  refine lv_istore_n (lv' := [(3, .int (0 : Int32)), (2, .int (0 : Int32)), (0, .ref w), (1, .int xt)]) hx hb dX0_beatenBy_3 rfl hl (by decide) rfl (fun ls hl => ?_)
  obtain ⟨F4_1, hF4_1⟩ : ∃ x, (lp_X0_beatenBy_4 w_there w_points xt 8 0 (0 : Int32)) = x := ⟨_, rfl⟩
  try rw [hF4_1] at hR
  have hexit4 : ∀ (ls : Array Slot), lv_has ls 4 [(2, .int F4_1), (0, .ref w), (1, .int xt)] → W p l e ({ frames := 3, cells := 0, slots := 0, locals := 68 }) s m args below meth c s.heap [] 0 0 (MQ below (ro_Q (.int R)) args s 0 0 (fun _ => False)) (F0 m 41 ls []) := by
    intro ls hl
    refine lv_iload_n hx hb dX0_beatenBy_41 rfl (lv_at hl 0 rfl) ?_
    subst hR
    exact ro_iret hx hb hr hlocks dX0_beatenBy_42
  have hloop4 : ∀ (k4 i4 : Nat) (v2_4 : Int32), i4 + k4 = 8 → ∀ (ls : Array Slot), lv_has ls 4 [(3, .int (nI i4)), (2, .int v2_4), (0, .ref w), (1, .int xt)] → lp_X0_beatenBy_4 w_there w_points xt k4 i4 v2_4 = F4_1 → W p l e ({ frames := 3, cells := 0, slots := 0, locals := 68 }) s m args below meth c s.heap [] 0 0 (MQ below (ro_Q (.int R)) args s 0 0 (fun _ => False)) (F0 m 4 ls []) := by
    intro k4
    induction k4 with
    | zero =>
      intro i4 v2_4 h4  ls hl hR
      obtain rfl : 8 = i4 := by omega
      rw [lp_X0_beatenBy_4] at hR
      refine lv_iload_n hx hb dX0_beatenBy_4 rfl (lv_at hl 0 rfl) ?_
      refine lv_bipush (v := (8 : Int32)) hx hb dX0_beatenBy_5 (by decide +kernel) ?_
      refine lv_icmp_ge (tgt := 41) hx hb dX0_beatenBy_7 (by decide) (fun _ => ?_) (fun h => absurd (cle_t (a := 8) (b := 8) rfl rfl (by omega) (by omega)) h)
      subst hR
      exact hexit4 _ (lv_sub hl [1, 2, 3] rfl)
    | succ k4 ih4 =>
      intro i4 v2_4 h4  ls hl hR
      rw [lp_X0_beatenBy_4] at hR
      refine lv_iload_n hx hb dX0_beatenBy_4 rfl (lv_at hl 0 rfl) ?_
      refine lv_bipush (v := (8 : Int32)) hx hb dX0_beatenBy_5 (by decide +kernel) ?_
      refine lv_icmp_ge (tgt := 41) hx hb dX0_beatenBy_7 (by decide) (fun h => absurd h (cle_f (a := 8) (b := i4) rfl rfl (by omega) (by omega))) (fun _ => ?_)
      refine lv_iload_n hx hb dX0_beatenBy_10 rfl (lv_at hl 1 rfl) ?_
      refine lv_iload_n hx hb dX0_beatenBy_11 rfl (lv_at hl 0 rfl) ?_
      refine lv_iload_n hx hb dX0_beatenBy_12 rfl (lv_at hl 0 rfl) ?_
      refine lv_iload_n hx hb dX0_beatenBy_13 rfl (lv_at hl 3 rfl) ?_
      refine lv_icmp_eq (tgt := 30) hx hb dX0_beatenBy_14 (by decide) (fun c14 => ?_) (fun c14 => ?_)
      · rw [if_pos c14] at hR
        refine lv_iconst (v := (0 : Int32)) hx hb dX0_beatenBy_30 (by decide) ?_
        refine ro_SN (As := [.int v2_4, .int (nI i4), .int (0 : Int32)]) (rest := []) ⟨hx, hb, hml, hown, hts⟩ hK (c_X8_withBit l D cI cJ cZ v2_4 (nI i4) (0 : Int32)) va_P_nil (va_cnB 3 hts gX0_beatenBy_X8_withBit_n28 rfl rfl rfl (hK.2 _ gN_42) hq0 hd_X8_withBit ⟨(Nat.le_of_ble_eq_true rfl), (Nat.le_of_ble_eq_true rfl)⟩) hq1 rfl hl.1 rfl (Nat.le_of_ble_eq_true rfl) dX0_beatenBy_31 (Nat.zero_le _) (Nat.zero_le _) ?_
        refine lv_istore_n (lv' := [(2, .int (f_X8_withBit v2_4 (nI i4) (0 : Int32))), (3, .int (nI i4)), (0, .ref w), (1, .int xt)]) hx hb dX0_beatenBy_34 rfl hl (by decide) rfl (fun ls hl => ?_)
        refine lv_iinc (v := (nI (i4 + 1))) (lv' := [(3, .int (nI (i4 + 1))), (2, .int (f_X8_withBit v2_4 (nI i4) (0 : Int32))), (0, .ref w), (1, .int xt)]) hx hb dX0_beatenBy_35 hl (k := 1) rfl (by exact nI_add i4 1) (by decide) rfl (fun ls hl => ?_)
        refine lv_goto (tgt := 4) hx hb dX0_beatenBy_38 (by decide) ?_
        exact ih4 _ _ (by omega) _ (lv_sub hl [0, 1, 2, 3] rfl) hR
      · rw [if_neg c14] at hR
        refine lv_aload_n hx hb dX0_beatenBy_17 rfl (lv_at hl 2 rfl) ?_
        refine lv_iload_n hx hb dX0_beatenBy_18 rfl (lv_at hl 3 rfl) ?_
        refine lv_iload_n hx hb dX0_beatenBy_19 rfl (lv_at hl 0 rfl) ?_
        refine ro_S (As := [.ref w, .int xt, .int (nI i4)]) (rest := [.int (nI i4), .int v2_4]) ⟨hx, hb, hml, hown, hts⟩ hK (c_X0_beats l D cI cJ cZ w w_points_a w_tired_a w_near_a w_there w_free w_held w_wind w_oil w_hour w_sights w_agreedTo w_refused w_points xt (nI i4)) (rw_sub hP [0, 1] rfl) (va_cwS 3 hts gX0_beatenBy_X0_beats rfl rfl rfl hd_X0_beats ⟨(Nat.le_of_ble_eq_true rfl), (Nat.le_of_ble_eq_true rfl)⟩) rfl hl.1 rfl (Nat.le_of_ble_eq_true rfl) dX0_beatenBy_20 (Nat.zero_le _) (Nat.zero_le _) ?_
        refine lv_if_eq (tgt := 30) hx hb dX0_beatenBy_23 (by decide) (fun c23 => ?_) (fun c23 => ?_)
        · rw [if_pos c23] at hR
          refine lv_iconst (v := (0 : Int32)) hx hb dX0_beatenBy_30 (by decide) ?_
          refine ro_SN (As := [.int v2_4, .int (nI i4), .int (0 : Int32)]) (rest := []) ⟨hx, hb, hml, hown, hts⟩ hK (c_X8_withBit l D cI cJ cZ v2_4 (nI i4) (0 : Int32)) va_P_nil (va_cnB 3 hts gX0_beatenBy_X8_withBit_n28 rfl rfl rfl (hK.2 _ gN_42) hq0 hd_X8_withBit ⟨(Nat.le_of_ble_eq_true rfl), (Nat.le_of_ble_eq_true rfl)⟩) hq1 rfl hl.1 rfl (Nat.le_of_ble_eq_true rfl) dX0_beatenBy_31 (Nat.zero_le _) (Nat.zero_le _) ?_
          refine lv_istore_n (lv' := [(2, .int (f_X8_withBit v2_4 (nI i4) (0 : Int32))), (3, .int (nI i4)), (0, .ref w), (1, .int xt)]) hx hb dX0_beatenBy_34 rfl hl (by decide) rfl (fun ls hl => ?_)
          refine lv_iinc (v := (nI (i4 + 1))) (lv' := [(3, .int (nI (i4 + 1))), (2, .int (f_X8_withBit v2_4 (nI i4) (0 : Int32))), (0, .ref w), (1, .int xt)]) hx hb dX0_beatenBy_35 hl (k := 1) rfl (by exact nI_add i4 1) (by decide) rfl (fun ls hl => ?_)
          refine lv_goto (tgt := 4) hx hb dX0_beatenBy_38 (by decide) ?_
          exact ih4 _ _ (by omega) _ (lv_sub hl [0, 1, 2, 3] rfl) hR
        · rw [if_neg c23] at hR
          refine lv_iconst (v := (1 : Int32)) hx hb dX0_beatenBy_26 (by decide) ?_
          refine lv_goto (tgt := 31) hx hb dX0_beatenBy_27 (by decide) ?_
          refine ro_SN (As := [.int v2_4, .int (nI i4), .int (1 : Int32)]) (rest := []) ⟨hx, hb, hml, hown, hts⟩ hK (c_X8_withBit l D cI cJ cZ v2_4 (nI i4) (1 : Int32)) va_P_nil (va_cnB 3 hts gX0_beatenBy_X8_withBit_n28 rfl rfl rfl (hK.2 _ gN_42) hq0 hd_X8_withBit ⟨(Nat.le_of_ble_eq_true rfl), (Nat.le_of_ble_eq_true rfl)⟩) hq1 rfl hl.1 rfl (Nat.le_of_ble_eq_true rfl) dX0_beatenBy_31 (Nat.zero_le _) (Nat.zero_le _) ?_
          refine lv_istore_n (lv' := [(2, .int (f_X8_withBit v2_4 (nI i4) (1 : Int32))), (3, .int (nI i4)), (0, .ref w), (1, .int xt)]) hx hb dX0_beatenBy_34 rfl hl (by decide) rfl (fun ls hl => ?_)
          refine lv_iinc (v := (nI (i4 + 1))) (lv' := [(3, .int (nI (i4 + 1))), (2, .int (f_X8_withBit v2_4 (nI i4) (1 : Int32))), (0, .ref w), (1, .int xt)]) hx hb dX0_beatenBy_35 hl (k := 1) rfl (by exact nI_add i4 1) (by decide) rfl (fun ls hl => ?_)
          refine lv_goto (tgt := 4) hx hb dX0_beatenBy_38 (by decide) ?_
          exact ih4 _ _ (by omega) _ (lv_sub hl [0, 1, 2, 3] rfl) hR
  exact hloop4 8 0 _ (by omega) _ hl hF4_1


theorem in_X0_leftOf_X0 : ∀ w ∈ u_ws RX0 TX0 2, w ∈ wsX0_leftOf := by decide +kernel
def lp_X0_leftOf_10 (ag_row : Nat → Int32) (w_there : Int32) (w_points : Nat → Int32) (xn : Int32) : Nat → Nat → Int32 → Int32
  | 0, _, v3_10 => v3_10
  | k10 + 1, i10, v3_10 => (if (xn ≤ (nI i10)) then v3_10 else (if ((f_X0_beats w_there w_points v3_10 (ag_row i10)) = 0) then (lp_X0_leftOf_10 ag_row w_there w_points xn k10 (i10 + 1) (ag_row i10)) else (lp_X0_leftOf_10 ag_row w_there w_points xn k10 (i10 + 1) v3_10)))
def f_X0_leftOf (ag_row : Nat → Int32) (w_there : Int32) (w_points : Nat → Int32) (xn : Int32) : Int32 :=
  (lp_X0_leftOf_10 ag_row w_there w_points xn 7 1 (ag_row 0))
set_option maxHeartbeats 4000000 in
set_option maxRecDepth 100000 in
theorem c_X0_leftOf (l : Launch) (D : va_G) (cI cJ cZ : ClassId) (ag : Nat) (ag_row_a : Nat) (ag_beaten_a : Nat) (ag_row : Nat → Int32) (w : Nat) (w_points_a : Nat) (w_tired_a : Nat) (w_near_a : Nat) (w_there : Int32) (w_free : Int32) (w_held : Int32) (w_wind : Int32) (w_oil : Int32) (w_hour : Int32) (w_sights : Int32) (w_agreedTo : Int32) (w_refused : Int32) (w_points : Nat → Int32) (xn : Int32) : RO l yX0_leftOf wsX0_leftOf ({ frames := 3, cells := 0, slots := 0, locals := 68 }) [.ref ag, .ref w, .int xn] D cI cJ cZ [(ag, .inr (0, [.ref ag_row_a, .ref ag_beaten_a])), (ag_row_a, .inl (cI, 8, .inl ag_row)), (w, .inr (7, [.ref w_points_a, .ref w_tired_a, .ref w_near_a, .int w_there, .int w_free, .int w_held, .int w_wind, .int w_oil, .int w_hour, .int w_sights, .int w_agreedTo, .int w_refused])), (w_points_a, .inl (cI, 7, .inl w_points))] (.int (f_X0_leftOf ag_row w_there w_points xn)) := by
  obtain ⟨R, hR⟩ : ∃ R, (f_X0_leftOf ag_row w_there w_points xn) = R := ⟨_, rfl⟩
  rw [hR]
  refine ro_start (cc := cX0_leftOf) (maxL := 5) (ret := (some .int)) (by decide) rfl (Nat.le_of_ble_eq_true rfl) ?_
  intro p e s m args below meth c hx hb hr hml hown hts hlocks hP hK ls hl
  have hown : s.vm.findClass RX0 = some m.cls := hown
  have hl : lv_has ls 5 [(0, .ref ag), (1, .ref w), (2, .int xn)] := hl
  have hq0 := hts (.fieldLink RX0 9 "StuckVanes$Agendas" "row" "[I") (by decide +kernel)
  rw [f_X0_leftOf] at hR
  refine lv_aload_n hx hb dX0_leftOf_0 rfl (lv_at hl 0 rfl) ?_
  refine va_get (D := D) (ci := 0) (v := .ref ag_row_a) (C := RX0) (T := TX0) (N := 2) hx hb hts in_X0_leftOf_X0 hown hK.1 hP 0 rfl rfl 0 (by decide) hq0 (fun _ h9 => h9) rfl dX0_leftOf_1 ?_
  refine lv_iconst (v := (0 : Int32)) hx hb dX0_leftOf_4 (by decide) ?_
  refine ia_ld hx hb hK hP 1 rfl (i := 0) (by omega) (by decide) dX0_leftOf_5 ?_
  refine lv_istore_n (lv' := [(3, .int (ag_row 0)), (0, .ref ag), (1, .ref w), (2, .int xn)]) hx hb dX0_leftOf_6 rfl hl (by decide) rfl (fun ls hl => ?_)
  refine lv_iconst (v := (1 : Int32)) hx hb dX0_leftOf_7 (by decide) ?_
  refine lv_istore (lv' := [(4, .int (1 : Int32)), (3, .int (ag_row 0)), (0, .ref ag), (1, .ref w), (2, .int xn)]) hx hb dX0_leftOf_8 hl (by decide) rfl (fun ls hl => ?_)
  obtain ⟨F10_1, hF10_1⟩ : ∃ x, (lp_X0_leftOf_10 ag_row w_there w_points xn 7 1 (ag_row 0)) = x := ⟨_, rfl⟩
  try rw [hF10_1] at hR
  have hexit10 : ∀ (ls : Array Slot), lv_has ls 5 [(3, .int F10_1), (0, .ref ag), (1, .ref w), (2, .int xn)] → W p l e ({ frames := 3, cells := 0, slots := 0, locals := 68 }) s m args below meth c s.heap [] 0 0 (MQ below (ro_Q (.int R)) args s 0 0 (fun _ => False)) (F0 m 52 ls []) := by
    intro ls hl
    refine lv_iload_n hx hb dX0_leftOf_52 rfl (lv_at hl 0 rfl) ?_
    subst hR
    exact ro_iret hx hb hr hlocks dX0_leftOf_53
  have hloop10 : ∀ (k10 i10 : Nat) (v3_10 : Int32), i10 + k10 = 8 → 1 ≤ i10 → ∀ (ls : Array Slot), lv_has ls 5 [(4, .int (nI i10)), (3, .int v3_10), (0, .ref ag), (1, .ref w), (2, .int xn)] → lp_X0_leftOf_10 ag_row w_there w_points xn k10 i10 v3_10 = F10_1 → W p l e ({ frames := 3, cells := 0, slots := 0, locals := 68 }) s m args below meth c s.heap [] 0 0 (MQ below (ro_Q (.int R)) args s 0 0 (fun _ => False)) (F0 m 10 ls []) := by
    intro k10
    induction k10 with
    | zero =>
      intro i10 v3_10 h10 hs10  ls hl hR
      obtain rfl : 8 = i10 := by omega
      rw [lp_X0_leftOf_10] at hR
      refine lv_iload hx hb dX0_leftOf_10 (lv_at hl 0 rfl) ?_
      refine lv_iload_n hx hb dX0_leftOf_12 rfl (lv_at hl 4 rfl) ?_
      refine lv_icmp_ge (tgt := 52) hx hb dX0_leftOf_13 (by decide) (fun c13 => ?_) (fun c13 => ?_)
      · subst hR
        exact hexit10 _ (lv_sub hl [1, 2, 3, 4] rfl)
      · refine lv_iload hx hb dX0_leftOf_16 (lv_at hl 0 rfl) ?_
        refine lv_bipush (v := (8 : Int32)) hx hb dX0_leftOf_18 (by decide +kernel) ?_
        refine lv_icmp_ge (tgt := 52) hx hb dX0_leftOf_20 (by decide) (fun _ => ?_) (fun h => absurd (cle_t (a := 8) (b := 8) rfl rfl (by omega) (by omega)) h)
        subst hR
        exact hexit10 _ (lv_sub hl [1, 2, 3, 4] rfl)
    | succ k10 ih10 =>
      intro i10 v3_10 h10 hs10  ls hl hR
      rw [lp_X0_leftOf_10] at hR
      refine lv_iload hx hb dX0_leftOf_10 (lv_at hl 0 rfl) ?_
      refine lv_iload_n hx hb dX0_leftOf_12 rfl (lv_at hl 4 rfl) ?_
      refine lv_icmp_ge (tgt := 52) hx hb dX0_leftOf_13 (by decide) (fun c13 => ?_) (fun c13 => ?_)
      · rw [if_pos c13] at hR
        subst hR
        exact hexit10 _ (lv_sub hl [1, 2, 3, 4] rfl)
      · rw [if_neg c13] at hR
        refine lv_iload hx hb dX0_leftOf_16 (lv_at hl 0 rfl) ?_
        refine lv_bipush (v := (8 : Int32)) hx hb dX0_leftOf_18 (by decide +kernel) ?_
        refine lv_icmp_ge (tgt := 52) hx hb dX0_leftOf_20 (by decide) (fun h => absurd h (cle_f (a := 8) (b := i10) rfl rfl (by omega) (by omega))) (fun _ => ?_)
        refine lv_aload_n hx hb dX0_leftOf_23 rfl (lv_at hl 3 rfl) ?_
        refine lv_iload_n hx hb dX0_leftOf_24 rfl (lv_at hl 1 rfl) ?_
        refine lv_aload_n hx hb dX0_leftOf_25 rfl (lv_at hl 2 rfl) ?_
        refine va_get (D := D) (ci := 0) (v := .ref ag_row_a) (C := RX0) (T := TX0) (N := 2) hx hb hts in_X0_leftOf_X0 hown hK.1 hP 0 rfl rfl 0 (by decide) hq0 (fun _ h9 => h9) rfl dX0_leftOf_26 ?_
        refine lv_iload hx hb dX0_leftOf_29 (lv_at hl 0 rfl) ?_
        refine ia_ld hx hb hK hP 1 rfl (i := i10) (by omega) (by decide) dX0_leftOf_31 ?_
        refine ro_S (As := [.ref w, .int v3_10, .int (ag_row i10)]) (rest := []) ⟨hx, hb, hml, hown, hts⟩ hK (c_X0_beats l D cI cJ cZ w w_points_a w_tired_a w_near_a w_there w_free w_held w_wind w_oil w_hour w_sights w_agreedTo w_refused w_points v3_10 (ag_row i10)) (rw_sub hP [2, 3] rfl) (va_cwS 3 hts gX0_leftOf_X0_beats rfl rfl rfl hd_X0_beats ⟨(Nat.le_of_ble_eq_true rfl), (Nat.le_of_ble_eq_true rfl)⟩) rfl hl.1 rfl (Nat.le_of_ble_eq_true rfl) dX0_leftOf_32 (Nat.zero_le _) (Nat.zero_le _) ?_
        refine lv_if_ne (tgt := 46) hx hb dX0_leftOf_35 (by decide) (fun c35 => ?_) (fun c35 => ?_)
        · rw [if_neg c35] at hR
          refine lv_iinc (v := (nI (i10 + 1))) (lv' := [(4, .int (nI (i10 + 1))), (3, .int v3_10), (0, .ref ag), (1, .ref w), (2, .int xn)]) hx hb dX0_leftOf_46 hl (k := 0) rfl (by exact nI_add i10 1) (by decide) rfl (fun ls hl => ?_)
          refine lv_goto (tgt := 10) hx hb dX0_leftOf_49 (by decide) ?_
          exact ih10 _ _ (by omega) (by omega) _ (lv_sub hl [0, 1, 2, 3, 4] rfl) hR
        · rw [if_pos c35] at hR
          refine lv_aload_n hx hb dX0_leftOf_38 rfl (lv_at hl 2 rfl) ?_
          refine va_get (D := D) (ci := 0) (v := .ref ag_row_a) (C := RX0) (T := TX0) (N := 2) hx hb hts in_X0_leftOf_X0 hown hK.1 hP 0 rfl rfl 0 (by decide) hq0 (fun _ h9 => h9) rfl dX0_leftOf_39 ?_
          refine lv_iload hx hb dX0_leftOf_42 (lv_at hl 0 rfl) ?_
          refine ia_ld hx hb hK hP 1 rfl (i := i10) (by omega) (by decide) dX0_leftOf_44 ?_
          refine lv_istore_n (lv' := [(3, .int (ag_row i10)), (4, .int (nI i10)), (0, .ref ag), (1, .ref w), (2, .int xn)]) hx hb dX0_leftOf_45 rfl hl (by decide) rfl (fun ls hl => ?_)
          refine lv_iinc (v := (nI (i10 + 1))) (lv' := [(4, .int (nI (i10 + 1))), (3, .int (ag_row i10)), (0, .ref ag), (1, .ref w), (2, .int xn)]) hx hb dX0_leftOf_46 hl (k := 1) rfl (by exact nI_add i10 1) (by decide) rfl (fun ls hl => ?_)
          refine lv_goto (tgt := 10) hx hb dX0_leftOf_49 (by decide) ?_
          exact ih10 _ _ (by omega) (by omega) _ (lv_sub hl [0, 1, 2, 3, 4] rfl) hR
  exact hloop10 7 1 _ (by omega) (Nat.le_refl _) _ hl hF10_1


theorem in_X0_canBeLeft_X0 : ∀ w ∈ u_ws RX0 TX0 2, w ∈ wsX0_canBeLeft := by decide +kernel
theorem hd_X0_beatenBy : yX0_beatenBy.cls ≠ "java/lang/invoke/MethodHandle" ∧ yX0_beatenBy.cls ≠ "java/lang/invoke/VarHandle" ∧ (parseMethodDescriptor yX0_beatenBy.desc).map (fun d => d.parameters.length) = some 2 := by decide +kernel
def lp_X0_canBeLeft_2 (w_there : Int32) (w_points : Nat → Int32) : Nat → Nat → (Nat → Int32) → (Nat → Int32)
  | 0, _, r1_2 => r1_2
  | k2 + 1, i2, r1_2 => (lp_X0_canBeLeft_2 w_there w_points k2 (i2 + 1) (upd r1_2 i2 (f_X0_beatenBy w_there w_points (nI i2))))
def lp_X0_canBeLeft_45 (z1_45 : Nat → Int32) : Nat → Nat → Int32 → Int32
  | 0, _, v3_45 => v3_45
  | k45 + 1, i45, v3_45 => (if ((f_X8_hasBit v3_45 (nI i45)) = 0) then (lp_X0_canBeLeft_45 z1_45 k45 (i45 + 1) (v3_45 ||| (0 : Int32))) else (lp_X0_canBeLeft_45 z1_45 k45 (i45 + 1) (v3_45 ||| (z1_45 i45))))
def lp_X0_canBeLeft_35 (z1_35 : Nat → Int32) : Nat → Nat → Int32 → Int32
  | 0, _, v3_35 => v3_35
  | k35 + 1, i35, v3_35 => (lp_X0_canBeLeft_35 z1_35 k35 (i35 + 1) (lp_X0_canBeLeft_45 z1_35 8 0 v3_35))
def f_X0_canBeLeft (ag_beaten : Nat → Int32) (w_there : Int32) (w_points : Nat → Int32) (xt : Int32) : Int32 × (Nat → Int32) :=
  (if ((lp_X0_canBeLeft_35 (lp_X0_canBeLeft_2 w_there w_points 8 0 ag_beaten) 8 0 (f_X8_withBit (0 : Int32) xt (1 : Int32))) = (255 : Int32)) then ((1 : Int32), (lp_X0_canBeLeft_2 w_there w_points 8 0 ag_beaten)) else ((0 : Int32), (lp_X0_canBeLeft_2 w_there w_points 8 0 ag_beaten)))
set_option maxHeartbeats 4000000 in
set_option maxRecDepth 100000 in
theorem c_X0_canBeLeft (l : Launch) (D : va_G) (cI cJ cZ : ClassId) (ag : Nat) (ag_row_a : Nat) (ag_beaten_a : Nat) (ag_beaten : Nat → Int32) (w : Nat) (w_points_a : Nat) (w_tired_a : Nat) (w_near_a : Nat) (w_there : Int32) (w_free : Int32) (w_held : Int32) (w_wind : Int32) (w_oil : Int32) (w_hour : Int32) (w_sights : Int32) (w_agreedTo : Int32) (w_refused : Int32) (w_points : Nat → Int32) (xt : Int32) : RW l yX0_canBeLeft wsX0_canBeLeft ({ frames := 4, cells := 0, slots := 0, locals := 91 }) [.ref ag, .ref w, .int xt] D cI cJ cZ [(ag, .inr (0, [.ref ag_row_a, .ref ag_beaten_a])), (ag_beaten_a, .inl (cI, 8, .inl ag_beaten)), (w, .inr (7, [.ref w_points_a, .ref w_tired_a, .ref w_near_a, .int w_there, .int w_free, .int w_held, .int w_wind, .int w_oil, .int w_hour, .int w_sights, .int w_agreedTo, .int w_refused])), (w_points_a, .inl (cI, 7, .inl w_points))] (some (.int ((f_X0_canBeLeft ag_beaten w_there w_points xt).1))) [(ag, .inr (0, [.ref ag_row_a, .ref ag_beaten_a])), (ag_beaten_a, .inl (cI, 8, .inl ((f_X0_canBeLeft ag_beaten w_there w_points xt).2))), (w, .inr (7, [.ref w_points_a, .ref w_tired_a, .ref w_near_a, .int w_there, .int w_free, .int w_held, .int w_wind, .int w_oil, .int w_hour, .int w_sights, .int w_agreedTo, .int w_refused])), (w_points_a, .inl (cI, 7, .inl w_points))] := by
  obtain ⟨R0, R1, hR⟩ := prodE2 (f_X0_canBeLeft ag_beaten w_there w_points xt)
  rw [hR]
  dsimp only
  refine rw_start (cc := cX0_canBeLeft) (maxL := 6) (ret := (some .boolean)) (by decide) rfl (Nat.le_of_ble_eq_true rfl) ?_
  intro p e s m args below meth c hx hb hr hml hown hts hlocks hP hD hS hK ls hl
  have hown : s.vm.findClass RX0 = some m.cls := hown
  have hl : lv_has ls 6 [(0, .ref ag), (1, .ref w), (2, .int xt)] := hl
  have hq0 := hts (.fieldLink RX0 15 "StuckVanes$Agendas" "beaten" "[I") (by decide +kernel)
  have hq1 := hts (.initialized RX8) (by decide +kernel)
  have hq2 := hts (.static yX8_withBit) (by decide +kernel)
  have hq3 := hts (.static yX8_hasBit) (by decide +kernel)
  rw [f_X0_canBeLeft] at hR
  refine lv_iconst (v := (0 : Int32)) hx hb dX0_canBeLeft_0 (by decide) ?_
  refine lv_istore_n (lv' := [(3, .int (0 : Int32)), (0, .ref ag), (1, .ref w), (2, .int xt)]) hx hb dX0_canBeLeft_1 rfl hl (by decide) rfl (fun ls hl => ?_)
  obtain ⟨F2_1, hF2_1⟩ : ∃ x, (lp_X0_canBeLeft_2 w_there w_points 8 0 ag_beaten) = x := ⟨_, rfl⟩
  try rw [hF2_1] at hR
  have hexit2 : ∀ (H : Heap) (locs : List Loc), va_P D vwCl [(ag, .inr (0, [.ref ag_row_a, .ref ag_beaten_a])), (ag_beaten_a, .inl (cI, 8, .inl F2_1)), (w, .inr (7, [.ref w_points_a, .ref w_tired_a, .ref w_near_a, .int w_there, .int w_free, .int w_held, .int w_wind, .int w_oil, .int w_hour, .int w_sights, .int w_agreedTo, .int w_refused])), (w_points_a, .inl (cI, 7, .inl w_points))] H → va_D (va_In [(ag, .inr (0, [.ref ag_row_a, .ref ag_beaten_a])), (ag_beaten_a, .inl (cI, 8, .inl ag_beaten)), (w, .inr (7, [.ref w_points_a, .ref w_tired_a, .ref w_near_a, .int w_there, .int w_free, .int w_held, .int w_wind, .int w_oil, .int w_hour, .int w_sights, .int w_agreedTo, .int w_refused])), (w_points_a, .inl (cI, 7, .inl w_points))]) [(ag, .inr (0, [.ref ag_row_a, .ref ag_beaten_a])), (ag_beaten_a, .inl (cI, 8, .inl F2_1)), (w, .inr (7, [.ref w_points_a, .ref w_tired_a, .ref w_near_a, .int w_there, .int w_free, .int w_held, .int w_wind, .int w_oil, .int w_hour, .int w_sights, .int w_agreedTo, .int w_refused])), (w_points_a, .inl (cI, 7, .inl w_points))] → va_S (va_In [(ag, .inr (0, [.ref ag_row_a, .ref ag_beaten_a])), (ag_beaten_a, .inl (cI, 8, .inl ag_beaten)), (w, .inr (7, [.ref w_points_a, .ref w_tired_a, .ref w_near_a, .int w_there, .int w_free, .int w_held, .int w_wind, .int w_oil, .int w_hour, .int w_sights, .int w_agreedTo, .int w_refused])), (w_points_a, .inl (cI, 7, .inl w_points))]) s.heap H locs → ∀ (ls : Array Slot), lv_has ls 6 [(0, .ref ag), (1, .ref w), (2, .int xt)] → W p l e ({ frames := 4, cells := 0, slots := 0, locals := 91 }) s m args below meth c H locs 0 0 (MQ below (rw_Q D (some (.int R0)) [(ag, .inr (0, [.ref ag_row_a, .ref ag_beaten_a])), (ag_beaten_a, .inl (cI, 8, .inl ag_beaten)), (w, .inr (7, [.ref w_points_a, .ref w_tired_a, .ref w_near_a, .int w_there, .int w_free, .int w_held, .int w_wind, .int w_oil, .int w_hour, .int w_sights, .int w_agreedTo, .int w_refused])), (w_points_a, .inl (cI, 7, .inl w_points))] [(ag, .inr (0, [.ref ag_row_a, .ref ag_beaten_a])), (ag_beaten_a, .inl (cI, 8, .inl R1)), (w, .inr (7, [.ref w_points_a, .ref w_tired_a, .ref w_near_a, .int w_there, .int w_free, .int w_held, .int w_wind, .int w_oil, .int w_hour, .int w_sights, .int w_agreedTo, .int w_refused])), (w_points_a, .inl (cI, 7, .inl w_points))]) args s 0 0 (va_In [(ag, .inr (0, [.ref ag_row_a, .ref ag_beaten_a])), (ag_beaten_a, .inl (cI, 8, .inl ag_beaten)), (w, .inr (7, [.ref w_points_a, .ref w_tired_a, .ref w_near_a, .int w_there, .int w_free, .int w_held, .int w_wind, .int w_oil, .int w_hour, .int w_sights, .int w_agreedTo, .int w_refused])), (w_points_a, .inl (cI, 7, .inl w_points))])) (F0 m 25 ls []) := by
    intro H locs hP hD hS ls hl
    refine lv_iconst (v := (0 : Int32)) hx hb dX0_canBeLeft_25 (by decide) ?_
    refine lv_iload_n hx hb dX0_canBeLeft_26 rfl (lv_at hl 2 rfl) ?_
    refine lv_iconst (v := (1 : Int32)) hx hb dX0_canBeLeft_27 (by decide) ?_
    refine ro_SN (As := [.int (0 : Int32), .int xt, .int (1 : Int32)]) (rest := []) ⟨hx, hb, hml, hown, hts⟩ hK (c_X8_withBit l D cI cJ cZ (0 : Int32) xt (1 : Int32)) va_P_nil (va_cnB 3 hts gX0_canBeLeft_X8_withBit_n28 rfl rfl rfl (hK.2 _ gN_42) hq1 hd_X8_withBit ⟨(Nat.le_of_ble_eq_true rfl), (Nat.le_of_ble_eq_true rfl)⟩) hq2 rfl hl.1 rfl (Nat.le_of_ble_eq_true rfl) dX0_canBeLeft_28 (Nat.zero_le _) (Nat.zero_le _) ?_
    refine lv_istore_n (lv' := [(3, .int (f_X8_withBit (0 : Int32) xt (1 : Int32))), (0, .ref ag), (1, .ref w), (2, .int xt)]) hx hb dX0_canBeLeft_31 rfl hl (by decide) rfl (fun ls hl => ?_)
    refine lv_iconst (v := (0 : Int32)) hx hb dX0_canBeLeft_32 (by decide) ?_
    refine lv_istore (lv' := [(4, .int (0 : Int32)), (3, .int (f_X8_withBit (0 : Int32) xt (1 : Int32))), (0, .ref ag), (1, .ref w), (2, .int xt)]) hx hb dX0_canBeLeft_33 hl (by decide) rfl (fun ls hl => ?_)
    obtain ⟨F35_2, hF35_2⟩ : ∃ x, (lp_X0_canBeLeft_35 F2_1 8 0 (f_X8_withBit (0 : Int32) xt (1 : Int32))) = x := ⟨_, rfl⟩
    try rw [hF35_2] at hR
    have hexit35 : ∀ (H : Heap) (locs : List Loc), va_P D vwCl [(ag, .inr (0, [.ref ag_row_a, .ref ag_beaten_a])), (ag_beaten_a, .inl (cI, 8, .inl F2_1)), (w, .inr (7, [.ref w_points_a, .ref w_tired_a, .ref w_near_a, .int w_there, .int w_free, .int w_held, .int w_wind, .int w_oil, .int w_hour, .int w_sights, .int w_agreedTo, .int w_refused])), (w_points_a, .inl (cI, 7, .inl w_points))] H → va_D (va_In [(ag, .inr (0, [.ref ag_row_a, .ref ag_beaten_a])), (ag_beaten_a, .inl (cI, 8, .inl ag_beaten)), (w, .inr (7, [.ref w_points_a, .ref w_tired_a, .ref w_near_a, .int w_there, .int w_free, .int w_held, .int w_wind, .int w_oil, .int w_hour, .int w_sights, .int w_agreedTo, .int w_refused])), (w_points_a, .inl (cI, 7, .inl w_points))]) [(ag, .inr (0, [.ref ag_row_a, .ref ag_beaten_a])), (ag_beaten_a, .inl (cI, 8, .inl F2_1)), (w, .inr (7, [.ref w_points_a, .ref w_tired_a, .ref w_near_a, .int w_there, .int w_free, .int w_held, .int w_wind, .int w_oil, .int w_hour, .int w_sights, .int w_agreedTo, .int w_refused])), (w_points_a, .inl (cI, 7, .inl w_points))] → va_S (va_In [(ag, .inr (0, [.ref ag_row_a, .ref ag_beaten_a])), (ag_beaten_a, .inl (cI, 8, .inl ag_beaten)), (w, .inr (7, [.ref w_points_a, .ref w_tired_a, .ref w_near_a, .int w_there, .int w_free, .int w_held, .int w_wind, .int w_oil, .int w_hour, .int w_sights, .int w_agreedTo, .int w_refused])), (w_points_a, .inl (cI, 7, .inl w_points))]) s.heap H locs → ∀ (ls : Array Slot), lv_has ls 6 [(3, .int F35_2), (0, .ref ag), (1, .ref w), (2, .int xt)] → W p l e ({ frames := 4, cells := 0, slots := 0, locals := 91 }) s m args below meth c H locs 0 0 (MQ below (rw_Q D (some (.int R0)) [(ag, .inr (0, [.ref ag_row_a, .ref ag_beaten_a])), (ag_beaten_a, .inl (cI, 8, .inl ag_beaten)), (w, .inr (7, [.ref w_points_a, .ref w_tired_a, .ref w_near_a, .int w_there, .int w_free, .int w_held, .int w_wind, .int w_oil, .int w_hour, .int w_sights, .int w_agreedTo, .int w_refused])), (w_points_a, .inl (cI, 7, .inl w_points))] [(ag, .inr (0, [.ref ag_row_a, .ref ag_beaten_a])), (ag_beaten_a, .inl (cI, 8, .inl R1)), (w, .inr (7, [.ref w_points_a, .ref w_tired_a, .ref w_near_a, .int w_there, .int w_free, .int w_held, .int w_wind, .int w_oil, .int w_hour, .int w_sights, .int w_agreedTo, .int w_refused])), (w_points_a, .inl (cI, 7, .inl w_points))]) args s 0 0 (va_In [(ag, .inr (0, [.ref ag_row_a, .ref ag_beaten_a])), (ag_beaten_a, .inl (cI, 8, .inl ag_beaten)), (w, .inr (7, [.ref w_points_a, .ref w_tired_a, .ref w_near_a, .int w_there, .int w_free, .int w_held, .int w_wind, .int w_oil, .int w_hour, .int w_sights, .int w_agreedTo, .int w_refused])), (w_points_a, .inl (cI, 7, .inl w_points))])) (F0 m 87 ls []) := by
      intro H locs hP hD hS ls hl
      refine lv_iload_n hx hb dX0_canBeLeft_87 rfl (lv_at hl 0 rfl) ?_
      refine lv_sipush (v := (255 : Int32)) hx hb dX0_canBeLeft_88 (by decide +kernel) ?_
      refine lv_icmp_ne (tgt := 98) hx hb dX0_canBeLeft_91 (by decide) (fun c91 => ?_) (fun c91 => ?_)
      · rw [if_neg c91] at hR
        refine lv_iconst (v := (0 : Int32)) hx hb dX0_canBeLeft_98 (by decide) ?_
        obtain ⟨rfl, rfl⟩ := prodI2 hR
        exact rw_zret hx hb hr hlocks (Or.inl rfl) hP hS dX0_canBeLeft_99
      · rw [if_pos c91] at hR
        refine lv_iconst (v := (1 : Int32)) hx hb dX0_canBeLeft_94 (by decide) ?_
        refine lv_goto (tgt := 99) hx hb dX0_canBeLeft_95 (by decide) ?_
        obtain ⟨rfl, rfl⟩ := prodI2 hR
        exact rw_zret hx hb hr hlocks (Or.inr rfl) hP hS dX0_canBeLeft_99
    have hloop35 : ∀ (k35 i35 : Nat) (v3_35 : Int32), i35 + k35 = 8 → ∀ (H : Heap) (locs : List Loc), va_P D vwCl [(ag, .inr (0, [.ref ag_row_a, .ref ag_beaten_a])), (ag_beaten_a, .inl (cI, 8, .inl F2_1)), (w, .inr (7, [.ref w_points_a, .ref w_tired_a, .ref w_near_a, .int w_there, .int w_free, .int w_held, .int w_wind, .int w_oil, .int w_hour, .int w_sights, .int w_agreedTo, .int w_refused])), (w_points_a, .inl (cI, 7, .inl w_points))] H → va_D (va_In [(ag, .inr (0, [.ref ag_row_a, .ref ag_beaten_a])), (ag_beaten_a, .inl (cI, 8, .inl ag_beaten)), (w, .inr (7, [.ref w_points_a, .ref w_tired_a, .ref w_near_a, .int w_there, .int w_free, .int w_held, .int w_wind, .int w_oil, .int w_hour, .int w_sights, .int w_agreedTo, .int w_refused])), (w_points_a, .inl (cI, 7, .inl w_points))]) [(ag, .inr (0, [.ref ag_row_a, .ref ag_beaten_a])), (ag_beaten_a, .inl (cI, 8, .inl F2_1)), (w, .inr (7, [.ref w_points_a, .ref w_tired_a, .ref w_near_a, .int w_there, .int w_free, .int w_held, .int w_wind, .int w_oil, .int w_hour, .int w_sights, .int w_agreedTo, .int w_refused])), (w_points_a, .inl (cI, 7, .inl w_points))] → va_S (va_In [(ag, .inr (0, [.ref ag_row_a, .ref ag_beaten_a])), (ag_beaten_a, .inl (cI, 8, .inl ag_beaten)), (w, .inr (7, [.ref w_points_a, .ref w_tired_a, .ref w_near_a, .int w_there, .int w_free, .int w_held, .int w_wind, .int w_oil, .int w_hour, .int w_sights, .int w_agreedTo, .int w_refused])), (w_points_a, .inl (cI, 7, .inl w_points))]) s.heap H locs → ∀ (ls : Array Slot), lv_has ls 6 [(4, .int (nI i35)), (3, .int v3_35), (0, .ref ag), (1, .ref w), (2, .int xt)] → lp_X0_canBeLeft_35 F2_1 k35 i35 v3_35 = F35_2 → W p l e ({ frames := 4, cells := 0, slots := 0, locals := 91 }) s m args below meth c H locs 0 0 (MQ below (rw_Q D (some (.int R0)) [(ag, .inr (0, [.ref ag_row_a, .ref ag_beaten_a])), (ag_beaten_a, .inl (cI, 8, .inl ag_beaten)), (w, .inr (7, [.ref w_points_a, .ref w_tired_a, .ref w_near_a, .int w_there, .int w_free, .int w_held, .int w_wind, .int w_oil, .int w_hour, .int w_sights, .int w_agreedTo, .int w_refused])), (w_points_a, .inl (cI, 7, .inl w_points))] [(ag, .inr (0, [.ref ag_row_a, .ref ag_beaten_a])), (ag_beaten_a, .inl (cI, 8, .inl R1)), (w, .inr (7, [.ref w_points_a, .ref w_tired_a, .ref w_near_a, .int w_there, .int w_free, .int w_held, .int w_wind, .int w_oil, .int w_hour, .int w_sights, .int w_agreedTo, .int w_refused])), (w_points_a, .inl (cI, 7, .inl w_points))]) args s 0 0 (va_In [(ag, .inr (0, [.ref ag_row_a, .ref ag_beaten_a])), (ag_beaten_a, .inl (cI, 8, .inl ag_beaten)), (w, .inr (7, [.ref w_points_a, .ref w_tired_a, .ref w_near_a, .int w_there, .int w_free, .int w_held, .int w_wind, .int w_oil, .int w_hour, .int w_sights, .int w_agreedTo, .int w_refused])), (w_points_a, .inl (cI, 7, .inl w_points))])) (F0 m 35 ls []) := by
      intro k35
      induction k35 with
      | zero =>
        intro i35 v3_35 h35  H locs hP hD hS ls hl hR
        obtain rfl : 8 = i35 := by omega
        rw [lp_X0_canBeLeft_35] at hR
        refine lv_iload hx hb dX0_canBeLeft_35 (lv_at hl 0 rfl) ?_
        refine lv_bipush (v := (8 : Int32)) hx hb dX0_canBeLeft_37 (by decide +kernel) ?_
        refine lv_icmp_ge (tgt := 87) hx hb dX0_canBeLeft_39 (by decide) (fun _ => ?_) (fun h => absurd (cle_t (a := 8) (b := 8) rfl rfl (by omega) (by omega)) h)
        subst hR
        exact hexit35 _ _ hP hD hS _ (lv_sub hl [1, 2, 3, 4] rfl)
      | succ k35 ih35 =>
        intro i35 v3_35 h35  H locs hP hD hS ls hl hR
        rw [lp_X0_canBeLeft_35] at hR
        refine lv_iload hx hb dX0_canBeLeft_35 (lv_at hl 0 rfl) ?_
        refine lv_bipush (v := (8 : Int32)) hx hb dX0_canBeLeft_37 (by decide +kernel) ?_
        refine lv_icmp_ge (tgt := 87) hx hb dX0_canBeLeft_39 (by decide) (fun h => absurd h (cle_f (a := 8) (b := i35) rfl rfl (by omega) (by omega))) (fun _ => ?_)
        refine lv_iconst (v := (0 : Int32)) hx hb dX0_canBeLeft_42 (by decide) ?_
        refine lv_istore (lv' := [(5, .int (0 : Int32)), (4, .int (nI i35)), (3, .int v3_35), (0, .ref ag), (1, .ref w), (2, .int xt)]) hx hb dX0_canBeLeft_43 hl (by decide) rfl (fun ls hl => ?_)
        obtain ⟨F45_3, hF45_3⟩ : ∃ x, (lp_X0_canBeLeft_45 F2_1 8 0 v3_35) = x := ⟨_, rfl⟩
        try rw [hF45_3] at hR
        have hexit45 : ∀ (H : Heap) (locs : List Loc), va_P D vwCl [(ag, .inr (0, [.ref ag_row_a, .ref ag_beaten_a])), (ag_beaten_a, .inl (cI, 8, .inl F2_1)), (w, .inr (7, [.ref w_points_a, .ref w_tired_a, .ref w_near_a, .int w_there, .int w_free, .int w_held, .int w_wind, .int w_oil, .int w_hour, .int w_sights, .int w_agreedTo, .int w_refused])), (w_points_a, .inl (cI, 7, .inl w_points))] H → va_D (va_In [(ag, .inr (0, [.ref ag_row_a, .ref ag_beaten_a])), (ag_beaten_a, .inl (cI, 8, .inl ag_beaten)), (w, .inr (7, [.ref w_points_a, .ref w_tired_a, .ref w_near_a, .int w_there, .int w_free, .int w_held, .int w_wind, .int w_oil, .int w_hour, .int w_sights, .int w_agreedTo, .int w_refused])), (w_points_a, .inl (cI, 7, .inl w_points))]) [(ag, .inr (0, [.ref ag_row_a, .ref ag_beaten_a])), (ag_beaten_a, .inl (cI, 8, .inl F2_1)), (w, .inr (7, [.ref w_points_a, .ref w_tired_a, .ref w_near_a, .int w_there, .int w_free, .int w_held, .int w_wind, .int w_oil, .int w_hour, .int w_sights, .int w_agreedTo, .int w_refused])), (w_points_a, .inl (cI, 7, .inl w_points))] → va_S (va_In [(ag, .inr (0, [.ref ag_row_a, .ref ag_beaten_a])), (ag_beaten_a, .inl (cI, 8, .inl ag_beaten)), (w, .inr (7, [.ref w_points_a, .ref w_tired_a, .ref w_near_a, .int w_there, .int w_free, .int w_held, .int w_wind, .int w_oil, .int w_hour, .int w_sights, .int w_agreedTo, .int w_refused])), (w_points_a, .inl (cI, 7, .inl w_points))]) s.heap H locs → ∀ (ls : Array Slot), lv_has ls 6 [(4, .int (nI i35)), (3, .int F45_3), (0, .ref ag), (1, .ref w), (2, .int xt)] → W p l e ({ frames := 4, cells := 0, slots := 0, locals := 91 }) s m args below meth c H locs 0 0 (MQ below (rw_Q D (some (.int R0)) [(ag, .inr (0, [.ref ag_row_a, .ref ag_beaten_a])), (ag_beaten_a, .inl (cI, 8, .inl ag_beaten)), (w, .inr (7, [.ref w_points_a, .ref w_tired_a, .ref w_near_a, .int w_there, .int w_free, .int w_held, .int w_wind, .int w_oil, .int w_hour, .int w_sights, .int w_agreedTo, .int w_refused])), (w_points_a, .inl (cI, 7, .inl w_points))] [(ag, .inr (0, [.ref ag_row_a, .ref ag_beaten_a])), (ag_beaten_a, .inl (cI, 8, .inl R1)), (w, .inr (7, [.ref w_points_a, .ref w_tired_a, .ref w_near_a, .int w_there, .int w_free, .int w_held, .int w_wind, .int w_oil, .int w_hour, .int w_sights, .int w_agreedTo, .int w_refused])), (w_points_a, .inl (cI, 7, .inl w_points))]) args s 0 0 (va_In [(ag, .inr (0, [.ref ag_row_a, .ref ag_beaten_a])), (ag_beaten_a, .inl (cI, 8, .inl ag_beaten)), (w, .inr (7, [.ref w_points_a, .ref w_tired_a, .ref w_near_a, .int w_there, .int w_free, .int w_held, .int w_wind, .int w_oil, .int w_hour, .int w_sights, .int w_agreedTo, .int w_refused])), (w_points_a, .inl (cI, 7, .inl w_points))])) (F0 m 81 ls []) := by
          intro H locs hP hD hS ls hl
          refine lv_iinc (v := (nI (i35 + 1))) (lv' := [(4, .int (nI (i35 + 1))), (3, .int F45_3), (0, .ref ag), (1, .ref w), (2, .int xt)]) hx hb dX0_canBeLeft_81 hl (k := 0) rfl (by exact nI_add i35 1) (by decide) rfl (fun ls hl => ?_)
          refine lv_goto (tgt := 35) hx hb dX0_canBeLeft_84 (by decide) ?_
          exact ih35 _ _ (by omega) _ _ hP hD hS _ (lv_sub hl [0, 1, 2, 3, 4] rfl) hR
        have hloop45 : ∀ (k45 i45 : Nat) (v3_45 : Int32), i45 + k45 = 8 → ∀ (H : Heap) (locs : List Loc), va_P D vwCl [(ag, .inr (0, [.ref ag_row_a, .ref ag_beaten_a])), (ag_beaten_a, .inl (cI, 8, .inl F2_1)), (w, .inr (7, [.ref w_points_a, .ref w_tired_a, .ref w_near_a, .int w_there, .int w_free, .int w_held, .int w_wind, .int w_oil, .int w_hour, .int w_sights, .int w_agreedTo, .int w_refused])), (w_points_a, .inl (cI, 7, .inl w_points))] H → va_D (va_In [(ag, .inr (0, [.ref ag_row_a, .ref ag_beaten_a])), (ag_beaten_a, .inl (cI, 8, .inl ag_beaten)), (w, .inr (7, [.ref w_points_a, .ref w_tired_a, .ref w_near_a, .int w_there, .int w_free, .int w_held, .int w_wind, .int w_oil, .int w_hour, .int w_sights, .int w_agreedTo, .int w_refused])), (w_points_a, .inl (cI, 7, .inl w_points))]) [(ag, .inr (0, [.ref ag_row_a, .ref ag_beaten_a])), (ag_beaten_a, .inl (cI, 8, .inl F2_1)), (w, .inr (7, [.ref w_points_a, .ref w_tired_a, .ref w_near_a, .int w_there, .int w_free, .int w_held, .int w_wind, .int w_oil, .int w_hour, .int w_sights, .int w_agreedTo, .int w_refused])), (w_points_a, .inl (cI, 7, .inl w_points))] → va_S (va_In [(ag, .inr (0, [.ref ag_row_a, .ref ag_beaten_a])), (ag_beaten_a, .inl (cI, 8, .inl ag_beaten)), (w, .inr (7, [.ref w_points_a, .ref w_tired_a, .ref w_near_a, .int w_there, .int w_free, .int w_held, .int w_wind, .int w_oil, .int w_hour, .int w_sights, .int w_agreedTo, .int w_refused])), (w_points_a, .inl (cI, 7, .inl w_points))]) s.heap H locs → ∀ (ls : Array Slot), lv_has ls 6 [(5, .int (nI i45)), (4, .int (nI i35)), (3, .int v3_45), (0, .ref ag), (1, .ref w), (2, .int xt)] → lp_X0_canBeLeft_45 F2_1 k45 i45 v3_45 = F45_3 → W p l e ({ frames := 4, cells := 0, slots := 0, locals := 91 }) s m args below meth c H locs 0 0 (MQ below (rw_Q D (some (.int R0)) [(ag, .inr (0, [.ref ag_row_a, .ref ag_beaten_a])), (ag_beaten_a, .inl (cI, 8, .inl ag_beaten)), (w, .inr (7, [.ref w_points_a, .ref w_tired_a, .ref w_near_a, .int w_there, .int w_free, .int w_held, .int w_wind, .int w_oil, .int w_hour, .int w_sights, .int w_agreedTo, .int w_refused])), (w_points_a, .inl (cI, 7, .inl w_points))] [(ag, .inr (0, [.ref ag_row_a, .ref ag_beaten_a])), (ag_beaten_a, .inl (cI, 8, .inl R1)), (w, .inr (7, [.ref w_points_a, .ref w_tired_a, .ref w_near_a, .int w_there, .int w_free, .int w_held, .int w_wind, .int w_oil, .int w_hour, .int w_sights, .int w_agreedTo, .int w_refused])), (w_points_a, .inl (cI, 7, .inl w_points))]) args s 0 0 (va_In [(ag, .inr (0, [.ref ag_row_a, .ref ag_beaten_a])), (ag_beaten_a, .inl (cI, 8, .inl ag_beaten)), (w, .inr (7, [.ref w_points_a, .ref w_tired_a, .ref w_near_a, .int w_there, .int w_free, .int w_held, .int w_wind, .int w_oil, .int w_hour, .int w_sights, .int w_agreedTo, .int w_refused])), (w_points_a, .inl (cI, 7, .inl w_points))])) (F0 m 45 ls []) := by
          intro k45
          induction k45 with
          | zero =>
            intro i45 v3_45 h45  H locs hP hD hS ls hl hR
            obtain rfl : 8 = i45 := by omega
            rw [lp_X0_canBeLeft_45] at hR
            refine lv_iload hx hb dX0_canBeLeft_45 (lv_at hl 0 rfl) ?_
            refine lv_bipush (v := (8 : Int32)) hx hb dX0_canBeLeft_47 (by decide +kernel) ?_
            refine lv_icmp_ge (tgt := 81) hx hb dX0_canBeLeft_49 (by decide) (fun _ => ?_) (fun h => absurd (cle_t (a := 8) (b := 8) rfl rfl (by omega) (by omega)) h)
            subst hR
            exact hexit45 _ _ hP hD hS _ (lv_sub hl [1, 2, 3, 4, 5] rfl)
          | succ k45 ih45 =>
            intro i45 v3_45 h45  H locs hP hD hS ls hl hR
            rw [lp_X0_canBeLeft_45] at hR
            refine lv_iload hx hb dX0_canBeLeft_45 (lv_at hl 0 rfl) ?_
            refine lv_bipush (v := (8 : Int32)) hx hb dX0_canBeLeft_47 (by decide +kernel) ?_
            refine lv_icmp_ge (tgt := 81) hx hb dX0_canBeLeft_49 (by decide) (fun h => absurd h (cle_f (a := 8) (b := i45) rfl rfl (by omega) (by omega))) (fun _ => ?_)
            refine lv_iload_n hx hb dX0_canBeLeft_52 rfl (lv_at hl 2 rfl) ?_
            refine lv_iload_n hx hb dX0_canBeLeft_53 rfl (lv_at hl 2 rfl) ?_
            refine lv_iload hx hb dX0_canBeLeft_54 (lv_at hl 0 rfl) ?_
            refine ro_SN (As := [.int v3_45, .int (nI i45)]) (rest := [.int v3_45]) ⟨hx, hb, hml, hown, hts⟩ hK (c_X8_hasBit l D cI cJ cZ v3_45 (nI i45)) va_P_nil (va_cnB 2 hts gX0_canBeLeft_X8_hasBit_n46 rfl rfl rfl (hK.2 _ gN_44) hq1 hd_X8_hasBit ⟨(Nat.le_of_ble_eq_true rfl), (Nat.le_of_ble_eq_true rfl)⟩) hq3 rfl hl.1 rfl (Nat.le_of_ble_eq_true rfl) dX0_canBeLeft_56 (Nat.zero_le _) (Nat.zero_le _) ?_
            refine lv_if_eq (tgt := 72) hx hb dX0_canBeLeft_59 (by decide) (fun c59 => ?_) (fun c59 => ?_)
            · rw [if_pos c59] at hR
              refine lv_iconst (v := (0 : Int32)) hx hb dX0_canBeLeft_72 (by decide) ?_
              refine lv_ior hx hb dX0_canBeLeft_73 ?_
              refine lv_istore_n (lv' := [(3, .int (v3_45 ||| (0 : Int32))), (5, .int (nI i45)), (4, .int (nI i35)), (0, .ref ag), (1, .ref w), (2, .int xt)]) hx hb dX0_canBeLeft_74 rfl hl (by decide) rfl (fun ls hl => ?_)
              refine lv_iinc (v := (nI (i45 + 1))) (lv' := [(5, .int (nI (i45 + 1))), (3, .int (v3_45 ||| (0 : Int32))), (4, .int (nI i35)), (0, .ref ag), (1, .ref w), (2, .int xt)]) hx hb dX0_canBeLeft_75 hl (k := 1) rfl (by exact nI_add i45 1) (by decide) rfl (fun ls hl => ?_)
              refine lv_goto (tgt := 45) hx hb dX0_canBeLeft_78 (by decide) ?_
              exact ih45 _ _ (by omega) _ _ hP hD hS _ (lv_sub hl [0, 2, 1, 3, 4, 5] rfl) hR
            · rw [if_neg c59] at hR
              refine lv_aload_n hx hb dX0_canBeLeft_62 rfl (lv_at hl 3 rfl) ?_
              refine va_get (D := D) (ci := 0) (v := .ref ag_beaten_a) (C := RX0) (T := TX0) (N := 2) hx hb hts in_X0_canBeLeft_X0 hown hK.1 hP 0 rfl rfl 1 (by decide) hq0 (fun _ h9 => h9) rfl dX0_canBeLeft_63 ?_
              refine lv_iload hx hb dX0_canBeLeft_66 (lv_at hl 0 rfl) ?_
              refine ia_ld hx hb hK hP 1 rfl (i := i45) (by omega) (by decide) dX0_canBeLeft_68 ?_
              refine lv_goto (tgt := 73) hx hb dX0_canBeLeft_69 (by decide) ?_
              refine lv_ior hx hb dX0_canBeLeft_73 ?_
              refine lv_istore_n (lv' := [(3, .int (v3_45 ||| (F2_1 i45))), (5, .int (nI i45)), (4, .int (nI i35)), (0, .ref ag), (1, .ref w), (2, .int xt)]) hx hb dX0_canBeLeft_74 rfl hl (by decide) rfl (fun ls hl => ?_)
              refine lv_iinc (v := (nI (i45 + 1))) (lv' := [(5, .int (nI (i45 + 1))), (3, .int (v3_45 ||| (F2_1 i45))), (4, .int (nI i35)), (0, .ref ag), (1, .ref w), (2, .int xt)]) hx hb dX0_canBeLeft_75 hl (k := 1) rfl (by exact nI_add i45 1) (by decide) rfl (fun ls hl => ?_)
              refine lv_goto (tgt := 45) hx hb dX0_canBeLeft_78 (by decide) ?_
              exact ih45 _ _ (by omega) _ _ hP hD hS _ (lv_sub hl [0, 2, 1, 3, 4, 5] rfl) hR
        exact hloop45 8 0 _ (by omega) _ _ hP hD hS _ hl hF45_3
    exact hloop35 8 0 _ (by omega) _ _ hP hD hS _ hl hF35_2
  have hloop2 : ∀ (k2 i2 : Nat) (r1_2 : Nat → Int32), i2 + k2 = 8 → ∀ (H : Heap) (locs : List Loc), va_P D vwCl [(ag, .inr (0, [.ref ag_row_a, .ref ag_beaten_a])), (ag_beaten_a, .inl (cI, 8, .inl r1_2)), (w, .inr (7, [.ref w_points_a, .ref w_tired_a, .ref w_near_a, .int w_there, .int w_free, .int w_held, .int w_wind, .int w_oil, .int w_hour, .int w_sights, .int w_agreedTo, .int w_refused])), (w_points_a, .inl (cI, 7, .inl w_points))] H → va_D (va_In [(ag, .inr (0, [.ref ag_row_a, .ref ag_beaten_a])), (ag_beaten_a, .inl (cI, 8, .inl ag_beaten)), (w, .inr (7, [.ref w_points_a, .ref w_tired_a, .ref w_near_a, .int w_there, .int w_free, .int w_held, .int w_wind, .int w_oil, .int w_hour, .int w_sights, .int w_agreedTo, .int w_refused])), (w_points_a, .inl (cI, 7, .inl w_points))]) [(ag, .inr (0, [.ref ag_row_a, .ref ag_beaten_a])), (ag_beaten_a, .inl (cI, 8, .inl r1_2)), (w, .inr (7, [.ref w_points_a, .ref w_tired_a, .ref w_near_a, .int w_there, .int w_free, .int w_held, .int w_wind, .int w_oil, .int w_hour, .int w_sights, .int w_agreedTo, .int w_refused])), (w_points_a, .inl (cI, 7, .inl w_points))] → va_S (va_In [(ag, .inr (0, [.ref ag_row_a, .ref ag_beaten_a])), (ag_beaten_a, .inl (cI, 8, .inl ag_beaten)), (w, .inr (7, [.ref w_points_a, .ref w_tired_a, .ref w_near_a, .int w_there, .int w_free, .int w_held, .int w_wind, .int w_oil, .int w_hour, .int w_sights, .int w_agreedTo, .int w_refused])), (w_points_a, .inl (cI, 7, .inl w_points))]) s.heap H locs → ∀ (ls : Array Slot), lv_has ls 6 [(3, .int (nI i2)), (0, .ref ag), (1, .ref w), (2, .int xt)] → lp_X0_canBeLeft_2 w_there w_points k2 i2 r1_2 = F2_1 → W p l e ({ frames := 4, cells := 0, slots := 0, locals := 91 }) s m args below meth c H locs 0 0 (MQ below (rw_Q D (some (.int R0)) [(ag, .inr (0, [.ref ag_row_a, .ref ag_beaten_a])), (ag_beaten_a, .inl (cI, 8, .inl ag_beaten)), (w, .inr (7, [.ref w_points_a, .ref w_tired_a, .ref w_near_a, .int w_there, .int w_free, .int w_held, .int w_wind, .int w_oil, .int w_hour, .int w_sights, .int w_agreedTo, .int w_refused])), (w_points_a, .inl (cI, 7, .inl w_points))] [(ag, .inr (0, [.ref ag_row_a, .ref ag_beaten_a])), (ag_beaten_a, .inl (cI, 8, .inl R1)), (w, .inr (7, [.ref w_points_a, .ref w_tired_a, .ref w_near_a, .int w_there, .int w_free, .int w_held, .int w_wind, .int w_oil, .int w_hour, .int w_sights, .int w_agreedTo, .int w_refused])), (w_points_a, .inl (cI, 7, .inl w_points))]) args s 0 0 (va_In [(ag, .inr (0, [.ref ag_row_a, .ref ag_beaten_a])), (ag_beaten_a, .inl (cI, 8, .inl ag_beaten)), (w, .inr (7, [.ref w_points_a, .ref w_tired_a, .ref w_near_a, .int w_there, .int w_free, .int w_held, .int w_wind, .int w_oil, .int w_hour, .int w_sights, .int w_agreedTo, .int w_refused])), (w_points_a, .inl (cI, 7, .inl w_points))])) (F0 m 2 ls []) := by
    intro k2
    induction k2 with
    | zero =>
      intro i2 r1_2 h2  H locs hP hD hS ls hl hR
      obtain rfl : 8 = i2 := by omega
      rw [lp_X0_canBeLeft_2] at hR
      refine lv_iload_n hx hb dX0_canBeLeft_2 rfl (lv_at hl 0 rfl) ?_
      refine lv_bipush (v := (8 : Int32)) hx hb dX0_canBeLeft_3 (by decide +kernel) ?_
      refine lv_icmp_ge (tgt := 25) hx hb dX0_canBeLeft_5 (by decide) (fun _ => ?_) (fun h => absurd (cle_t (a := 8) (b := 8) rfl rfl (by omega) (by omega)) h)
      subst hR
      exact hexit2 _ _ hP hD hS _ (lv_sub hl [1, 2, 3] rfl)
    | succ k2 ih2 =>
      intro i2 r1_2 h2  H locs hP hD hS ls hl hR
      rw [lp_X0_canBeLeft_2] at hR
      refine lv_iload_n hx hb dX0_canBeLeft_2 rfl (lv_at hl 0 rfl) ?_
      refine lv_bipush (v := (8 : Int32)) hx hb dX0_canBeLeft_3 (by decide +kernel) ?_
      refine lv_icmp_ge (tgt := 25) hx hb dX0_canBeLeft_5 (by decide) (fun h => absurd h (cle_f (a := 8) (b := i2) rfl rfl (by omega) (by omega))) (fun _ => ?_)
      refine lv_aload_n hx hb dX0_canBeLeft_8 rfl (lv_at hl 1 rfl) ?_
      refine va_get (D := D) (ci := 0) (v := .ref ag_beaten_a) (C := RX0) (T := TX0) (N := 2) hx hb hts in_X0_canBeLeft_X0 hown hK.1 hP 0 rfl rfl 1 (by decide) hq0 (fun _ h9 => h9) rfl dX0_canBeLeft_9 ?_
      refine lv_iload_n hx hb dX0_canBeLeft_12 rfl (lv_at hl 0 rfl) ?_
      refine lv_aload_n hx hb dX0_canBeLeft_13 rfl (lv_at hl 2 rfl) ?_
      refine lv_iload_n hx hb dX0_canBeLeft_14 rfl (lv_at hl 0 rfl) ?_
      refine ro_S (As := [.ref w, .int (nI i2)]) (rest := [.int (nI i2), .ref ag_beaten_a]) ⟨hx, hb, hml, hown, hts⟩ hK (c_X0_beatenBy l D cI cJ cZ w w_points_a w_tired_a w_near_a w_there w_free w_held w_wind w_oil w_hour w_sights w_agreedTo w_refused w_points (nI i2)) (rw_sub hP [2, 3] rfl) (va_cwS 2 hts gX0_canBeLeft_X0_beatenBy rfl rfl rfl hd_X0_beatenBy ⟨(Nat.le_of_ble_eq_true rfl), (Nat.le_of_ble_eq_true rfl)⟩) rfl hl.1 rfl (Nat.le_of_ble_eq_true rfl) dX0_canBeLeft_15 (Nat.zero_le _) (Nat.zero_le _) ?_
      refine ia_st hx hb hK hP hD hS 1 rfl (i := i2) (by omega) (by decide) dX0_canBeLeft_18 (fun H locs hP hD hS => ?_)
      have hP : va_P D vwCl [(ag, .inr (0, [.ref ag_row_a, .ref ag_beaten_a])), (ag_beaten_a, .inl (cI, 8, .inl (upd r1_2 i2 (f_X0_beatenBy w_there w_points (nI i2))))), (w, .inr (7, [.ref w_points_a, .ref w_tired_a, .ref w_near_a, .int w_there, .int w_free, .int w_held, .int w_wind, .int w_oil, .int w_hour, .int w_sights, .int w_agreedTo, .int w_refused])), (w_points_a, .inl (cI, 7, .inl w_points))] H := hP
      have hD : va_D _ [(ag, .inr (0, [.ref ag_row_a, .ref ag_beaten_a])), (ag_beaten_a, .inl (cI, 8, .inl (upd r1_2 i2 (f_X0_beatenBy w_there w_points (nI i2))))), (w, .inr (7, [.ref w_points_a, .ref w_tired_a, .ref w_near_a, .int w_there, .int w_free, .int w_held, .int w_wind, .int w_oil, .int w_hour, .int w_sights, .int w_agreedTo, .int w_refused])), (w_points_a, .inl (cI, 7, .inl w_points))] := hD
      refine lv_iinc (v := (nI (i2 + 1))) (lv' := [(3, .int (nI (i2 + 1))), (0, .ref ag), (1, .ref w), (2, .int xt)]) hx hb dX0_canBeLeft_19 hl (k := 0) rfl (by exact nI_add i2 1) (by decide) rfl (fun ls hl => ?_)
      refine lv_goto (tgt := 2) hx hb dX0_canBeLeft_22 (by decide) ?_
      exact ih2 _ _ (by omega) _ _ hP hD hS _ (lv_sub hl [0, 1, 2, 3] rfl) hR
  exact hloop2 8 0 _ (by omega) _ _ hP hD hS _ hl hF2_1

theorem z_X0_canBeLeft (ag_beaten : Nat → Int32) (w_there : Int32) (w_points : Nat → Int32) (xt : Int32) : (f_X0_canBeLeft ag_beaten w_there w_points xt).1 = 0 ∨ (f_X0_canBeLeft ag_beaten w_there w_points xt).1 = 1 := by
  unfold f_X0_canBeLeft
  (repeat' split) <;> first | exact Or.inl rfl | exact Or.inr rfl | exact z_X8_hasBit ..


theorem in_X0_readRow_X0 : ∀ w ∈ u_ws RX0 TX0 2, w ∈ wsX0_readRow := by decide +kernel
def lp_X0_readRow_15 (xn : Nat) : Nat → (Nat → Int32) → Int32 → Int32 → Int32 × (Nat → Int32)
  | 0, r1_15, v3_15, v4_15 => (if (v3_15 = 0) then (if ((f_J6_bitCount_0f7a4 v4_15) = (nI xn)) then ((1 : Int32), r1_15) else ((0 : Int32), r1_15)) else ((0 : Int32), r1_15))
  | k15 + 1, r1_15, v3_15, v4_15 => (if ((f_X8_isWay (v3_15 - v3_15 / (10 : Int32) * (10 : Int32))) = 0) then ((0 : Int32), r1_15) else (lp_X0_readRow_15 xn k15 (upd r1_15 k15 (v3_15 - v3_15 / (10 : Int32) * (10 : Int32))) (v3_15 / (10 : Int32)) (f_X8_withBit v4_15 (v3_15 - v3_15 / (10 : Int32) * (10 : Int32)) (1 : Int32))))
def f_X0_readRow (ag_row : Nat → Int32) (xd : Int32) (xn : Nat) : Int32 × (Nat → Int32) :=
  (lp_X0_readRow_15 xn xn ag_row xd (0 : Int32))
set_option maxHeartbeats 4000000 in
set_option maxRecDepth 100000 in
theorem c_X0_readRow (l : Launch) (D : va_G) (cI cJ cZ : ClassId) (ag : Nat) (ag_row_a : Nat) (ag_beaten_a : Nat) (ag_row : Nat → Int32) (xd : Int32) (xn : Nat) (hn2 : 2 ≤ xn) (hn8 : xn ≤ 8) : RW l yX0_readRow wsX0_readRow ({ frames := 2, cells := 0, slots := 0, locals := 41 }) [.ref ag, .int xd, .int (nI xn)] D cI cJ cZ [(ag, .inr (0, [.ref ag_row_a, .ref ag_beaten_a])), (ag_row_a, .inl (cI, 8, .inl ag_row))] (some (.int ((f_X0_readRow ag_row xd xn).1))) [(ag, .inr (0, [.ref ag_row_a, .ref ag_beaten_a])), (ag_row_a, .inl (cI, 8, .inl ((f_X0_readRow ag_row xd xn).2)))] := by
  obtain ⟨R0, R1, hR⟩ := prodE2 (f_X0_readRow ag_row xd xn)
  rw [hR]
  dsimp only
  refine rw_start (cc := cX0_readRow) (maxL := 7) (ret := (some .boolean)) (by decide) rfl (Nat.le_of_ble_eq_true rfl) ?_
  intro p e s m args below meth c hx hb hr hml hown hts hlocks hP hD hS hK ls hl
  have hown : s.vm.findClass RX0 = some m.cls := hown
  have hl : lv_has ls 7 [(0, .ref ag), (1, .int xd), (2, .int (nI xn))] := hl
  have hq0 := hts (.methodLink RX0 18 Lib.Math.min.name) (by decide +kernel)
  have hq1 := hts (.static Lib.Math.min.name) (by decide +kernel)
  have hq2 := hts (.initialized "java/lang/Math") (by decide +kernel)
  have hq3 := hts (.code Lib.Math.min.name Lib.Math.min.code 2 (some .int)) (by decide +kernel)
  have hq4 := hts (.initialized RX8) (by decide +kernel)
  have hq5 := hts (.static yX8_isWay) (by decide +kernel)
  have hq6 := hts (.fieldLink RX0 9 "StuckVanes$Agendas" "row" "[I") (by decide +kernel)
  have hq7 := hts (.static yX8_withBit) (by decide +kernel)
  rw [f_X0_readRow] at hR
  refine lv_iload_n hx hb dX0_readRow_0 rfl (lv_at hl 1 rfl) ?_
  refine lv_istore_n (lv' := [(3, .int xd), (0, .ref ag), (1, .int xd), (2, .int (nI xn))]) hx hb dX0_readRow_1 rfl hl (by decide) rfl (fun ls hl => ?_)
  refine lv_iconst (v := (0 : Int32)) hx hb dX0_readRow_2 (by decide) ?_
  refine lv_istore (lv' := [(4, .int (0 : Int32)), (3, .int xd), (0, .ref ag), (1, .int xd), (2, .int (nI xn))]) hx hb dX0_readRow_3 hl (by decide) rfl (fun ls hl => ?_)
  refine lv_iload_n hx hb dX0_readRow_5 rfl (lv_at hl 4 rfl) ?_
  refine lv_bipush (v := (8 : Int32)) hx hb dX0_readRow_6 (by decide +kernel) ?_
  refine va_mmin (rest := []) hx hb (hml.trans hl.1.symm) hown hq0 hq1 hq2 hq3 (Nat.le_of_ble_eq_true rfl) (Nat.le_of_ble_eq_true rfl) (Nat.zero_le _) (Nat.zero_le _) dX0_readRow_8 ?_
  rw [show (if (8 : Int32) < (nI xn) then (8 : Int32) else (nI xn)) = (nI xn) from if_neg (clt_f (a := 8) (b := xn) rfl rfl (by omega) (by omega))]
  refine lv_iconst (v := (1 : Int32)) hx hb dX0_readRow_11 (by decide) ?_
  refine lv_isub hx hb dX0_readRow_12 ?_
  refine lv_istore (lv' := [(5, .int ((nI xn) - (1 : Int32))), (4, .int (0 : Int32)), (3, .int xd), (0, .ref ag), (1, .int xd), (2, .int (nI xn))]) hx hb dX0_readRow_13 hl (by decide) rfl (fun ls hl => ?_)
  have hloop15 : ∀ (k15 : Nat) (r1_15 : Nat → Int32) (v3_15 : Int32) (v4_15 : Int32), k15 ≤ xn → ∀ (H : Heap) (locs : List Loc), va_P D vwCl [(ag, .inr (0, [.ref ag_row_a, .ref ag_beaten_a])), (ag_row_a, .inl (cI, 8, .inl r1_15))] H → va_D (va_In [(ag, .inr (0, [.ref ag_row_a, .ref ag_beaten_a])), (ag_row_a, .inl (cI, 8, .inl ag_row))]) [(ag, .inr (0, [.ref ag_row_a, .ref ag_beaten_a])), (ag_row_a, .inl (cI, 8, .inl r1_15))] → va_S (va_In [(ag, .inr (0, [.ref ag_row_a, .ref ag_beaten_a])), (ag_row_a, .inl (cI, 8, .inl ag_row))]) s.heap H locs → ∀ (ls : Array Slot), lv_has ls 7 [(5, .int (nI k15 - 1)), (4, .int v4_15), (3, .int v3_15), (0, .ref ag), (1, .int xd), (2, .int (nI xn))] → lp_X0_readRow_15 xn k15 r1_15 v3_15 v4_15 = (R0, R1) → W p l e ({ frames := 2, cells := 0, slots := 0, locals := 41 }) s m args below meth c H locs 0 0 (MQ below (rw_Q D (some (.int R0)) [(ag, .inr (0, [.ref ag_row_a, .ref ag_beaten_a])), (ag_row_a, .inl (cI, 8, .inl ag_row))] [(ag, .inr (0, [.ref ag_row_a, .ref ag_beaten_a])), (ag_row_a, .inl (cI, 8, .inl R1))]) args s 0 0 (va_In [(ag, .inr (0, [.ref ag_row_a, .ref ag_beaten_a])), (ag_row_a, .inl (cI, 8, .inl ag_row))])) (F0 m 15 ls []) := by
    intro k15
    induction k15 with
    | zero =>
      intro r1_15 v3_15 v4_15 h15  H locs hP hD hS ls hl hR
      have hl : lv_has ls 7 [(5, .int (-1 : Int32)), (4, .int v4_15), (3, .int v3_15), (0, .ref ag), (1, .int xd), (2, .int (nI xn))] := hl
      rw [lp_X0_readRow_15] at hR
      refine lv_iload hx hb dX0_readRow_15 (lv_at hl 0 rfl) ?_
      refine lv_if_lt (tgt := 66) hx hb dX0_readRow_17 (by decide) (fun _ => ?_) (fun h => absurd (by decide) h)
      refine lv_iload_n hx hb dX0_readRow_66 rfl (lv_at hl 2 rfl) ?_
      refine lv_if_ne (tgt := 83) hx hb dX0_readRow_67 (by decide) (fun c67 => ?_) (fun c67 => ?_)
      · rw [if_neg c67] at hR
        refine lv_iconst (v := (0 : Int32)) hx hb dX0_readRow_83 (by decide) ?_
        obtain ⟨rfl, rfl⟩ := prodI2 hR
        exact rw_zret hx hb hr hlocks (Or.inl rfl) hP hS dX0_readRow_84
      · rw [if_pos c67] at hR
        refine lv_iload hx hb dX0_readRow_70 (lv_at hl 1 rfl) ?_
        refine ro_S (As := [.int v4_15]) (rest := []) ⟨hx, hb, hml, hown, hts⟩ hK (c_J6_bitCount_0f7a4 l D cI cJ cZ v4_15) va_P_nil (va_cwS 1 hts gX0_readRow_J6_bitCount_0f7a4 rfl rfl rfl hd_J6_bitCount_0f7a4 ⟨(Nat.le_of_ble_eq_true rfl), (Nat.le_of_ble_eq_true rfl)⟩) rfl hl.1 rfl (Nat.le_of_ble_eq_true rfl) dX0_readRow_72 (Nat.zero_le _) (Nat.zero_le _) ?_
        refine lv_iload_n hx hb dX0_readRow_75 rfl (lv_at hl 5 rfl) ?_
        refine lv_icmp_ne (tgt := 83) hx hb dX0_readRow_76 (by decide) (fun c76 => ?_) (fun c76 => ?_)
        · rw [if_neg c76] at hR
          refine lv_iconst (v := (0 : Int32)) hx hb dX0_readRow_83 (by decide) ?_
          obtain ⟨rfl, rfl⟩ := prodI2 hR
          exact rw_zret hx hb hr hlocks (Or.inl rfl) hP hS dX0_readRow_84
        · rw [if_pos c76] at hR
          refine lv_iconst (v := (1 : Int32)) hx hb dX0_readRow_79 (by decide) ?_
          refine lv_goto (tgt := 84) hx hb dX0_readRow_80 (by decide) ?_
          obtain ⟨rfl, rfl⟩ := prodI2 hR
          exact rw_zret hx hb hr hlocks (Or.inr rfl) hP hS dX0_readRow_84
    | succ k15 ih15 =>
      intro r1_15 v3_15 v4_15 h15  H locs hP hD hS ls hl hR
      rw [nI_pred] at hl
      rw [lp_X0_readRow_15] at hR
      refine lv_iload hx hb dX0_readRow_15 (lv_at hl 0 rfl) ?_
      refine lv_if_lt (tgt := 66) hx hb dX0_readRow_17 (by decide) (fun h => absurd h (clt_f (a := k15) (b := 0) rfl rfl (by omega) (by omega))) (fun _ => ?_)
      refine lv_iload_n hx hb dX0_readRow_20 rfl (lv_at hl 2 rfl) ?_
      refine lv_bipush (v := (10 : Int32)) hx hb dX0_readRow_21 (by decide +kernel) ?_
      refine lv_irem hx hb dX0_readRow_23 (by decide) ?_
      refine lv_istore (lv' := [(6, .int (v3_15 - v3_15 / (10 : Int32) * (10 : Int32))), (5, .int (nI k15)), (4, .int v4_15), (3, .int v3_15), (0, .ref ag), (1, .int xd), (2, .int (nI xn))]) hx hb dX0_readRow_24 hl (by decide) rfl (fun ls hl => ?_)
      refine lv_iload hx hb dX0_readRow_26 (lv_at hl 0 rfl) ?_
      refine ro_SN (As := [.int (v3_15 - v3_15 / (10 : Int32) * (10 : Int32))]) (rest := []) ⟨hx, hb, hml, hown, hts⟩ hK (c_X8_isWay l D cI cJ cZ (v3_15 - v3_15 / (10 : Int32) * (10 : Int32))) va_P_nil (va_cnB 1 hts gX0_readRow_X8_isWay_n24 rfl rfl rfl (hK.2 _ gN_41) hq4 hd_X8_isWay ⟨(Nat.le_of_ble_eq_true rfl), (Nat.le_of_ble_eq_true rfl)⟩) hq5 rfl hl.1 rfl (Nat.le_of_ble_eq_true rfl) dX0_readRow_28 (Nat.zero_le _) (Nat.zero_le _) ?_
      refine lv_if_ne (tgt := 36) hx hb dX0_readRow_31 (by decide) (fun c31 => ?_) (fun c31 => ?_)
      · rw [if_neg c31] at hR
        refine lv_aload_n hx hb dX0_readRow_36 rfl (lv_at hl 4 rfl) ?_
        refine va_get (D := D) (ci := 0) (v := .ref ag_row_a) (C := RX0) (T := TX0) (N := 2) hx hb hts in_X0_readRow_X0 hown hK.1 hP 0 rfl rfl 0 (by decide) hq6 (fun _ h9 => h9) rfl dX0_readRow_37 ?_
        refine lv_iload hx hb dX0_readRow_40 (lv_at hl 1 rfl) ?_
        refine lv_iload hx hb dX0_readRow_42 (lv_at hl 0 rfl) ?_
        refine ia_st hx hb hK hP hD hS 1 rfl (i := k15) (by omega) (by decide) dX0_readRow_44 (fun H locs hP hD hS => ?_)
        have hP : va_P D vwCl [(ag, .inr (0, [.ref ag_row_a, .ref ag_beaten_a])), (ag_row_a, .inl (cI, 8, .inl (upd r1_15 k15 (v3_15 - v3_15 / (10 : Int32) * (10 : Int32)))))] H := hP
        have hD : va_D _ [(ag, .inr (0, [.ref ag_row_a, .ref ag_beaten_a])), (ag_row_a, .inl (cI, 8, .inl (upd r1_15 k15 (v3_15 - v3_15 / (10 : Int32) * (10 : Int32)))))] := hD
        refine lv_iload hx hb dX0_readRow_45 (lv_at hl 2 rfl) ?_
        refine lv_iload hx hb dX0_readRow_47 (lv_at hl 0 rfl) ?_
        refine lv_iconst (v := (1 : Int32)) hx hb dX0_readRow_49 (by decide) ?_
        refine ro_SN (As := [.int v4_15, .int (v3_15 - v3_15 / (10 : Int32) * (10 : Int32)), .int (1 : Int32)]) (rest := []) ⟨hx, hb, hml, hown, hts⟩ hK (c_X8_withBit l D cI cJ cZ v4_15 (v3_15 - v3_15 / (10 : Int32) * (10 : Int32)) (1 : Int32)) va_P_nil (va_cnB 3 hts gX0_readRow_X8_withBit_n28 rfl rfl rfl (hK.2 _ gN_42) hq4 hd_X8_withBit ⟨(Nat.le_of_ble_eq_true rfl), (Nat.le_of_ble_eq_true rfl)⟩) hq7 rfl hl.1 rfl (Nat.le_of_ble_eq_true rfl) dX0_readRow_50 (Nat.zero_le _) (Nat.zero_le _) ?_
        refine lv_istore (lv' := [(4, .int (f_X8_withBit v4_15 (v3_15 - v3_15 / (10 : Int32) * (10 : Int32)) (1 : Int32))), (6, .int (v3_15 - v3_15 / (10 : Int32) * (10 : Int32))), (5, .int (nI k15)), (3, .int v3_15), (0, .ref ag), (1, .int xd), (2, .int (nI xn))]) hx hb dX0_readRow_53 hl (by decide) rfl (fun ls hl => ?_)
        refine lv_iload_n hx hb dX0_readRow_55 rfl (lv_at hl 3 rfl) ?_
        refine lv_bipush (v := (10 : Int32)) hx hb dX0_readRow_56 (by decide +kernel) ?_
        refine lv_idiv hx hb dX0_readRow_58 (by decide) ?_
        refine lv_istore_n (lv' := [(3, .int (v3_15 / (10 : Int32))), (4, .int (f_X8_withBit v4_15 (v3_15 - v3_15 / (10 : Int32) * (10 : Int32)) (1 : Int32))), (6, .int (v3_15 - v3_15 / (10 : Int32) * (10 : Int32))), (5, .int (nI k15)), (0, .ref ag), (1, .int xd), (2, .int (nI xn))]) hx hb dX0_readRow_59 rfl hl (by decide) rfl (fun ls hl => ?_)
        refine lv_iinc (v := ((nI k15) - 1)) (lv' := [(5, .int ((nI k15) - 1)), (3, .int (v3_15 / (10 : Int32))), (4, .int (f_X8_withBit v4_15 (v3_15 - v3_15 / (10 : Int32) * (10 : Int32)) (1 : Int32))), (6, .int (v3_15 - v3_15 / (10 : Int32) * (10 : Int32))), (0, .ref ag), (1, .int xd), (2, .int (nI xn))]) hx hb dX0_readRow_60 hl (k := 3) rfl (iinc_m1 _) (by decide) rfl (fun ls hl => ?_)
        refine lv_goto (tgt := 15) hx hb dX0_readRow_63 (by decide) ?_
        exact ih15 _ _ _ (by omega) _ _ hP hD hS _ (lv_sub hl [0, 2, 1, 4, 5, 6] rfl) hR
      · rw [if_pos c31] at hR
        refine lv_iconst (v := (0 : Int32)) hx hb dX0_readRow_34 (by decide) ?_
        obtain ⟨rfl, rfl⟩ := prodI2 hR
        exact rw_zret hx hb hr hlocks (Or.inl rfl) hP hS dX0_readRow_35
  exact hloop15 xn _ _ _ (Nat.le_refl _) _ _ hP hD hS _ hl hR

