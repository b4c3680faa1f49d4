def f_X4_cf7 : Int32 :=
  (1 : Int32)
set_option maxHeartbeats 4000000 in
set_option maxRecDepth 100000 in
theorem c_X4_cf7 (l : Launch) (D : va_G) (cI cJ cZ : ClassId) (w : Nat) (w_points_a : Nat) (w_tired_a : Nat) (w_near_a : Nat) (w_there : Int32) (w_free : Int32) (w_held : Int32) (w_wind : Int32) (w_oil : Int32) (w_hour : Int32) (w_sights : Int32) (w_agreedTo : Int32) (w_refused : Int32) (w_near : Nat → Int32) (pt_a : Nat) (pt : Nat → Int32) (xu : Int32) (xn : Int32) : RO l yX4_countFrom wsX4_countFrom ({ frames := 2, cells := 0, slots := 0, locals := 41 }) [.ref w, .ref pt_a, .int (7 : Int32), .int xu, .int xn] D cI cJ cZ [(w, .inr (7, [.ref w_points_a, .ref w_tired_a, .ref w_near_a, .int w_there, .int w_free, .int w_held, .int w_wind, .int w_oil, .int w_hour, .int w_sights, .int w_agreedTo, .int w_refused])), (w_near_a, .inl (cI, 7, .inl w_near)), (pt_a, .inl (cI, 8, .inl pt))] (.int f_X4_cf7) := by
  obtain ⟨R, hR⟩ : ∃ R, f_X4_cf7 = R := ⟨_, rfl⟩
  rw [hR]
  refine ro_start (cc := cX4_countFrom) (maxL := 8) (ret := (some .int)) (by decide) rfl (Nat.le_of_ble_eq_true rfl) ?_
  intro p e s m args below meth c hx hb hr hml hown hts hlocks hP hK ls hl
  have hown : s.vm.findClass RX4 = some m.cls := hown
  have hl : lv_has ls 8 [(0, .ref w), (1, .ref pt_a), (2, .int (7 : Int32)), (3, .int xu), (4, .int xn)] := hl
  have hq0 := hts (.initialized RX8) (by decide +kernel)
  have hq1 := hts (.static yX8_isParish) (by decide +kernel)
  rw [f_X4_cf7] at hR
  refine lv_iload_n hx hb dX4_countFrom_0 rfl (lv_at hl 2 rfl) ?_
  refine ro_SN (As := [.int (7 : Int32)]) (rest := []) ⟨hx, hb, hml, hown, hts⟩ hK (c_X8_isParish l D cI cJ cZ (7 : Int32)) va_P_nil (va_cnB 1 hts gX4_countFrom_X8_isParish_n29 rfl rfl rfl (hK.2 _ gN_45) hq0 hd_X8_isParish ⟨(Nat.le_of_ble_eq_true rfl), (Nat.le_of_ble_eq_true rfl)⟩) hq1 rfl hl.1 rfl (Nat.le_of_ble_eq_true rfl) dX4_countFrom_1 (Nat.zero_le _) (Nat.zero_le _) ?_
  refine lv_if_ne (tgt := 9) hx hb dX4_countFrom_4 (by decide) (fun h => absurd (by decide) h) (fun _ => ?_)
  refine lv_iconst (v := (1 : Int32)) hx hb dX4_countFrom_7 (by decide) ?_
  subst hR
  exact ro_iret hx hb hr hlocks dX4_countFrom_8


theorem in_X4_countFrom_X7 : ∀ w ∈ u_ws RX7 TX7 12, w ∈ wsX4_countFrom := by decide +kernel
theorem hd_X4_countFrom : yX4_countFrom.cls ≠ "java/lang/invoke/MethodHandle" ∧ yX4_countFrom.cls ≠ "java/lang/invoke/VarHandle" ∧ (parseMethodDescriptor yX4_countFrom.desc).map (fun d => d.parameters.length) = some 5 := by decide +kernel
def lp_X4_cf6_35 (w_near : Nat → Int32) (xu : Int32) (xn : Int32) : Nat → Nat → (Nat → Int32) → Int32 → (Nat → Int32) × Int32
  | 0, _, r2_35, v5_35 => (r2_35, v5_35)
  | k35 + 1, i35, r2_35, v5_35 => (if (xu < (nI i35)) then (r2_35, v5_35) else (if (xn ≤ (nI i35)) then (r2_35, v5_35) else (if (((r2_35 i35) &&& (w_near 6)) = 0) then (if ((nI i35) = xu) then (lp_X4_cf6_35 w_near xu xn k35 (i35 + 1) (upd (upd r2_35 i35 (f_X8_withBit (r2_35 i35) (6 : Int32) (1 : Int32))) i35 (f_X8_withBit ((upd r2_35 i35 (f_X8_withBit (r2_35 i35) (6 : Int32) (1 : Int32))) i35) (6 : Int32) (0 : Int32))) (v5_35 + ((xn - xu) * f_X4_cf7))) else (lp_X4_cf6_35 w_near xu xn k35 (i35 + 1) (upd (upd r2_35 i35 (f_X8_withBit (r2_35 i35) (6 : Int32) (1 : Int32))) i35 (f_X8_withBit ((upd r2_35 i35 (f_X8_withBit (r2_35 i35) (6 : Int32) (1 : Int32))) i35) (6 : Int32) (0 : Int32))) (v5_35 + f_X4_cf7))) else (lp_X4_cf6_35 w_near xu xn k35 (i35 + 1) r2_35 v5_35))))
def f_X4_cf6 (w_there : Int32) (w_near : Nat → Int32) (pt : Nat → Int32) (xu : Int32) (xn : Int32) : Int32 × (Nat → Int32) :=
  (if ((f_X7_isThere w_there (6 : Int32)) = 0) then (f_X4_cf7, pt) else ((lp_X4_cf6_35 w_near xu xn 8 0 pt (0 : Int32)).2, (lp_X4_cf6_35 w_near xu xn 8 0 pt (0 : Int32)).1))
set_option maxHeartbeats 4000000 in
set_option maxRecDepth 100000 in
theorem c_X4_cf6 (l : Launch) (D : va_G) (cI cJ cZ : ClassId) (w : Nat) (w_points_a : Nat) (w_tired_a : Nat) (w_near_a : Nat) (w_there : Int32) (w_free : Int32) (w_held : Int32) (w_wind : Int32) (w_oil : Int32) (w_hour : Int32) (w_sights : Int32) (w_agreedTo : Int32) (w_refused : Int32) (w_near : Nat → Int32) (pt_a : Nat) (pt : Nat → Int32) (xu : Int32) (xn : Int32) : RW l yX4_countFrom wsX4_countFrom ({ frames := 3, cells := 0, slots := 0, locals := 68 }) [.ref w, .ref pt_a, .int (6 : Int32), .int xu, .int xn] D cI cJ cZ [(w, .inr (7, [.ref w_points_a, .ref w_tired_a, .ref w_near_a, .int w_there, .int w_free, .int w_held, .int w_wind, .int w_oil, .int w_hour, .int w_sights, .int w_agreedTo, .int w_refused])), (w_near_a, .inl (cI, 7, .inl w_near)), (pt_a, .inl (cI, 8, .inl pt))] (some (.int ((f_X4_cf6 w_there w_near pt xu xn).1))) [(w, .inr (7, [.ref w_points_a, .ref w_tired_a, .ref w_near_a, .int w_there, .int w_free, .int w_held, .int w_wind, .int w_oil, .int w_hour, .int w_sights, .int w_agreedTo, .int w_refused])), (w_near_a, .inl (cI, 7, .inl w_near)), (pt_a, .inl (cI, 8, .inl ((f_X4_cf6 w_there w_near pt xu xn).2)))] := by
  obtain ⟨R0, R1, hR⟩ := prodE2 (f_X4_cf6 w_there w_near pt xu xn)
  rw [hR]
  dsimp only
  refine rw_start (cc := cX4_countFrom) (maxL := 8) (ret := (some .int)) (by decide) rfl (Nat.le_of_ble_eq_true rfl) ?_
  intro p e s m args below meth c hx hb hr hml hown hts hlocks hP hD hS hK ls hl
  have hown : s.vm.findClass RX4 = some m.cls := hown
  have hl : lv_has ls 8 [(0, .ref w), (1, .ref pt_a), (2, .int (6 : Int32)), (3, .int xu), (4, .int xn)] := hl
  have hq0 := hts (.initialized RX8) (by decide +kernel)
  have hq1 := hts (.static yX8_isParish) (by decide +kernel)
  have hq2 := hts (.static yX8_withBit) (by decide +kernel)
  have hq3 := hts (.methodLink RX4 43 Lib.Math.max.name) (by decide +kernel)
  have hq4 := hts (.static Lib.Math.max.name) (by decide +kernel)
  have hq5 := hts (.initialized "java/lang/Math") (by decide +kernel)
  have hq6 := hts (.code Lib.Math.max.name Lib.Math.max.code 2 (some .int)) (by decide +kernel)
  rw [f_X4_cf6] at hR
  refine lv_iload_n hx hb dX4_countFrom_0 rfl (lv_at hl 2 rfl) ?_
  refine ro_SN (As := [.int (6 : Int32)]) (rest := []) ⟨hx, hb, hml, hown, hts⟩ hK (c_X8_isParish l D cI cJ cZ (6 : Int32)) va_P_nil (va_cnB 1 hts gX4_countFrom_X8_isParish_n29 rfl rfl rfl (hK.2 _ gN_45) hq0 hd_X8_isParish ⟨(Nat.le_of_ble_eq_true rfl), (Nat.le_of_ble_eq_true rfl)⟩) hq1 rfl hl.1 rfl (Nat.le_of_ble_eq_true rfl) dX4_countFrom_1 (Nat.zero_le _) (Nat.zero_le _) ?_
  refine lv_if_ne (tgt := 9) hx hb dX4_countFrom_4 (by decide) (fun _ => ?_) (fun h => absurd h (by decide))
  refine lv_aload_n hx hb dX4_countFrom_9 rfl (lv_at hl 0 rfl) ?_
  refine lv_iload_n hx hb dX4_countFrom_10 rfl (lv_at hl 2 rfl) ?_
  refine ro_V (As := [.int (6 : Int32)]) (rest := []) ⟨hx, hb, hml, hown, hts⟩ hK (c_X7_isThere l D cI cJ cZ w w_points_a w_tired_a w_near_a w_there w_free w_held w_wind w_oil w_hour w_sights w_agreedTo w_refused (6 : Int32)) hP 0 rfl rfl (rw_sub hP [0] rfl) (cwV 1 hts gX4_countFrom_X7_isThere rfl rfl rfl ⟨rfl, hd_X7_isThere⟩ ⟨(Nat.le_of_ble_eq_true rfl), (Nat.le_of_ble_eq_true rfl)⟩) rfl hl.1 rfl (Nat.le_of_ble_eq_true rfl) dX4_countFrom_11 (Nat.zero_le _) (Nat.zero_le _) ?_
  refine lv_if_ne (tgt := 29) hx hb dX4_countFrom_14 (by decide) (fun c14 => ?_) (fun c14 => ?_)
  · rw [if_neg c14] at hR
    refine lv_iconst (v := (0 : Int32)) hx hb dX4_countFrom_29 (by decide) ?_
    refine lv_istore (lv' := [(5, .int (0 : Int32)), (0, .ref w), (1, .ref pt_a), (2, .int (6 : Int32)), (3, .int xu), (4, .int xn)]) hx hb dX4_countFrom_30 hl (by decide) rfl (fun ls hl => ?_)
    refine lv_iconst (v := (0 : Int32)) hx hb dX4_countFrom_32 (by decide) ?_
    refine lv_istore (lv' := [(6, .int (0 : Int32)), (5, .int (0 : Int32)), (0, .ref w), (1, .ref pt_a), (2, .int (6 : Int32)), (3, .int xu), (4, .int xn)]) hx hb dX4_countFrom_33 hl (by decide) rfl (fun ls hl => ?_)
    obtain ⟨F35_1, hF35_1⟩ : ∃ x, (lp_X4_cf6_35 w_near xu xn 8 0 pt (0 : Int32)) = x := ⟨_, rfl⟩
    try rw [hF35_1] at hR
    have hexit35 : ∀ (H : Heap) (locs : List Loc), va_P D vwCl [(w, .inr (7, [.ref w_points_a, .ref w_tired_a, .ref w_near_a, .int w_there, .int w_free, .int w_held, .int w_wind, .int w_oil, .int w_hour, .int w_sights, .int w_agreedTo, .int w_refused])), (w_near_a, .inl (cI, 7, .inl w_near)), (pt_a, .inl (cI, 8, .inl F35_1.1))] H → va_D (va_In [(w, .inr (7, [.ref w_points_a, .ref w_tired_a, .ref w_near_a, .int w_there, .int w_free, .int w_held, .int w_wind, .int w_oil, .int w_hour, .int w_sights, .int w_agreedTo, .int w_refused])), (w_near_a, .inl (cI, 7, .inl w_near)), (pt_a, .inl (cI, 8, .inl pt))]) [(w, .inr (7, [.ref w_points_a, .ref w_tired_a, .ref w_near_a, .int w_there, .int w_free, .int w_held, .int w_wind, .int w_oil, .int w_hour, .int w_sights, .int w_agreedTo, .int w_refused])), (w_near_a, .inl (cI, 7, .inl w_near)), (pt_a, .inl (cI, 8, .inl F35_1.1))] → va_S (va_In [(w, .inr (7, [.ref w_points_a, .ref w_tired_a, .ref w_near_a, .int w_there, .int w_free, .int w_held, .int w_wind, .int w_oil, .int w_hour, .int w_sights, .int w_agreedTo, .int w_refused])), (w_near_a, .inl (cI, 7, .inl w_near)), (pt_a, .inl (cI, 8, .inl pt))]) s.heap H locs → ∀ (ls : Array Slot), lv_has ls 8 [(5, .int F35_1.2), (0, .ref w), (1, .ref pt_a), (2, .int (6 : Int32)), (3, .int xu), (4, .int xn)] → W p l e ({ frames := 3, cells := 0, slots := 0, locals := 68 }) s m args below meth c H locs 0 0 (MQ below (rw_Q D (some (.int R0)) [(w, .inr (7, [.ref w_points_a, .ref w_tired_a, .ref w_near_a, .int w_there, .int w_free, .int w_held, .int w_wind, .int w_oil, .int w_hour, .int w_sights, .int w_agreedTo, .int w_refused])), (w_near_a, .inl (cI, 7, .inl w_near)), (pt_a, .inl (cI, 8, .inl pt))] [(w, .inr (7, [.ref w_points_a, .ref w_tired_a, .ref w_near_a, .int w_there, .int w_free, .int w_held, .int w_wind, .int w_oil, .int w_hour, .int w_sights, .int w_agreedTo, .int w_refused])), (w_near_a, .inl (cI, 7, .inl w_near)), (pt_a, .inl (cI, 8, .inl R1))]) args s 0 0 (va_In [(w, .inr (7, [.ref w_points_a, .ref w_tired_a, .ref w_near_a, .int w_there, .int w_free, .int w_held, .int w_wind, .int w_oil, .int w_hour, .int w_sights, .int w_agreedTo, .int w_refused])), (w_near_a, .inl (cI, 7, .inl w_near)), (pt_a, .inl (cI, 8, .inl pt))])) (F0 m 147 ls []) := by
      intro H locs hP hD hS ls hl
      refine lv_iload hx hb dX4_countFrom_147 (lv_at hl 0 rfl) ?_
      obtain ⟨rfl, rfl⟩ := prodI2 hR
      exact rw_iret hx hb hr hlocks hP hS dX4_countFrom_149
    have hloop35 : ∀ (k35 i35 : Nat) (r2_35 : Nat → Int32) (v5_35 : Int32), i35 + k35 = 8 → ∀ (H : Heap) (locs : List Loc), va_P D vwCl [(w, .inr (7, [.ref w_points_a, .ref w_tired_a, .ref w_near_a, .int w_there, .int w_free, .int w_held, .int w_wind, .int w_oil, .int w_hour, .int w_sights, .int w_agreedTo, .int w_refused])), (w_near_a, .inl (cI, 7, .inl w_near)), (pt_a, .inl (cI, 8, .inl r2_35))] H → va_D (va_In [(w, .inr (7, [.ref w_points_a, .ref w_tired_a, .ref w_near_a, .int w_there, .int w_free, .int w_held, .int w_wind, .int w_oil, .int w_hour, .int w_sights, .int w_agreedTo, .int w_refused])), (w_near_a, .inl (cI, 7, .inl w_near)), (pt_a, .inl (cI, 8, .inl pt))]) [(w, .inr (7, [.ref w_points_a, .ref w_tired_a, .ref w_near_a, .int w_there, .int w_free, .int w_held, .int w_wind, .int w_oil, .int w_hour, .int w_sights, .int w_agreedTo, .int w_refused])), (w_near_a, .inl (cI, 7, .inl w_near)), (pt_a, .inl (cI, 8, .inl r2_35))] → va_S (va_In [(w, .inr (7, [.ref w_points_a, .ref w_tired_a, .ref w_near_a, .int w_there, .int w_free, .int w_held, .int w_wind, .int w_oil, .int w_hour, .int w_sights, .int w_agreedTo, .int w_refused])), (w_near_a, .inl (cI, 7, .inl w_near)), (pt_a, .inl (cI, 8, .inl pt))]) s.heap H locs → ∀ (ls : Array Slot), lv_has ls 8 [(6, .int (nI i35)), (5, .int v5_35), (0, .ref w), (1, .ref pt_a), (2, .int (6 : Int32)), (3, .int xu), (4, .int xn)] → lp_X4_cf6_35 w_near xu xn k35 i35 r2_35 v5_35 = F35_1 → W p l e ({ frames := 3, cells := 0, slots := 0, locals := 68 }) s m args below meth c H locs 0 0 (MQ below (rw_Q D (some (.int R0)) [(w, .inr (7, [.ref w_points_a, .ref w_tired_a, .ref w_near_a, .int w_there, .int w_free, .int w_held, .int w_wind, .int w_oil, .int w_hour, .int w_sights, .int w_agreedTo, .int w_refused])), (w_near_a, .inl (cI, 7, .inl w_near)), (pt_a, .inl (cI, 8, .inl pt))] [(w, .inr (7, [.ref w_points_a, .ref w_tired_a, .ref w_near_a, .int w_there, .int w_free, .int w_held, .int w_wind, .int w_oil, .int w_hour, .int w_sights, .int w_agreedTo, .int w_refused])), (w_near_a, .inl (cI, 7, .inl w_near)), (pt_a, .inl (cI, 8, .inl R1))]) args s 0 0 (va_In [(w, .inr (7, [.ref w_points_a, .ref w_tired_a, .ref w_near_a, .int w_there, .int w_free, .int w_held, .int w_wind, .int w_oil, .int w_hour, .int w_sights, .int w_agreedTo, .int w_refused])), (w_near_a, .inl (cI, 7, .inl w_near)), (pt_a, .inl (cI, 8, .inl pt))])) (F0 m 35 ls []) := by
      intro k35
      induction k35 with
      | zero =>
        intro i35 r2_35 v5_35 h35  H locs hP hD hS ls hl hR
        obtain rfl : 8 = i35 := by omega
        rw [lp_X4_cf6_35] at hR
        refine lv_iload hx hb dX4_countFrom_35 (lv_at hl 0 rfl) ?_
        refine lv_iload_n hx hb dX4_countFrom_37 rfl (lv_at hl 5 rfl) ?_
        refine lv_icmp_gt (tgt := 147) hx hb dX4_countFrom_38 (by decide) (fun c38 => ?_) (fun c38 => ?_)
        · subst hR
          exact hexit35 _ _ hP hD hS _ (lv_sub hl [1, 2, 3, 4, 5, 6] rfl)
        · refine lv_iload hx hb dX4_countFrom_41 (lv_at hl 0 rfl) ?_
          refine lv_iload hx hb dX4_countFrom_43 (lv_at hl 6 rfl) ?_
          refine lv_icmp_ge (tgt := 147) hx hb dX4_countFrom_45 (by decide) (fun c45 => ?_) (fun c45 => ?_)
          · subst hR
            exact hexit35 _ _ hP hD hS _ (lv_sub hl [1, 2, 3, 4, 5, 6] rfl)
          · refine lv_iload hx hb dX4_countFrom_48 (lv_at hl 0 rfl) ?_
            refine lv_bipush (v := (8 : Int32)) hx hb dX4_countFrom_50 (by decide +kernel) ?_
            refine lv_icmp_ge (tgt := 147) hx hb dX4_countFrom_52 (by decide) (fun _ => ?_) (fun h => absurd (cle_t (a := 8) (b := 8) rfl rfl (by omega) (by omega)) h)
            subst hR
            exact hexit35 _ _ hP hD hS _ (lv_sub hl [1, 2, 3, 4, 5, 6] rfl)
      | succ k35 ih35 =>
        intro i35 r2_35 v5_35 h35  H locs hP hD hS ls hl hR
        rw [lp_X4_cf6_35] at hR
        refine lv_iload hx hb dX4_countFrom_35 (lv_at hl 0 rfl) ?_
        refine lv_iload_n hx hb dX4_countFrom_37 rfl (lv_at hl 5 rfl) ?_
        refine lv_icmp_gt (tgt := 147) hx hb dX4_countFrom_38 (by decide) (fun c38 => ?_) (fun c38 => ?_)
        · rw [if_pos c38] at hR
          subst hR
          exact hexit35 _ _ hP hD hS _ (lv_sub hl [1, 2, 3, 4, 5, 6] rfl)
        · rw [if_neg c38] at hR
          refine lv_iload hx hb dX4_countFrom_41 (lv_at hl 0 rfl) ?_
          refine lv_iload hx hb dX4_countFrom_43 (lv_at hl 6 rfl) ?_
          refine lv_icmp_ge (tgt := 147) hx hb dX4_countFrom_45 (by decide) (fun c45 => ?_) (fun c45 => ?_)
          · rw [if_pos c45] at hR
            subst hR
            exact hexit35 _ _ hP hD hS _ (lv_sub hl [1, 2, 3, 4, 5, 6] rfl)
          · rw [if_neg c45] at hR
            refine lv_iload hx hb dX4_countFrom_48 (lv_at hl 0 rfl) ?_
            refine lv_bipush (v := (8 : Int32)) hx hb dX4_countFrom_50 (by decide +kernel) ?_
            refine lv_icmp_ge (tgt := 147) hx hb dX4_countFrom_52 (by decide) (fun h => absurd h (cle_f (a := 8) (b := i35) rfl rfl (by omega) (by omega))) (fun _ => ?_)
            refine lv_aload_n hx hb dX4_countFrom_55 rfl (lv_at hl 3 rfl) ?_
            refine lv_iload hx hb dX4_countFrom_56 (lv_at hl 0 rfl) ?_
            refine ia_ld hx hb hK hP 2 rfl (i := i35) (by omega) (by decide) dX4_countFrom_58 ?_
            refine lv_aload_n hx hb dX4_countFrom_59 rfl (lv_at hl 2 rfl) ?_
            refine va_getN (D := D) (ci := 7) (v := .ref w_near_a) (C := RX7) (T := TX7) (N := 12) hx hb hts in_X4_countFrom_X7 hown hK.1 hP 0 rfl rfl 2 (by decide) (va_Nw.use rfl (hK.2 _ gN_3)) (fun _ h9 => h9) rfl dX4_countFrom_60 ?_
            refine lv_iload_n hx hb dX4_countFrom_63 rfl (lv_at hl 4 rfl) ?_
            refine ia_ld hx hb hK hP 1 rfl (i := 6) (by omega) (by decide) dX4_countFrom_64 ?_
            refine lv_iand hx hb dX4_countFrom_65 ?_
            refine lv_if_eq (tgt := 72) hx hb dX4_countFrom_66 (by decide) (fun c66 => ?_) (fun c66 => ?_)
            · rw [if_pos c66] at hR
              refine lv_aload_n hx hb dX4_countFrom_72 rfl (lv_at hl 3 rfl) ?_
              refine lv_iload hx hb dX4_countFrom_73 (lv_at hl 0 rfl) ?_
              refine lv_aload_n hx hb dX4_countFrom_75 rfl (lv_at hl 3 rfl) ?_
              refine lv_iload hx hb dX4_countFrom_76 (lv_at hl 0 rfl) ?_
              refine ia_ld hx hb hK hP 2 rfl (i := i35) (by omega) (by decide) dX4_countFrom_78 ?_
              refine lv_iload_n hx hb dX4_countFrom_79 rfl (lv_at hl 4 rfl) ?_
              refine lv_iconst (v := (1 : Int32)) hx hb dX4_countFrom_80 (by decide) ?_
              refine ro_SN (As := [.int (r2_35 i35), .int (6 : Int32), .int (1 : Int32)]) (rest := [.int (nI i35), .ref pt_a]) ⟨hx, hb, hml, hown, hts⟩ hK (c_X8_withBit l D cI cJ cZ (r2_35 i35) (6 : Int32) (1 : Int32)) va_P_nil (va_cnB 3 hts gX4_countFrom_X8_withBit_n39 rfl rfl rfl (hK.2 _ gN_46) hq0 hd_X8_withBit ⟨(Nat.le_of_ble_eq_true rfl), (Nat.le_of_ble_eq_true rfl)⟩) hq2 rfl hl.1 rfl (Nat.le_of_ble_eq_true rfl) dX4_countFrom_81 (Nat.zero_le _) (Nat.zero_le _) ?_
              refine ia_st hx hb hK hP hD hS 2 rfl (i := i35) (by omega) (by decide) dX4_countFrom_84 (fun H locs hP hD hS => ?_)
              have hP : va_P D vwCl [(w, .inr (7, [.ref w_points_a, .ref w_tired_a, .ref w_near_a, .int w_there, .int w_free, .int w_held, .int w_wind, .int w_oil, .int w_hour, .int w_sights, .int w_agreedTo, .int w_refused])), (w_near_a, .inl (cI, 7, .inl w_near)), (pt_a, .inl (cI, 8, .inl (upd r2_35 i35 (f_X8_withBit (r2_35 i35) (6 : Int32) (1 : Int32)))))] H := hP
              have hD : va_D _ [(w, .inr (7, [.ref w_points_a, .ref w_tired_a, .ref w_near_a, .int w_there, .int w_free, .int w_held, .int w_wind, .int w_oil, .int w_hour, .int w_sights, .int w_agreedTo, .int w_refused])), (w_near_a, .inl (cI, 7, .inl w_near)), (pt_a, .inl (cI, 8, .inl (upd r2_35 i35 (f_X8_withBit (r2_35 i35) (6 : Int32) (1 : Int32)))))] := hD
              refine lv_aload_n hx hb dX4_countFrom_85 rfl (lv_at hl 2 rfl) ?_
              refine lv_aload_n hx hb dX4_countFrom_86 rfl (lv_at hl 3 rfl) ?_
              refine lv_iload_n hx hb dX4_countFrom_87 rfl (lv_at hl 4 rfl) ?_
              refine lv_iconst (v := (1 : Int32)) hx hb dX4_countFrom_88 (by decide) ?_
              refine lv_iadd hx hb dX4_countFrom_89 ?_
              rw [show ((6 : Int32) + (1 : Int32)) = (7 : Int32) from nI_add 6 1]
              refine lv_iload_n hx hb dX4_countFrom_90 rfl (lv_at hl 5 rfl) ?_
              refine lv_iload hx hb dX4_countFrom_91 (lv_at hl 0 rfl) ?_
              refine lv_iconst (v := (1 : Int32)) hx hb dX4_countFrom_93 (by decide) ?_
              refine lv_iadd hx hb dX4_countFrom_94 ?_
              rw [show ((nI i35) + (1 : Int32)) = (nI (i35 + 1)) from nI_add i35 1]
              refine va_mmax (rest := [.int (7 : Int32), .ref pt_a, .ref w]) hx hb (hml.trans hl.1.symm) hown hq3 hq4 hq5 hq6 (Nat.le_of_ble_eq_true rfl) (Nat.le_of_ble_eq_true rfl) (Nat.zero_le _) (Nat.zero_le _) dX4_countFrom_95 ?_
              refine lv_iload hx hb dX4_countFrom_98 (lv_at hl 6 rfl) ?_
              refine ro_S (As := [.ref w, .ref pt_a, .int (7 : Int32), .int (if xu < (nI (i35 + 1)) then (nI (i35 + 1)) else xu), .int xn]) (rest := []) ⟨hx, hb, hml, hown, hts⟩ hK (c_X4_cf7 l D cI cJ cZ w w_points_a w_tired_a w_near_a w_there w_free w_held w_wind w_oil w_hour w_sights w_agreedTo w_refused w_near pt_a (upd r2_35 i35 (f_X8_withBit (r2_35 i35) (6 : Int32) (1 : Int32))) (if xu < (nI (i35 + 1)) then (nI (i35 + 1)) else xu) xn) (rw_sub hP [0, 1, 2] rfl) (va_cwS 5 hts gX4_countFrom_X4_countFrom rfl rfl rfl hd_X4_countFrom ⟨(Nat.le_of_ble_eq_true rfl), (Nat.le_of_ble_eq_true rfl)⟩) rfl hl.1 rfl (Nat.le_of_ble_eq_true rfl) dX4_countFrom_100 (Nat.zero_le _) (Nat.zero_le _) ?_
              refine lv_istore (lv' := [(7, .int f_X4_cf7), (6, .int (nI i35)), (5, .int v5_35), (0, .ref w), (1, .ref pt_a), (2, .int (6 : Int32)), (3, .int xu), (4, .int xn)]) hx hb dX4_countFrom_103 hl (by decide) rfl (fun ls hl => ?_)
              refine lv_aload_n hx hb dX4_countFrom_105 rfl (lv_at hl 4 rfl) ?_
              refine lv_iload hx hb dX4_countFrom_106 (lv_at hl 1 rfl) ?_
              refine lv_aload_n hx hb dX4_countFrom_108 rfl (lv_at hl 4 rfl) ?_
              refine lv_iload hx hb dX4_countFrom_109 (lv_at hl 1 rfl) ?_
              refine ia_ld hx hb hK hP 2 rfl (i := i35) (by omega) (by decide) dX4_countFrom_111 ?_
              refine lv_iload_n hx hb dX4_countFrom_112 rfl (lv_at hl 5 rfl) ?_
              refine lv_iconst (v := (0 : Int32)) hx hb dX4_countFrom_113 (by decide) ?_
              refine ro_SN (As := [.int ((upd r2_35 i35 (f_X8_withBit (r2_35 i35) (6 : Int32) (1 : Int32))) i35), .int (6 : Int32), .int (0 : Int32)]) (rest := [.int (nI i35), .ref pt_a]) ⟨hx, hb, hml, hown, hts⟩ hK (c_X8_withBit l D cI cJ cZ ((upd r2_35 i35 (f_X8_withBit (r2_35 i35) (6 : Int32) (1 : Int32))) i35) (6 : Int32) (0 : Int32)) va_P_nil (va_cnB 3 hts gX4_countFrom_X8_withBit_n39 rfl rfl rfl (hK.2 _ gN_46) hq0 hd_X8_withBit ⟨(Nat.le_of_ble_eq_true rfl), (Nat.le_of_ble_eq_true rfl)⟩) hq2 rfl hl.1 rfl (Nat.le_of_ble_eq_true rfl) dX4_countFrom_114 (Nat.zero_le _) (Nat.zero_le _) ?_
              refine ia_st hx hb hK hP hD hS 2 rfl (i := i35) (by omega) (by decide) dX4_countFrom_117 (fun H locs hP hD hS => ?_)
              have hP : va_P D vwCl [(w, .inr (7, [.ref w_points_a, .ref w_tired_a, .ref w_near_a, .int w_there, .int w_free, .int w_held, .int w_wind, .int w_oil, .int w_hour, .int w_sights, .int w_agreedTo, .int w_refused])), (w_near_a, .inl (cI, 7, .inl w_near)), (pt_a, .inl (cI, 8, .inl (upd (upd r2_35 i35 (f_X8_withBit (r2_35 i35) (6 : Int32) (1 : Int32))) i35 (f_X8_withBit ((upd r2_35 i35 (f_X8_withBit (r2_35 i35) (6 : Int32) (1 : Int32))) i35) (6 : Int32) (0 : Int32)))))] H := hP
              have hD : va_D _ [(w, .inr (7, [.ref w_points_a, .ref w_tired_a, .ref w_near_a, .int w_there, .int w_free, .int w_held, .int w_wind, .int w_oil, .int w_hour, .int w_sights, .int w_agreedTo, .int w_refused])), (w_near_a, .inl (cI, 7, .inl w_near)), (pt_a, .inl (cI, 8, .inl (upd (upd r2_35 i35 (f_X8_withBit (r2_35 i35) (6 : Int32) (1 : Int32))) i35 (f_X8_withBit ((upd r2_35 i35 (f_X8_withBit (r2_35 i35) (6 : Int32) (1 : Int32))) i35) (6 : Int32) (0 : Int32)))))] := hD
              refine lv_iload hx hb dX4_countFrom_118 (lv_at hl 2 rfl) ?_
              refine lv_iload hx hb dX4_countFrom_120 (lv_at hl 1 rfl) ?_
              refine lv_iload_n hx hb dX4_countFrom_122 rfl (lv_at hl 6 rfl) ?_
              refine lv_icmp_ne (tgt := 136) hx hb dX4_countFrom_123 (by decide) (fun c123 => ?_) (fun c123 => ?_)
              · rw [if_neg c123] at hR
                refine lv_iload hx hb dX4_countFrom_136 (lv_at hl 0 rfl) ?_
                refine lv_iadd hx hb dX4_countFrom_138 ?_
                refine lv_istore (lv' := [(5, .int (v5_35 + f_X4_cf7)), (7, .int f_X4_cf7), (6, .int (nI i35)), (0, .ref w), (1, .ref pt_a), (2, .int (6 : Int32)), (3, .int xu), (4, .int xn)]) hx hb dX4_countFrom_139 hl (by decide) rfl (fun ls hl => ?_)
                refine lv_iinc (v := (nI (i35 + 1))) (lv' := [(6, .int (nI (i35 + 1))), (5, .int (v5_35 + f_X4_cf7)), (7, .int f_X4_cf7), (0, .ref w), (1, .ref pt_a), (2, .int (6 : Int32)), (3, .int xu), (4, .int xn)]) hx hb dX4_countFrom_141 hl (k := 2) rfl (by exact nI_add i35 1) (by decide) rfl (fun ls hl => ?_)
                refine lv_goto (tgt := 35) hx hb dX4_countFrom_144 (by decide) ?_
                exact ih35 _ _ _ (by omega) _ _ hP hD hS _ (lv_sub hl [0, 1, 3, 4, 5, 6, 7] rfl) hR
              · rw [if_pos c123] at hR
                refine lv_iload hx hb dX4_countFrom_126 (lv_at hl 7 rfl) ?_
                refine lv_iload_n hx hb dX4_countFrom_128 rfl (lv_at hl 6 rfl) ?_
                refine lv_isub hx hb dX4_countFrom_129 ?_
                refine lv_iload hx hb dX4_countFrom_130 (lv_at hl 0 rfl) ?_
                refine lv_imul hx hb dX4_countFrom_132 ?_
                refine lv_goto (tgt := 138) hx hb dX4_countFrom_133 (by decide) ?_
                refine lv_iadd hx hb dX4_countFrom_138 ?_
                refine lv_istore (lv' := [(5, .int (v5_35 + ((xn - xu) * f_X4_cf7))), (7, .int f_X4_cf7), (6, .int (nI i35)), (0, .ref w), (1, .ref pt_a), (2, .int (6 : Int32)), (3, .int xu), (4, .int xn)]) hx hb dX4_countFrom_139 hl (by decide) rfl (fun ls hl => ?_)
                refine lv_iinc (v := (nI (i35 + 1))) (lv' := [(6, .int (nI (i35 + 1))), (5, .int (v5_35 + ((xn - xu) * f_X4_cf7))), (7, .int f_X4_cf7), (0, .ref w), (1, .ref pt_a), (2, .int (6 : Int32)), (3, .int xu), (4, .int xn)]) hx hb dX4_countFrom_141 hl (k := 2) rfl (by exact nI_add i35 1) (by decide) rfl (fun ls hl => ?_)
                refine lv_goto (tgt := 35) hx hb dX4_countFrom_144 (by decide) ?_
                exact ih35 _ _ _ (by omega) _ _ hP hD hS _ (lv_sub hl [0, 1, 3, 4, 5, 6, 7] rfl) hR
            · rw [if_neg c66] at hR
              refine lv_goto (tgt := 141) hx hb dX4_countFrom_69 (by decide) ?_
              refine lv_iinc (v := (nI (i35 + 1))) (lv' := [(6, .int (nI (i35 + 1))), (5, .int v5_35), (0, .ref w), (1, .ref pt_a), (2, .int (6 : Int32)), (3, .int xu), (4, .int xn)]) hx hb dX4_countFrom_141 hl (k := 0) rfl (by exact nI_add i35 1) (by decide) rfl (fun ls hl => ?_)
              refine lv_goto (tgt := 35) hx hb dX4_countFrom_144 (by decide) ?_
              exact ih35 _ _ _ (by omega) _ _ hP hD hS _ (lv_sub hl [0, 1, 2, 3, 4, 5, 6] rfl) hR
    exact hloop35 8 0 _ _ (by omega) _ _ hP hD hS _ hl hF35_1
  · rw [if_pos c14] at hR
    refine lv_aload_n hx hb dX4_countFrom_17 rfl (lv_at hl 0 rfl) ?_
    refine lv_aload_n hx hb dX4_countFrom_18 rfl (lv_at hl 1 rfl) ?_
    refine lv_iload_n hx hb dX4_countFrom_19 rfl (lv_at hl 2 rfl) ?_
    refine lv_iconst (v := (1 : Int32)) hx hb dX4_countFrom_20 (by decide) ?_
    refine lv_iadd hx hb dX4_countFrom_21 ?_
    rw [show ((6 : Int32) + (1 : Int32)) = (7 : Int32) from nI_add 6 1]
    refine lv_iload_n hx hb dX4_countFrom_22 rfl (lv_at hl 3 rfl) ?_
    refine lv_iload hx hb dX4_countFrom_23 (lv_at hl 4 rfl) ?_
    refine ro_S (As := [.ref w, .ref pt_a, .int (7 : Int32), .int xu, .int xn]) (rest := []) ⟨hx, hb, hml, hown, hts⟩ hK (c_X4_cf7 l D cI cJ cZ w w_points_a w_tired_a w_near_a w_there w_free w_held w_wind w_oil w_hour w_sights w_agreedTo w_refused w_near pt_a pt xu xn) (rw_sub hP [0, 1, 2] rfl) (va_cwS 5 hts gX4_countFrom_X4_countFrom rfl rfl rfl hd_X4_countFrom ⟨(Nat.le_of_ble_eq_true rfl), (Nat.le_of_ble_eq_true rfl)⟩) rfl hl.1 rfl (Nat.le_of_ble_eq_true rfl) dX4_countFrom_25 (Nat.zero_le _) (Nat.zero_le _) ?_
    obtain ⟨rfl, rfl⟩ := prodI2 hR
    exact rw_iret hx hb hr hlocks hP hS dX4_countFrom_28


def lp_X4_cf5_35 (w_there : Int32) (w_near : Nat → Int32) (xu : Int32) (xn : Int32) : Nat → Nat → (Nat → Int32) → Int32 → (Nat → Int32) × Int32
  | 0, _, r2_35, v5_35 => (r2_35, v5_35)
  | k35 + 1, i35, r2_35, v5_35 => (if (xu < (nI i35)) then (r2_35, v5_35) else (if (xn ≤ (nI i35)) then (r2_35, v5_35) else (if (((r2_35 i35) &&& (w_near 5)) = 0) then (if ((nI i35) = xu) then (lp_X4_cf5_35 w_there w_near xu xn k35 (i35 + 1) (upd ((f_X4_cf6 w_there w_near (upd r2_35 i35 (f_X8_withBit (r2_35 i35) (5 : Int32) (1 : Int32))) (if xu < (nI (i35 + 1)) then (nI (i35 + 1)) else xu) xn).2) i35 (f_X8_withBit (((f_X4_cf6 w_there w_near (upd r2_35 i35 (f_X8_withBit (r2_35 i35) (5 : Int32) (1 : Int32))) (if xu < (nI (i35 + 1)) then (nI (i35 + 1)) else xu) xn).2) i35) (5 : Int32) (0 : Int32))) (v5_35 + ((xn - xu) * ((f_X4_cf6 w_there w_near (upd r2_35 i35 (f_X8_withBit (r2_35 i35) (5 : Int32) (1 : Int32))) (if xu < (nI (i35 + 1)) then (nI (i35 + 1)) else xu) xn).1)))) else (lp_X4_cf5_35 w_there w_near xu xn k35 (i35 + 1) (upd ((f_X4_cf6 w_there w_near (upd r2_35 i35 (f_X8_withBit (r2_35 i35) (5 : Int32) (1 : Int32))) (if xu < (nI (i35 + 1)) then (nI (i35 + 1)) else xu) xn).2) i35 (f_X8_withBit (((f_X4_cf6 w_there w_near (upd r2_35 i35 (f_X8_withBit (r2_35 i35) (5 : Int32) (1 : Int32))) (if xu < (nI (i35 + 1)) then (nI (i35 + 1)) else xu) xn).2) i35) (5 : Int32) (0 : Int32))) (v5_35 + ((f_X4_cf6 w_there w_near (upd r2_35 i35 (f_X8_withBit (r2_35 i35) (5 : Int32) (1 : Int32))) (if xu < (nI (i35 + 1)) then (nI (i35 + 1)) else xu) xn).1)))) else (lp_X4_cf5_35 w_there w_near xu xn k35 (i35 + 1) r2_35 v5_35))))
def f_X4_cf5 (w_there : Int32) (w_near : Nat → Int32) (pt : Nat → Int32) (xu : Int32) (xn : Int32) : Int32 × (Nat → Int32) :=
  (if ((f_X7_isThere w_there (5 : Int32)) = 0) then (((f_X4_cf6 w_there w_near pt xu xn).1), ((f_X4_cf6 w_there w_near pt xu xn).2)) else ((lp_X4_cf5_35 w_there w_near xu xn 8 0 pt (0 : Int32)).2, (lp_X4_cf5_35 w_there w_near xu xn 8 0 pt (0 : Int32)).1))
set_option maxHeartbeats 4000000 in
set_option maxRecDepth 100000 in
theorem c_X4_cf5 (l : Launch) (D : va_G) (cI cJ cZ : ClassId) (w : Nat) (w_points_a : Nat) (w_tired_a : Nat) (w_near_a : Nat) (w_there : Int32) (w_free : Int32) (w_held : Int32) (w_wind : Int32) (w_oil : Int32) (w_hour : Int32) (w_sights : Int32) (w_agreedTo : Int32) (w_refused : Int32) (w_near : Nat → Int32) (pt_a : Nat) (pt : Nat → Int32) (xu : Int32) (xn : Int32) : RW l yX4_countFrom wsX4_countFrom ({ frames := 4, cells := 0, slots := 0, locals := 95 }) [.ref w, .ref pt_a, .int (5 : Int32), .int xu, .int xn] D cI cJ cZ [(w, .inr (7, [.ref w_points_a, .ref w_tired_a, .ref w_near_a, .int w_there, .int w_free, .int w_held, .int w_wind, .int w_oil, .int w_hour, .int w_sights, .int w_agreedTo, .int w_refused])), (w_near_a, .inl (cI, 7, .inl w_near)), (pt_a, .inl (cI, 8, .inl pt))] (some (.int ((f_X4_cf5 w_there w_near pt xu xn).1))) [(w, .inr (7, [.ref w_points_a, .ref w_tired_a, .ref w_near_a, .int w_there, .int w_free, .int w_held, .int w_wind, .int w_oil, .int w_hour, .int w_sights, .int w_agreedTo, .int w_refused])), (w_near_a, .inl (cI, 7, .inl w_near)), (pt_a, .inl (cI, 8, .inl ((f_X4_cf5 w_there w_near pt xu xn).2)))] := by
  obtain ⟨R0, R1, hR⟩ := prodE2 (f_X4_cf5 w_there w_near pt xu xn)
  rw [hR]
  dsimp only
  refine rw_start (cc := cX4_countFrom) (maxL := 8) (ret := (some .int)) (by decide) rfl (Nat.le_of_ble_eq_true rfl) ?_
  intro p e s m args below meth c hx hb hr hml hown hts hlocks hP hD hS hK ls hl
  have hown : s.vm.findClass RX4 = some m.cls := hown
  have hl : lv_has ls 8 [(0, .ref w), (1, .ref pt_a), (2, .int (5 : Int32)), (3, .int xu), (4, .int xn)] := hl
  have hq0 := hts (.initialized RX8) (by decide +kernel)
  have hq1 := hts (.static yX8_isParish) (by decide +kernel)
  have hq2 := hts (.static yX8_withBit) (by decide +kernel)
  have hq3 := hts (.methodLink RX4 43 Lib.Math.max.name) (by decide +kernel)
  have hq4 := hts (.static Lib.Math.max.name) (by decide +kernel)
  have hq5 := hts (.initialized "java/lang/Math") (by decide +kernel)
  have hq6 := hts (.code Lib.Math.max.name Lib.Math.max.code 2 (some .int)) (by decide +kernel)
  rw [f_X4_cf5] at hR
  refine lv_iload_n hx hb dX4_countFrom_0 rfl (lv_at hl 2 rfl) ?_
  refine ro_SN (As := [.int (5 : Int32)]) (rest := []) ⟨hx, hb, hml, hown, hts⟩ hK (c_X8_isParish l D cI cJ cZ (5 : Int32)) va_P_nil (va_cnB 1 hts gX4_countFrom_X8_isParish_n29 rfl rfl rfl (hK.2 _ gN_45) hq0 hd_X8_isParish ⟨(Nat.le_of_ble_eq_true rfl), (Nat.le_of_ble_eq_true rfl)⟩) hq1 rfl hl.1 rfl (Nat.le_of_ble_eq_true rfl) dX4_countFrom_1 (Nat.zero_le _) (Nat.zero_le _) ?_
  refine lv_if_ne (tgt := 9) hx hb dX4_countFrom_4 (by decide) (fun _ => ?_) (fun h => absurd h (by decide))
  refine lv_aload_n hx hb dX4_countFrom_9 rfl (lv_at hl 0 rfl) ?_
  refine lv_iload_n hx hb dX4_countFrom_10 rfl (lv_at hl 2 rfl) ?_
  refine ro_V (As := [.int (5 : Int32)]) (rest := []) ⟨hx, hb, hml, hown, hts⟩ hK (c_X7_isThere l D cI cJ cZ w w_points_a w_tired_a w_near_a w_there w_free w_held w_wind w_oil w_hour w_sights w_agreedTo w_refused (5 : Int32)) hP 0 rfl rfl (rw_sub hP [0] rfl) (cwV 1 hts gX4_countFrom_X7_isThere rfl rfl rfl ⟨rfl, hd_X7_isThere⟩ ⟨(Nat.le_of_ble_eq_true rfl), (Nat.le_of_ble_eq_true rfl)⟩) rfl hl.1 rfl (Nat.le_of_ble_eq_true rfl) dX4_countFrom_11 (Nat.zero_le _) (Nat.zero_le _) ?_
  refine lv_if_ne (tgt := 29) hx hb dX4_countFrom_14 (by decide) (fun c14 => ?_) (fun c14 => ?_)
  · rw [if_neg c14] at hR
    refine lv_iconst (v := (0 : Int32)) hx hb dX4_countFrom_29 (by decide) ?_
    refine lv_istore (lv' := [(5, .int (0 : Int32)), (0, .ref w), (1, .ref pt_a), (2, .int (5 : Int32)), (3, .int xu), (4, .int xn)]) hx hb dX4_countFrom_30 hl (by decide) rfl (fun ls hl => ?_)
    refine lv_iconst (v := (0 : Int32)) hx hb dX4_countFrom_32 (by decide) ?_
    refine lv_istore (lv' := [(6, .int (0 : Int32)), (5, .int (0 : Int32)), (0, .ref w), (1, .ref pt_a), (2, .int (5 : Int32)), (3, .int xu), (4, .int xn)]) hx hb dX4_countFrom_33 hl (by decide) rfl (fun ls hl => ?_)
    obtain ⟨F35_1, hF35_1⟩ : ∃ x, (lp_X4_cf5_35 w_there w_near xu xn 8 0 pt (0 : Int32)) = x := ⟨_, rfl⟩
    try rw [hF35_1] at hR
    have hexit35 : ∀ (H : Heap) (locs : List Loc), va_P D vwCl [(w, .inr (7, [.ref w_points_a, .ref w_tired_a, .ref w_near_a, .int w_there, .int w_free, .int w_held, .int w_wind, .int w_oil, .int w_hour, .int w_sights, .int w_agreedTo, .int w_refused])), (w_near_a, .inl (cI, 7, .inl w_near)), (pt_a, .inl (cI, 8, .inl F35_1.1))] H → va_D (va_In [(w, .inr (7, [.ref w_points_a, .ref w_tired_a, .ref w_near_a, .int w_there, .int w_free, .int w_held, .int w_wind, .int w_oil, .int w_hour, .int w_sights, .int w_agreedTo, .int w_refused])), (w_near_a, .inl (cI, 7, .inl w_near)), (pt_a, .inl (cI, 8, .inl pt))]) [(w, .inr (7, [.ref w_points_a, .ref w_tired_a, .ref w_near_a, .int w_there, .int w_free, .int w_held, .int w_wind, .int w_oil, .int w_hour, .int w_sights, .int w_agreedTo, .int w_refused])), (w_near_a, .inl (cI, 7, .inl w_near)), (pt_a, .inl (cI, 8, .inl F35_1.1))] → va_S (va_In [(w, .inr (7, [.ref w_points_a, .ref w_tired_a, .ref w_near_a, .int w_there, .int w_free, .int w_held, .int w_wind, .int w_oil, .int w_hour, .int w_sights, .int w_agreedTo, .int w_refused])), (w_near_a, .inl (cI, 7, .inl w_near)), (pt_a, .inl (cI, 8, .inl pt))]) s.heap H locs → ∀ (ls : Array Slot), lv_has ls 8 [(5, .int F35_1.2), (0, .ref w), (1, .ref pt_a), (2, .int (5 : Int32)), (3, .int xu), (4, .int xn)] → W p l e ({ frames := 4, cells := 0, slots := 0, locals := 95 }) s m args below meth c H locs 0 0 (MQ below (rw_Q D (some (.int R0)) [(w, .inr (7, [.ref w_points_a, .ref w_tired_a, .ref w_near_a, .int w_there, .int w_free, .int w_held, .int w_wind, .int w_oil, .int w_hour, .int w_sights, .int w_agreedTo, .int w_refused])), (w_near_a, .inl (cI, 7, .inl w_near)), (pt_a, .inl (cI, 8, .inl pt))] [(w, .inr (7, [.ref w_points_a, .ref w_tired_a, .ref w_near_a, .int w_there, .int w_free, .int w_held, .int w_wind, .int w_oil, .int w_hour, .int w_sights, .int w_agreedTo, .int w_refused])), (w_near_a, .inl (cI, 7, .inl w_near)), (pt_a, .inl (cI, 8, .inl R1))]) args s 0 0 (va_In [(w, .inr (7, [.ref w_points_a, .ref w_tired_a, .ref w_near_a, .int w_there, .int w_free, .int w_held, .int w_wind, .int w_oil, .int w_hour, .int w_sights, .int w_agreedTo, .int w_refused])), (w_near_a, .inl (cI, 7, .inl w_near)), (pt_a, .inl (cI, 8, .inl pt))])) (F0 m 147 ls []) := by
      intro H locs hP hD hS ls hl
      refine lv_iload hx hb dX4_countFrom_147 (lv_at hl 0 rfl) ?_
      obtain ⟨rfl, rfl⟩ := prodI2 hR
      exact rw_iret hx hb hr hlocks hP hS dX4_countFrom_149
    have hloop35 : ∀ (k35 i35 : Nat) (r2_35 : Nat → Int32) (v5_35 : Int32), i35 + k35 = 8 → ∀ (H : Heap) (locs : List Loc), va_P D vwCl [(w, .inr (7, [.ref w_points_a, .ref w_tired_a, .ref w_near_a, .int w_there, .int w_free, .int w_held, .int w_wind, .int w_oil, .int w_hour, .int w_sights, .int w_agreedTo, .int w_refused])), (w_near_a, .inl (cI, 7, .inl w_near)), (pt_a, .inl (cI, 8, .inl r2_35))] H → va_D (va_In [(w, .inr (7, [.ref w_points_a, .ref w_tired_a, .ref w_near_a, .int w_there, .int w_free, .int w_held, .int w_wind, .int w_oil, .int w_hour, .int w_sights, .int w_agreedTo, .int w_refused])), (w_near_a, .inl (cI, 7, .inl w_near)), (pt_a, .inl (cI, 8, .inl pt))]) [(w, .inr (7, [.ref w_points_a, .ref w_tired_a, .ref w_near_a, .int w_there, .int w_free, .int w_held, .int w_wind, .int w_oil, .int w_hour, .int w_sights, .int w_agreedTo, .int w_refused])), (w_near_a, .inl (cI, 7, .inl w_near)), (pt_a, .inl (cI, 8, .inl r2_35))] → va_S (va_In [(w, .inr (7, [.ref w_points_a, .ref w_tired_a, .ref w_near_a, .int w_there, .int w_free, .int w_held, .int w_wind, .int w_oil, .int w_hour, .int w_sights, .int w_agreedTo, .int w_refused])), (w_near_a, .inl (cI, 7, .inl w_near)), (pt_a, .inl (cI, 8, .inl pt))]) s.heap H locs → ∀ (ls : Array Slot), lv_has ls 8 [(6, .int (nI i35)), (5, .int v5_35), (0, .ref w), (1, .ref pt_a), (2, .int (5 : Int32)), (3, .int xu), (4, .int xn)] → lp_X4_cf5_35 w_there w_near xu xn k35 i35 r2_35 v5_35 = F35_1 → W p l e ({ frames := 4, cells := 0, slots := 0, locals := 95 }) s m args below meth c H locs 0 0 (MQ below (rw_Q D (some (.int R0)) [(w, .inr (7, [.ref w_points_a, .ref w_tired_a, .ref w_near_a, .int w_there, .int w_free, .int w_held, .int w_wind, .int w_oil, .int w_hour, .int w_sights, .int w_agreedTo, .int w_refused])), (w_near_a, .inl (cI, 7, .inl w_near)), (pt_a, .inl (cI, 8, .inl pt))] [(w, .inr (7, [.ref w_points_a, .ref w_tired_a, .ref w_near_a, .int w_there, .int w_free, .int w_held, .int w_wind, .int w_oil, .int w_hour, .int w_sights, .int w_agreedTo, .int w_refused])), (w_near_a, .inl (cI, 7, .inl w_near)), (pt_a, .inl (cI, 8, .inl R1))]) args s 0 0 (va_In [(w, .inr (7, [.ref w_points_a, .ref w_tired_a, .ref w_near_a, .int w_there, .int w_free, .int w_held, .int w_wind, .int w_oil, .int w_hour, .int w_sights, .int w_agreedTo, .int w_refused])), (w_near_a, .inl (cI, 7, .inl w_near)), (pt_a, .inl (cI, 8, .inl pt))])) (F0 m 35 ls []) := by
      intro k35
      induction k35 with
      | zero =>
        intro i35 r2_35 v5_35 h35  H locs hP hD hS ls hl hR
        obtain rfl : 8 = i35 := by omega
        rw [lp_X4_cf5_35] at hR
        refine lv_iload hx hb dX4_countFrom_35 (lv_at hl 0 rfl) ?_
        refine lv_iload_n hx hb dX4_countFrom_37 rfl (lv_at hl 5 rfl) ?_
        refine lv_icmp_gt (tgt := 147) hx hb dX4_countFrom_38 (by decide) (fun c38 => ?_) (fun c38 => ?_)
        · subst hR
          exact hexit35 _ _ hP hD hS _ (lv_sub hl [1, 2, 3, 4, 5, 6] rfl)
        · refine lv_iload hx hb dX4_countFrom_41 (lv_at hl 0 rfl) ?_
          refine lv_iload hx hb dX4_countFrom_43 (lv_at hl 6 rfl) ?_
          refine lv_icmp_ge (tgt := 147) hx hb dX4_countFrom_45 (by decide) (fun c45 => ?_) (fun c45 => ?_)
          · subst hR
            exact hexit35 _ _ hP hD hS _ (lv_sub hl [1, 2, 3, 4, 5, 6] rfl)
          · refine lv_iload hx hb dX4_countFrom_48 (lv_at hl 0 rfl) ?_
            refine lv_bipush (v := (8 : Int32)) hx hb dX4_countFrom_50 (by decide +kernel) ?_
            refine lv_icmp_ge (tgt := 147) hx hb dX4_countFrom_52 (by decide) (fun _ => ?_) (fun h => absurd (cle_t (a := 8) (b := 8) rfl rfl (by omega) (by omega)) h)
            subst hR
            exact hexit35 _ _ hP hD hS _ (lv_sub hl [1, 2, 3, 4, 5, 6] rfl)
      | succ k35 ih35 =>
        intro i35 r2_35 v5_35 h35  H locs hP hD hS ls hl hR
        rw [lp_X4_cf5_35] at hR
        refine lv_iload hx hb dX4_countFrom_35 (lv_at hl 0 rfl) ?_
        refine lv_iload_n hx hb dX4_countFrom_37 rfl (lv_at hl 5 rfl) ?_
        refine lv_icmp_gt (tgt := 147) hx hb dX4_countFrom_38 (by decide) (fun c38 => ?_) (fun c38 => ?_)
        · rw [if_pos c38] at hR
          subst hR
          exact hexit35 _ _ hP hD hS _ (lv_sub hl [1, 2, 3, 4, 5, 6] rfl)
        · rw [if_neg c38] at hR
          refine lv_iload hx hb dX4_countFrom_41 (lv_at hl 0 rfl) ?_
          refine lv_iload hx hb dX4_countFrom_43 (lv_at hl 6 rfl) ?_
          refine lv_icmp_ge (tgt := 147) hx hb dX4_countFrom_45 (by decide) (fun c45 => ?_) (fun c45 => ?_)
          · rw [if_pos c45] at hR
            subst hR
            exact hexit35 _ _ hP hD hS _ (lv_sub hl [1, 2, 3, 4, 5, 6] rfl)
          · rw [if_neg c45] at hR
            refine lv_iload hx hb dX4_countFrom_48 (lv_at hl 0 rfl) ?_
            refine lv_bipush (v := (8 : Int32)) hx hb dX4_countFrom_50 (by decide +kernel) ?_
            refine lv_icmp_ge (tgt := 147) hx hb dX4_countFrom_52 (by decide) (fun h => absurd h (cle_f (a := 8) (b := i35) rfl rfl (by omega) (by omega))) (fun _ => ?_)
            refine lv_aload_n hx hb dX4_countFrom_55 rfl (lv_at hl 3 rfl) ?_
            refine lv_iload hx hb dX4_countFrom_56 (lv_at hl 0 rfl) ?_
            refine ia_ld hx hb hK hP 2 rfl (i := i35) (by omega) (by decide) dX4_countFrom_58 ?_
            refine lv_aload_n hx hb dX4_countFrom_59 rfl (lv_at hl 2 rfl) ?_
            refine va_getN (D := D) (ci := 7) (v := .ref w_near_a) (C := RX7) (T := TX7) (N := 12) hx hb hts in_X4_countFrom_X7 hown hK.1 hP 0 rfl rfl 2 (by decide) (va_Nw.use rfl (hK.2 _ gN_3)) (fun _ h9 => h9) rfl dX4_countFrom_60 ?_
            refine lv_iload_n hx hb dX4_countFrom_63 rfl (lv_at hl 4 rfl) ?_
            refine ia_ld hx hb hK hP 1 rfl (i := 5) (by omega) (by decide) dX4_countFrom_64 ?_
            refine lv_iand hx hb dX4_countFrom_65 ?_
            refine lv_if_eq (tgt := 72) hx hb dX4_countFrom_66 (by decide) (fun c66 => ?_) (fun c66 => ?_)
            · rw [if_pos c66] at hR
              refine lv_aload_n hx hb dX4_countFrom_72 rfl (lv_at hl 3 rfl) ?_
              refine lv_iload hx hb dX4_countFrom_73 (lv_at hl 0 rfl) ?_
              refine lv_aload_n hx hb dX4_countFrom_75 rfl (lv_at hl 3 rfl) ?_
              refine lv_iload hx hb dX4_countFrom_76 (lv_at hl 0 rfl) ?_
              refine ia_ld hx hb hK hP 2 rfl (i := i35) (by omega) (by decide) dX4_countFrom_78 ?_
              refine lv_iload_n hx hb dX4_countFrom_79 rfl (lv_at hl 4 rfl) ?_
              refine lv_iconst (v := (1 : Int32)) hx hb dX4_countFrom_80 (by decide) ?_
              refine ro_SN (As := [.int (r2_35 i35), .int (5 : Int32), .int (1 : Int32)]) (rest := [.int (nI i35), .ref pt_a]) ⟨hx, hb, hml, hown, hts⟩ hK (c_X8_withBit l D cI cJ cZ (r2_35 i35) (5 : Int32) (1 : Int32)) va_P_nil (va_cnB 3 hts gX4_countFrom_X8_withBit_n39 rfl rfl rfl (hK.2 _ gN_46) hq0 hd_X8_withBit ⟨(Nat.le_of_ble_eq_true rfl), (Nat.le_of_ble_eq_true rfl)⟩) hq2 rfl hl.1 rfl (Nat.le_of_ble_eq_true rfl) dX4_countFrom_81 (Nat.zero_le _) (Nat.zero_le _) ?_
              refine ia_st hx hb hK hP hD hS 2 rfl (i := i35) (by omega) (by decide) dX4_countFrom_84 (fun H locs hP hD hS => ?_)
              have hP : va_P D vwCl [(w, .inr (7, [.ref w_points_a, .ref w_tired_a, .ref w_near_a, .int w_there, .int w_free, .int w_held, .int w_wind, .int w_oil, .int w_hour, .int w_sights, .int w_agreedTo, .int w_refused])), (w_near_a, .inl (cI, 7, .inl w_near)), (pt_a, .inl (cI, 8, .inl (upd r2_35 i35 (f_X8_withBit (r2_35 i35) (5 : Int32) (1 : Int32)))))] H := hP
              have hD : va_D _ [(w, .inr (7, [.ref w_points_a, .ref w_tired_a, .ref w_near_a, .int w_there, .int w_free, .int w_held, .int w_wind, .int w_oil, .int w_hour, .int w_sights, .int w_agreedTo, .int w_refused])), (w_near_a, .inl (cI, 7, .inl w_near)), (pt_a, .inl (cI, 8, .inl (upd r2_35 i35 (f_X8_withBit (r2_35 i35) (5 : Int32) (1 : Int32)))))] := hD
              refine lv_aload_n hx hb dX4_countFrom_85 rfl (lv_at hl 2 rfl) ?_
              refine lv_aload_n hx hb dX4_countFrom_86 rfl (lv_at hl 3 rfl) ?_
              refine lv_iload_n hx hb dX4_countFrom_87 rfl (lv_at hl 4 rfl) ?_
              refine lv_iconst (v := (1 : Int32)) hx hb dX4_countFrom_88 (by decide) ?_
              refine lv_iadd hx hb dX4_countFrom_89 ?_
              rw [show ((5 : Int32) + (1 : Int32)) = (6 : Int32) from nI_add 5 1]
              refine lv_iload_n hx hb dX4_countFrom_90 rfl (lv_at hl 5 rfl) ?_
              refine lv_iload hx hb dX4_countFrom_91 (lv_at hl 0 rfl) ?_
              refine lv_iconst (v := (1 : Int32)) hx hb dX4_countFrom_93 (by decide) ?_
              refine lv_iadd hx hb dX4_countFrom_94 ?_
              rw [show ((nI i35) + (1 : Int32)) = (nI (i35 + 1)) from nI_add i35 1]
              refine va_mmax (rest := [.int (6 : Int32), .ref pt_a, .ref w]) hx hb (hml.trans hl.1.symm) hown hq3 hq4 hq5 hq6 (Nat.le_of_ble_eq_true rfl) (Nat.le_of_ble_eq_true rfl) (Nat.zero_le _) (Nat.zero_le _) dX4_countFrom_95 ?_
              refine lv_iload hx hb dX4_countFrom_98 (lv_at hl 6 rfl) ?_
              refine rw_S (As := [.ref w, .ref pt_a, .int (6 : Int32), .int (if xu < (nI (i35 + 1)) then (nI (i35 + 1)) else xu), .int xn]) (rest := []) (wr := []) (ws2 := [(w, .inr (7, [.ref w_points_a, .ref w_tired_a, .ref w_near_a, .int w_there, .int w_free, .int w_held, .int w_wind, .int w_oil, .int w_hour, .int w_sights, .int w_agreedTo, .int w_refused])), (w_near_a, .inl (cI, 7, .inl w_near)), (pt_a, .inl (cI, 8, .inl ((f_X4_cf6 w_there w_near (upd r2_35 i35 (f_X8_withBit (r2_35 i35) (5 : Int32) (1 : Int32))) (if xu < (nI (i35 + 1)) then (nI (i35 + 1)) else xu) xn).2)))]) (st1 := [.int ((f_X4_cf6 w_there w_near (upd r2_35 i35 (f_X8_withBit (r2_35 i35) (5 : Int32) (1 : Int32))) (if xu < (nI (i35 + 1)) then (nI (i35 + 1)) else xu) xn).1)]) ⟨hx, hb, hml, hown, hts⟩ hK hP hD hS (c_X4_cf6 l D cI cJ cZ w w_points_a w_tired_a w_near_a w_there w_free w_held w_wind w_oil w_hour w_sights w_agreedTo w_refused w_near pt_a (upd r2_35 i35 (f_X8_withBit (r2_35 i35) (5 : Int32) (1 : Int32))) (if xu < (nI (i35 + 1)) then (nI (i35 + 1)) else xu) xn) [0, 1, 2] [] [0, 1, 2] rfl rfl (by decide) (by decide) rfl rfl rfl (va_cwS 5 hts gX4_countFrom_X4_countFrom rfl rfl rfl hd_X4_countFrom ⟨(Nat.le_of_ble_eq_true rfl), (Nat.le_of_ble_eq_true rfl)⟩) rfl hl.1 rfl (Nat.le_of_ble_eq_true rfl) dX4_countFrom_100 (Nat.zero_le _) (Nat.zero_le _) (fun H locs hP hD hS => ?_)
              refine lv_istore (lv' := [(7, .int ((f_X4_cf6 w_there w_near (upd r2_35 i35 (f_X8_withBit (r2_35 i35) (5 : Int32) (1 : Int32))) (if xu < (nI (i35 + 1)) then (nI (i35 + 1)) else xu) xn).1)), (6, .int (nI i35)), (5, .int v5_35), (0, .ref w), (1, .ref pt_a), (2, .int (5 : Int32)), (3, .int xu), (4, .int xn)]) hx hb dX4_countFrom_103 hl (by decide) rfl (fun ls hl => ?_)
              refine lv_aload_n hx hb dX4_countFrom_105 rfl (lv_at hl 4 rfl) ?_
              refine lv_iload hx hb dX4_countFrom_106 (lv_at hl 1 rfl) ?_
              refine lv_aload_n hx hb dX4_countFrom_108 rfl (lv_at hl 4 rfl) ?_
              refine lv_iload hx hb dX4_countFrom_109 (lv_at hl 1 rfl) ?_
              refine ia_ld hx hb hK hP 2 rfl (i := i35) (by omega) (by decide) dX4_countFrom_111 ?_
              refine lv_iload_n hx hb dX4_countFrom_112 rfl (lv_at hl 5 rfl) ?_
              refine lv_iconst (v := (0 : Int32)) hx hb dX4_countFrom_113 (by decide) ?_
              refine ro_SN (As := [.int (((f_X4_cf6 w_there w_near (upd r2_35 i35 (f_X8_withBit (r2_35 i35) (5 : Int32) (1 : Int32))) (if xu < (nI (i35 + 1)) then (nI (i35 + 1)) else xu) xn).2) i35), .int (5 : Int32), .int (0 : Int32)]) (rest := [.int (nI i35), .ref pt_a]) ⟨hx, hb, hml, hown, hts⟩ hK (c_X8_withBit l D cI cJ cZ (((f_X4_cf6 w_there w_near (upd r2_35 i35 (f_X8_withBit (r2_35 i35) (5 : Int32) (1 : Int32))) (if xu < (nI (i35 + 1)) then (nI (i35 + 1)) else xu) xn).2) i35) (5 : Int32) (0 : Int32)) va_P_nil (va_cnB 3 hts gX4_countFrom_X8_withBit_n39 rfl rfl rfl (hK.2 _ gN_46) hq0 hd_X8_withBit ⟨(Nat.le_of_ble_eq_true rfl), (Nat.le_of_ble_eq_true rfl)⟩) hq2 rfl hl.1 rfl (Nat.le_of_ble_eq_true rfl) dX4_countFrom_114 (Nat.zero_le _) (Nat.zero_le _) ?_
              refine ia_st hx hb hK hP hD hS 2 rfl (i := i35) (by omega) (by decide) dX4_countFrom_117 (fun H locs hP hD hS => ?_)
              have hP : va_P D vwCl [(w, .inr (7, [.ref w_points_a, .ref w_tired_a, .ref w_near_a, .int w_there, .int w_free, .int w_held, .int w_wind, .int w_oil, .int w_hour, .int w_sights, .int w_agreedTo, .int w_refused])), (w_near_a, .inl (cI, 7, .inl w_near)), (pt_a, .inl (cI, 8, .inl (upd ((f_X4_cf6 w_there w_near (upd r2_35 i35 (f_X8_withBit (r2_35 i35) (5 : Int32) (1 : Int32))) (if xu < (nI (i35 + 1)) then (nI (i35 + 1)) else xu) xn).2) i35 (f_X8_withBit (((f_X4_cf6 w_there w_near (upd r2_35 i35 (f_X8_withBit (r2_35 i35) (5 : Int32) (1 : Int32))) (if xu < (nI (i35 + 1)) then (nI (i35 + 1)) else xu) xn).2) i35) (5 : Int32) (0 : Int32)))))] H := hP
              have hD : va_D _ [(w, .inr (7, [.ref w_points_a, .ref w_tired_a, .ref w_near_a, .int w_there, .int w_free, .int w_held, .int w_wind, .int w_oil, .int w_hour, .int w_sights, .int w_agreedTo, .int w_refused])), (w_near_a, .inl (cI, 7, .inl w_near)), (pt_a, .inl (cI, 8, .inl (upd ((f_X4_cf6 w_there w_near (upd r2_35 i35 (f_X8_withBit (r2_35 i35) (5 : Int32) (1 : Int32))) (if xu < (nI (i35 + 1)) then (nI (i35 + 1)) else xu) xn).2) i35 (f_X8_withBit (((f_X4_cf6 w_there w_near (upd r2_35 i35 (f_X8_withBit (r2_35 i35) (5 : Int32) (1 : Int32))) (if xu < (nI (i35 + 1)) then (nI (i35 + 1)) else xu) xn).2) i35) (5 : Int32) (0 : Int32)))))] := hD
              refine lv_iload hx hb dX4_countFrom_118 (lv_at hl 2 rfl) ?_
              refine lv_iload hx hb dX4_countFrom_120 (lv_at hl 1 rfl) ?_
              refine lv_iload_n hx hb dX4_countFrom_122 rfl (lv_at hl 6 rfl) ?_
              refine lv_icmp_ne (tgt := 136) hx hb dX4_countFrom_123 (by decide) (fun c123 => ?_) (fun c123 => ?_)
              · rw [if_neg c123] at hR
                refine lv_iload hx hb dX4_countFrom_136 (lv_at hl 0 rfl) ?_
                refine lv_iadd hx hb dX4_countFrom_138 ?_
                refine lv_istore (lv' := [(5, .int (v5_35 + ((f_X4_cf6 w_there w_near (upd r2_35 i35 (f_X8_withBit (r2_35 i35) (5 : Int32) (1 : Int32))) (if xu < (nI (i35 + 1)) then (nI (i35 + 1)) else xu) xn).1))), (7, .int ((f_X4_cf6 w_there w_near (upd r2_35 i35 (f_X8_withBit (r2_35 i35) (5 : Int32) (1 : Int32))) (if xu < (nI (i35 + 1)) then (nI (i35 + 1)) else xu) xn).1)), (6, .int (nI i35)), (0, .ref w), (1, .ref pt_a), (2, .int (5 : Int32)), (3, .int xu), (4, .int xn)]) hx hb dX4_countFrom_139 hl (by decide) rfl (fun ls hl => ?_)
                refine lv_iinc (v := (nI (i35 + 1))) (lv' := [(6, .int (nI (i35 + 1))), (5, .int (v5_35 + ((f_X4_cf6 w_there w_near (upd r2_35 i35 (f_X8_withBit (r2_35 i35) (5 : Int32) (1 : Int32))) (if xu < (nI (i35 + 1)) then (nI (i35 + 1)) else xu) xn).1))), (7, .int ((f_X4_cf6 w_there w_near (upd r2_35 i35 (f_X8_withBit (r2_35 i35) (5 : Int32) (1 : Int32))) (if xu < (nI (i35 + 1)) then (nI (i35 + 1)) else xu) xn).1)), (0, .ref w), (1, .ref pt_a), (2, .int (5 : Int32)), (3, .int xu), (4, .int xn)]) hx hb dX4_countFrom_141 hl (k := 2) rfl (by exact nI_add i35 1) (by decide) rfl (fun ls hl => ?_)
                refine lv_goto (tgt := 35) hx hb dX4_countFrom_144 (by decide) ?_
                exact ih35 _ _ _ (by omega) _ _ hP hD hS _ (lv_sub hl [0, 1, 3, 4, 5, 6, 7] rfl) hR
              · rw [if_pos c123] at hR
                refine lv_iload hx hb dX4_countFrom_126 (lv_at hl 7 rfl) ?_
                refine lv_iload_n hx hb dX4_countFrom_128 rfl (lv_at hl 6 rfl) ?_
                refine lv_isub hx hb dX4_countFrom_129 ?_
                refine lv_iload hx hb dX4_countFrom_130 (lv_at hl 0 rfl) ?_
                refine lv_imul hx hb dX4_countFrom_132 ?_
                refine lv_goto (tgt := 138) hx hb dX4_countFrom_133 (by decide) ?_
                refine lv_iadd hx hb dX4_countFrom_138 ?_
                refine lv_istore (lv' := [(5, .int (v5_35 + ((xn - xu) * ((f_X4_cf6 w_there w_near (upd r2_35 i35 (f_X8_withBit (r2_35 i35) (5 : Int32) (1 : Int32))) (if xu < (nI (i35 + 1)) then (nI (i35 + 1)) else xu) xn).1)))), (7, .int ((f_X4_cf6 w_there w_near (upd r2_35 i35 (f_X8_withBit (r2_35 i35) (5 : Int32) (1 : Int32))) (if xu < (nI (i35 + 1)) then (nI (i35 + 1)) else xu) xn).1)), (6, .int (nI i35)), (0, .ref w), (1, .ref pt_a), (2, .int (5 : Int32)), (3, .int xu), (4, .int xn)]) hx hb dX4_countFrom_139 hl (by decide) rfl (fun ls hl => ?_)
                refine lv_iinc (v := (nI (i35 + 1))) (lv' := [(6, .int (nI (i35 + 1))), (5, .int (v5_35 + ((xn - xu) * ((f_X4_cf6 w_there w_near (upd r2_35 i35 (f_X8_withBit (r2_35 i35) (5 : Int32) (1 : Int32))) (if xu < (nI (i35 + 1)) then (nI (i35 + 1)) else xu) xn).1)))), (7, .int ((f_X4_cf6 w_there w_near (upd r2_35 i35 (f_X8_withBit (r2_35 i35) (5 : Int32) (1 : Int32))) (if xu < (nI (i35 + 1)) then (nI (i35 + 1)) else xu) xn).1)), (0, .ref w), (1, .ref pt_a), (2, .int (5 : Int32)), (3, .int xu), (4, .int xn)]) hx hb dX4_countFrom_141 hl (k := 2) rfl (by exact nI_add i35 1) (by decide) rfl (fun ls hl => ?_)
                refine lv_goto (tgt := 35) hx hb dX4_countFrom_144 (by decide) ?_
                exact ih35 _ _ _ (by omega) _ _ hP hD hS _ (lv_sub hl [0, 1, 3, 4, 5, 6, 7] rfl) hR
            · rw [if_neg c66] at hR
              refine lv_goto (tgt := 141) hx hb dX4_countFrom_69 (by decide) ?_
              refine lv_iinc (v := (nI (i35 + 1))) (lv' := [(6, .int (nI (i35 + 1))), (5, .int v5_35), (0, .ref w), (1, .ref pt_a), (2, .int (5 : Int32)), (3, .int xu), (4, .int xn)]) hx hb dX4_countFrom_141 hl (k := 0) rfl (by exact nI_add i35 1) (by decide) rfl (fun ls hl => ?_)
              refine lv_goto (tgt := 35) hx hb dX4_countFrom_144 (by decide) ?_
              exact ih35 _ _ _ (by omega) _ _ hP hD hS _ (lv_sub hl [0, 1, 2, 3, 4, 5, 6] rfl) hR
    exact hloop35 8 0 _ _ (by omega) _ _ hP hD hS _ hl hF35_1
  · rw [if_pos c14] at hR
    refine lv_aload_n hx hb dX4_countFrom_17 rfl (lv_at hl 0 rfl) ?_
    refine lv_aload_n hx hb dX4_countFrom_18 rfl (lv_at hl 1 rfl) ?_
    refine lv_iload_n hx hb dX4_countFrom_19 rfl (lv_at hl 2 rfl) ?_
    refine lv_iconst (v := (1 : Int32)) hx hb dX4_countFrom_20 (by decide) ?_
    refine lv_iadd hx hb dX4_countFrom_21 ?_
    rw [show ((5 : Int32) + (1 : Int32)) = (6 : Int32) from nI_add 5 1]
    refine lv_iload_n hx hb dX4_countFrom_22 rfl (lv_at hl 3 rfl) ?_
    refine lv_iload hx hb dX4_countFrom_23 (lv_at hl 4 rfl) ?_
    refine rw_S (As := [.ref w, .ref pt_a, .int (6 : Int32), .int xu, .int xn]) (rest := []) (wr := []) (ws2 := [(w, .inr (7, [.ref w_points_a, .ref w_tired_a, .ref w_near_a, .int w_there, .int w_free, .int w_held, .int w_wind, .int w_oil, .int w_hour, .int w_sights, .int w_agreedTo, .int w_refused])), (w_near_a, .inl (cI, 7, .inl w_near)), (pt_a, .inl (cI, 8, .inl ((f_X4_cf6 w_there w_near pt xu xn).2)))]) (st1 := [.int ((f_X4_cf6 w_there w_near pt xu xn).1)]) ⟨hx, hb, hml, hown, hts⟩ hK hP hD hS (c_X4_cf6 l D cI cJ cZ w w_points_a w_tired_a w_near_a w_there w_free w_held w_wind w_oil w_hour w_sights w_agreedTo w_refused w_near pt_a pt xu xn) [0, 1, 2] [] [0, 1, 2] rfl rfl (by decide) (by decide) rfl rfl rfl (va_cwS 5 hts gX4_countFrom_X4_countFrom rfl rfl rfl hd_X4_countFrom ⟨(Nat.le_of_ble_eq_true rfl), (Nat.le_of_ble_eq_true rfl)⟩) rfl hl.1 rfl (Nat.le_of_ble_eq_true rfl) dX4_countFrom_25 (Nat.zero_le _) (Nat.zero_le _) (fun H locs hP hD hS => ?_)
    obtain ⟨rfl, rfl⟩ := prodI2 hR
    exact rw_iret hx hb hr hlocks hP hS dX4_countFrom_28


def lp_X4_cf4_35 (w_there : Int32) (w_near : Nat → Int32) (xu : Int32) (xn : Int32) : Nat → Nat → (Nat → Int32) → Int32 → (Nat → Int32) × Int32
  | 0, _, r2_35, v5_35 => (r2_35, v5_35)
  | k35 + 1, i35, r2_35, v5_35 => (if (xu < (nI i35)) then (r2_35, v5_35) else (if (xn ≤ (nI i35)) then (r2_35, v5_35) else (if (((r2_35 i35) &&& (w_near 4)) = 0) then (if ((nI i35) = xu) then (lp_X4_cf4_35 w_there w_near xu xn k35 (i35 + 1) (upd ((f_X4_cf5 w_there w_near (upd r2_35 i35 (f_X8_withBit (r2_35 i35) (4 : Int32) (1 : Int32))) (if xu < (nI (i35 + 1)) then (nI (i35 + 1)) else xu) xn).2) i35 (f_X8_withBit (((f_X4_cf5 w_there w_near (upd r2_35 i35 (f_X8_withBit (r2_35 i35) (4 : Int32) (1 : Int32))) (if xu < (nI (i35 + 1)) then (nI (i35 + 1)) else xu) xn).2) i35) (4 : Int32) (0 : Int32))) (v5_35 + ((xn - xu) * ((f_X4_cf5 w_there w_near (upd r2_35 i35 (f_X8_withBit (r2_35 i35) (4 : Int32) (1 : Int32))) (if xu < (nI (i35 + 1)) then (nI (i35 + 1)) else xu) xn).1)))) else (lp_X4_cf4_35 w_there w_near xu xn k35 (i35 + 1) (upd ((f_X4_cf5 w_there w_near (upd r2_35 i35 (f_X8_withBit (r2_35 i35) (4 : Int32) (1 : Int32))) (if xu < (nI (i35 + 1)) then (nI (i35 + 1)) else xu) xn).2) i35 (f_X8_withBit (((f_X4_cf5 w_there w_near (upd r2_35 i35 (f_X8_withBit (r2_35 i35) (4 : Int32) (1 : Int32))) (if xu < (nI (i35 + 1)) then (nI (i35 + 1)) else xu) xn).2) i35) (4 : Int32) (0 : Int32))) (v5_35 + ((f_X4_cf5 w_there w_near (upd r2_35 i35 (f_X8_withBit (r2_35 i35) (4 : Int32) (1 : Int32))) (if xu < (nI (i35 + 1)) then (nI (i35 + 1)) else xu) xn).1)))) else (lp_X4_cf4_35 w_there w_near xu xn k35 (i35 + 1) r2_35 v5_35))))
def f_X4_cf4 (w_there : Int32) (w_near : Nat → Int32) (pt : Nat → Int32) (xu : Int32) (xn : Int32) : Int32 × (Nat → Int32) :=
  (if ((f_X7_isThere w_there (4 : Int32)) = 0) then (((f_X4_cf5 w_there w_near pt xu xn).1), ((f_X4_cf5 w_there w_near pt xu xn).2)) else ((lp_X4_cf4_35 w_there w_near xu xn 8 0 pt (0 : Int32)).2, (lp_X4_cf4_35 w_there w_near xu xn 8 0 pt (0 : Int32)).1))
set_option maxHeartbeats 4000000 in
set_option maxRecDepth 100000 in
theorem c_X4_cf4 (l : Launch) (D : va_G) (cI cJ cZ : ClassId) (w : Nat) (w_points_a : Nat) (w_tired_a : Nat) (w_near_a : Nat) (w_there : Int32) (w_free : Int32) (w_held : Int32) (w_wind : Int32) (w_oil : Int32) (w_hour : Int32) (w_sights : Int32) (w_agreedTo : Int32) (w_refused : Int32) (w_near : Nat → Int32) (pt_a : Nat) (pt : Nat → Int32) (xu : Int32) (xn : Int32) : RW l yX4_countFrom wsX4_countFrom ({ frames := 5, cells := 0, slots := 0, locals := 122 }) [.ref w, .ref pt_a, .int (4 : Int32), .int xu, .int xn] D cI cJ cZ [(w, .inr (7, [.ref w_points_a, .ref w_tired_a, .ref w_near_a, .int w_there, .int w_free, .int w_held, .int w_wind, .int w_oil, .int w_hour, .int w_sights, .int w_agreedTo, .int w_refused])), (w_near_a, .inl (cI, 7, .inl w_near)), (pt_a, .inl (cI, 8, .inl pt))] (some (.int ((f_X4_cf4 w_there w_near pt xu xn).1))) [(w, .inr (7, [.ref w_points_a, .ref w_tired_a, .ref w_near_a, .int w_there, .int w_free, .int w_held, .int w_wind, .int w_oil, .int w_hour, .int w_sights, .int w_agreedTo, .int w_refused])), (w_near_a, .inl (cI, 7, .inl w_near)), (pt_a, .inl (cI, 8, .inl ((f_X4_cf4 w_there w_near pt xu xn).2)))] := by
  obtain ⟨R0, R1, hR⟩ := prodE2 (f_X4_cf4 w_there w_near pt xu xn)
  rw [hR]
  dsimp only
  refine rw_start (cc := cX4_countFrom) (maxL := 8) (ret := (some .int)) (by decide) rfl (Nat.le_of_ble_eq_true rfl) ?_
  intro p e s m args below meth c hx hb hr hml hown hts hlocks hP hD hS hK ls hl
  have hown : s.vm.findClass RX4 = some m.cls := hown
  have hl : lv_has ls 8 [(0, .ref w), (1, .ref pt_a), (2, .int (4 : Int32)), (3, .int xu), (4, .int xn)] := hl
  have hq0 := hts (.initialized RX8) (by decide +kernel)
  have hq1 := hts (.static yX8_isParish) (by decide +kernel)
  have hq2 := hts (.static yX8_withBit) (by decide +kernel)
  have hq3 := hts (.methodLink RX4 43 Lib.Math.max.name) (by decide +kernel)
  have hq4 := hts (.static Lib.Math.max.name) (by decide +kernel)
  have hq5 := hts (.initialized "java/lang/Math") (by decide +kernel)
  have hq6 := hts (.code Lib.Math.max.name Lib.Math.max.code 2 (some .int)) (by decide +kernel)
  rw [f_X4_cf4] at hR
  refine lv_iload_n hx hb dX4_countFrom_0 rfl (lv_at hl 2 rfl) ?_
  refine ro_SN (As := [.int (4 : Int32)]) (rest := []) ⟨hx, hb, hml, hown, hts⟩ hK (c_X8_isParish l D cI cJ cZ (4 : Int32)) va_P_nil (va_cnB 1 hts gX4_countFrom_X8_isParish_n29 rfl rfl rfl (hK.2 _ gN_45) hq0 hd_X8_isParish ⟨(Nat.le_of_ble_eq_true rfl), (Nat.le_of_ble_eq_true rfl)⟩) hq1 rfl hl.1 rfl (Nat.le_of_ble_eq_true rfl) dX4_countFrom_1 (Nat.zero_le _) (Nat.zero_le _) ?_
  refine lv_if_ne (tgt := 9) hx hb dX4_countFrom_4 (by decide) (fun _ => ?_) (fun h => absurd h (by decide))
  refine lv_aload_n hx hb dX4_countFrom_9 rfl (lv_at hl 0 rfl) ?_
  refine lv_iload_n hx hb dX4_countFrom_10 rfl (lv_at hl 2 rfl) ?_
  refine ro_V (As := [.int (4 : Int32)]) (rest := []) ⟨hx, hb, hml, hown, hts⟩ hK (c_X7_isThere l D cI cJ cZ w w_points_a w_tired_a w_near_a w_there w_free w_held w_wind w_oil w_hour w_sights w_agreedTo w_refused (4 : Int32)) hP 0 rfl rfl (rw_sub hP [0] rfl) (cwV 1 hts gX4_countFrom_X7_isThere rfl rfl rfl ⟨rfl, hd_X7_isThere⟩ ⟨(Nat.le_of_ble_eq_true rfl), (Nat.le_of_ble_eq_true rfl)⟩) rfl hl.1 rfl (Nat.le_of_ble_eq_true rfl) dX4_countFrom_11 (Nat.zero_le _) (Nat.zero_le _) ?_
  refine lv_if_ne (tgt := 29) hx hb dX4_countFrom_14 (by decide) (fun c14 => ?_) (fun c14 => ?_)
  · rw [if_neg c14] at hR
    refine lv_iconst (v := (0 : Int32)) hx hb dX4_countFrom_29 (by decide) ?_
    refine lv_istore (lv' := [(5, .int (0 : Int32)), (0, .ref w), (1, .ref pt_a), (2, .int (4 : Int32)), (3, .int xu), (4, .int xn)]) hx hb dX4_countFrom_30 hl (by decide) rfl (fun ls hl => ?_)
    refine lv_iconst (v := (0 : Int32)) hx hb dX4_countFrom_32 (by decide) ?_
    refine lv_istore (lv' := [(6, .int (0 : Int32)), (5, .int (0 : Int32)), (0, .ref w), (1, .ref pt_a), (2, .int (4 : Int32)), (3, .int xu), (4, .int xn)]) hx hb dX4_countFrom_33 hl (by decide) rfl (fun ls hl => ?_)
    obtain ⟨F35_1, hF35_1⟩ : ∃ x, (lp_X4_cf4_35 w_there w_near xu xn 8 0 pt (0 : Int32)) = x := ⟨_, rfl⟩
    try rw [hF35_1] at hR
    have hexit35 : ∀ (H : Heap) (locs : List Loc), va_P D vwCl [(w, .inr (7, [.ref w_points_a, .ref w_tired_a, .ref w_near_a, .int w_there, .int w_free, .int w_held, .int w_wind, .int w_oil, .int w_hour, .int w_sights, .int w_agreedTo, .int w_refused])), (w_near_a, .inl (cI, 7, .inl w_near)), (pt_a, .inl (cI, 8, .inl F35_1.1))] H → va_D (va_In [(w, .inr (7, [.ref w_points_a, .ref w_tired_a, .ref w_near_a, .int w_there, .int w_free, .int w_held, .int w_wind, .int w_oil, .int w_hour, .int w_sights, .int w_agreedTo, .int w_refused])), (w_near_a, .inl (cI, 7, .inl w_near)), (pt_a, .inl (cI, 8, .inl pt))]) [(w, .inr (7, [.ref w_points_a, .ref w_tired_a, .ref w_near_a, .int w_there, .int w_free, .int w_held, .int w_wind, .int w_oil, .int w_hour, .int w_sights, .int w_agreedTo, .int w_refused])), (w_near_a, .inl (cI, 7, .inl w_near)), (pt_a, .inl (cI, 8, .inl F35_1.1))] → va_S (va_In [(w, .inr (7, [.ref w_points_a, .ref w_tired_a, .ref w_near_a, .int w_there, .int w_free, .int w_held, .int w_wind, .int w_oil, .int w_hour, .int w_sights, .int w_agreedTo, .int w_refused])), (w_near_a, .inl (cI, 7, .inl w_near)), (pt_a, .inl (cI, 8, .inl pt))]) s.heap H locs → ∀ (ls : Array Slot), lv_has ls 8 [(5, .int F35_1.2), (0, .ref w), (1, .ref pt_a), (2, .int (4 : Int32)), (3, .int xu), (4, .int xn)] → W p l e ({ frames := 5, cells := 0, slots := 0, locals := 122 }) s m args below meth c H locs 0 0 (MQ below (rw_Q D (some (.int R0)) [(w, .inr (7, [.ref w_points_a, .ref w_tired_a, .ref w_near_a, .int w_there, .int w_free, .int w_held, .int w_wind, .int w_oil, .int w_hour, .int w_sights, .int w_agreedTo, .int w_refused])), (w_near_a, .inl (cI, 7, .inl w_near)), (pt_a, .inl (cI, 8, .inl pt))] [(w, .inr (7, [.ref w_points_a, .ref w_tired_a, .ref w_near_a, .int w_there, .int w_free, .int w_held, .int w_wind, .int w_oil, .int w_hour, .int w_sights, .int w_agreedTo, .int w_refused])), (w_near_a, .inl (cI, 7, .inl w_near)), (pt_a, .inl (cI, 8, .inl R1))]) args s 0 0 (va_In [(w, .inr (7, [.ref w_points_a, .ref w_tired_a, .ref w_near_a, .int w_there, .int w_free, .int w_held, .int w_wind, .int w_oil, .int w_hour, .int w_sights, .int w_agreedTo, .int w_refused])), (w_near_a, .inl (cI, 7, .inl w_near)), (pt_a, .inl (cI, 8, .inl pt))])) (F0 m 147 ls []) := by
      intro H locs hP hD hS ls hl
      refine lv_iload hx hb dX4_countFrom_147 (lv_at hl 0 rfl) ?_
      obtain ⟨rfl, rfl⟩ := prodI2 hR
      exact rw_iret hx hb hr hlocks hP hS dX4_countFrom_149
    have hloop35 : ∀ (k35 i35 : Nat) (r2_35 : Nat → Int32) (v5_35 : Int32), i35 + k35 = 8 → ∀ (H : Heap) (locs : List Loc), va_P D vwCl [(w, .inr (7, [.ref w_points_a, .ref w_tired_a, .ref w_near_a, .int w_there, .int w_free, .int w_held, .int w_wind, .int w_oil, .int w_hour, .int w_sights, .int w_agreedTo, .int w_refused])), (w_near_a, .inl (cI, 7, .inl w_near)), (pt_a, .inl (cI, 8, .inl r2_35))] H → va_D (va_In [(w, .inr (7, [.ref w_points_a, .ref w_tired_a, .ref w_near_a, .int w_there, .int w_free, .int w_held, .int w_wind, .int w_oil, .int w_hour, .int w_sights, .int w_agreedTo, .int w_refused])), (w_near_a, .inl (cI, 7, .inl w_near)), (pt_a, .inl (cI, 8, .inl pt))]) [(w, .inr (7, [.ref w_points_a, .ref w_tired_a, .ref w_near_a, .int w_there, .int w_free, .int w_held, .int w_wind, .int w_oil, .int w_hour, .int w_sights, .int w_agreedTo, .int w_refused])), (w_near_a, .inl (cI, 7, .inl w_near)), (pt_a, .inl (cI, 8, .inl r2_35))] → va_S (va_In [(w, .inr (7, [.ref w_points_a, .ref w_tired_a, .ref w_near_a, .int w_there, .int w_free, .int w_held, .int w_wind, .int w_oil, .int w_hour, .int w_sights, .int w_agreedTo, .int w_refused])), (w_near_a, .inl (cI, 7, .inl w_near)), (pt_a, .inl (cI, 8, .inl pt))]) s.heap H locs → ∀ (ls : Array Slot), lv_has ls 8 [(6, .int (nI i35)), (5, .int v5_35), (0, .ref w), (1, .ref pt_a), (2, .int (4 : Int32)), (3, .int xu), (4, .int xn)] → lp_X4_cf4_35 w_there w_near xu xn k35 i35 r2_35 v5_35 = F35_1 → W p l e ({ frames := 5, cells := 0, slots := 0, locals := 122 }) s m args below meth c H locs 0 0 (MQ below (rw_Q D (some (.int R0)) [(w, .inr (7, [.ref w_points_a, .ref w_tired_a, .ref w_near_a, .int w_there, .int w_free, .int w_held, .int w_wind, .int w_oil, .int w_hour, .int w_sights, .int w_agreedTo, .int w_refused])), (w_near_a, .inl (cI, 7, .inl w_near)), (pt_a, .inl (cI, 8, .inl pt))] [(w, .inr (7, [.ref w_points_a, .ref w_tired_a, .ref w_near_a, .int w_there, .int w_free, .int w_held, .int w_wind, .int w_oil, .int w_hour, .int w_sights, .int w_agreedTo, .int w_refused])), (w_near_a, .inl (cI, 7, .inl w_near)), (pt_a, .inl (cI, 8, .inl R1))]) args s 0 0 (va_In [(w, .inr (7, [.ref w_points_a, .ref w_tired_a, .ref w_near_a, .int w_there, .int w_free, .int w_held, .int w_wind, .int w_oil, .int w_hour, .int w_sights, .int w_agreedTo, .int w_refused])), (w_near_a, .inl (cI, 7, .inl w_near)), (pt_a, .inl (cI, 8, .inl pt))])) (F0 m 35 ls []) := by
      intro k35
      induction k35 with
      | zero =>
        intro i35 r2_35 v5_35 h35  H locs hP hD hS ls hl hR
        obtain rfl : 8 = i35 := by omega
        rw [lp_X4_cf4_35] at hR
        refine lv_iload hx hb dX4_countFrom_35 (lv_at hl 0 rfl) ?_
        refine lv_iload_n hx hb dX4_countFrom_37 rfl (lv_at hl 5 rfl) ?_
        refine lv_icmp_gt (tgt := 147) hx hb dX4_countFrom_38 (by decide) (fun c38 => ?_) (fun c38 => ?_)
        · subst hR
          exact hexit35 _ _ hP hD hS _ (lv_sub hl [1, 2, 3, 4, 5, 6] rfl)
        · refine lv_iload hx hb dX4_countFrom_41 (lv_at hl 0 rfl) ?_
          refine lv_iload hx hb dX4_countFrom_43 (lv_at hl 6 rfl) ?_
          refine lv_icmp_ge (tgt := 147) hx hb dX4_countFrom_45 (by decide) (fun c45 => ?_) (fun c45 => ?_)
          · subst hR
            exact hexit35 _ _ hP hD hS _ (lv_sub hl [1, 2, 3, 4, 5, 6] rfl)
          · refine lv_iload hx hb dX4_countFrom_48 (lv_at hl 0 rfl) ?_
            refine lv_bipush (v := (8 : Int32)) hx hb dX4_countFrom_50 (by decide +kernel) ?_
            refine lv_icmp_ge (tgt := 147) hx hb dX4_countFrom_52 (by decide) (fun _ => ?_) (fun h => absurd (cle_t (a := 8) (b := 8) rfl rfl (by omega) (by omega)) h)
            subst hR
            exact hexit35 _ _ hP hD hS _ (lv_sub hl [1, 2, 3, 4, 5, 6] rfl)
      | succ k35 ih35 =>
        intro i35 r2_35 v5_35 h35  H locs hP hD hS ls hl hR
        rw [lp_X4_cf4_35] at hR
        refine lv_iload hx hb dX4_countFrom_35 (lv_at hl 0 rfl) ?_
        refine lv_iload_n hx hb dX4_countFrom_37 rfl (lv_at hl 5 rfl) ?_
        refine lv_icmp_gt (tgt := 147) hx hb dX4_countFrom_38 (by decide) (fun c38 => ?_) (fun c38 => ?_)
        · rw [if_pos c38] at hR
          subst hR
          exact hexit35 _ _ hP hD hS _ (lv_sub hl [1, 2, 3, 4, 5, 6] rfl)
        · rw [if_neg c38] at hR
          refine lv_iload hx hb dX4_countFrom_41 (lv_at hl 0 rfl) ?_
          refine lv_iload hx hb dX4_countFrom_43 (lv_at hl 6 rfl) ?_
          refine lv_icmp_ge (tgt := 147) hx hb dX4_countFrom_45 (by decide) (fun c45 => ?_) (fun c45 => ?_)
          · rw [if_pos c45] at hR
            subst hR
            exact hexit35 _ _ hP hD hS _ (lv_sub hl [1, 2, 3, 4, 5, 6] rfl)
          · rw [if_neg c45] at hR
            refine lv_iload hx hb dX4_countFrom_48 (lv_at hl 0 rfl) ?_
            refine lv_bipush (v := (8 : Int32)) hx hb dX4_countFrom_50 (by decide +kernel) ?_
            refine lv_icmp_ge (tgt := 147) hx hb dX4_countFrom_52 (by decide) (fun h => absurd h (cle_f (a := 8) (b := i35) rfl rfl (by omega) (by omega))) (fun _ => ?_)
            refine lv_aload_n hx hb dX4_countFrom_55 rfl (lv_at hl 3 rfl) ?_
            refine lv_iload hx hb dX4_countFrom_56 (lv_at hl 0 rfl) ?_
            refine ia_ld hx hb hK hP 2 rfl (i := i35) (by omega) (by decide) dX4_countFrom_58 ?_
            refine lv_aload_n hx hb dX4_countFrom_59 rfl (lv_at hl 2 rfl) ?_
            refine va_getN (D := D) (ci := 7) (v := .ref w_near_a) (C := RX7) (T := TX7) (N := 12) hx hb hts in_X4_countFrom_X7 hown hK.1 hP 0 rfl rfl 2 (by decide) (va_Nw.use rfl (hK.2 _ gN_3)) (fun _ h9 => h9) rfl dX4_countFrom_60 ?_
            refine lv_iload_n hx hb dX4_countFrom_63 rfl (lv_at hl 4 rfl) ?_
            refine ia_ld hx hb hK hP 1 rfl (i := 4) (by omega) (by decide) dX4_countFrom_64 ?_
            refine lv_iand hx hb dX4_countFrom_65 ?_
            refine lv_if_eq (tgt := 72) hx hb dX4_countFrom_66 (by decide) (fun c66 => ?_) (fun c66 => ?_)
            · rw [if_pos c66] at hR
              refine lv_aload_n hx hb dX4_countFrom_72 rfl (lv_at hl 3 rfl) ?_
              refine lv_iload hx hb dX4_countFrom_73 (lv_at hl 0 rfl) ?_
              refine lv_aload_n hx hb dX4_countFrom_75 rfl (lv_at hl 3 rfl) ?_
              refine lv_iload hx hb dX4_countFrom_76 (lv_at hl 0 rfl) ?_
              refine ia_ld hx hb hK hP 2 rfl (i := i35) (by omega) (by decide) dX4_countFrom_78 ?_
              refine lv_iload_n hx hb dX4_countFrom_79 rfl (lv_at hl 4 rfl) ?_
              refine lv_iconst (v := (1 : Int32)) hx hb dX4_countFrom_80 (by decide) ?_
              refine ro_SN (As := [.int (r2_35 i35), .int (4 : Int32), .int (1 : Int32)]) (rest := [.int (nI i35), .ref pt_a]) ⟨hx, hb, hml, hown, hts⟩ hK (c_X8_withBit l D cI cJ cZ (r2_35 i35) (4 : Int32) (1 : Int32)) va_P_nil (va_cnB 3 hts gX4_countFrom_X8_withBit_n39 rfl rfl rfl (hK.2 _ gN_46) hq0 hd_X8_withBit ⟨(Nat.le_of_ble_eq_true rfl), (Nat.le_of_ble_eq_true rfl)⟩) hq2 rfl hl.1 rfl (Nat.le_of_ble_eq_true rfl) dX4_countFrom_81 (Nat.zero_le _) (Nat.zero_le _) ?_
              refine ia_st hx hb hK hP hD hS 2 rfl (i := i35) (by omega) (by decide) dX4_countFrom_84 (fun H locs hP hD hS => ?_)
              have hP : va_P D vwCl [(w, .inr (7, [.ref w_points_a, .ref w_tired_a, .ref w_near_a, .int w_there, .int w_free, .int w_held, .int w_wind, .int w_oil, .int w_hour, .int w_sights, .int w_agreedTo, .int w_refused])), (w_near_a, .inl (cI, 7, .inl w_near)), (pt_a, .inl (cI, 8, .inl (upd r2_35 i35 (f_X8_withBit (r2_35 i35) (4 : Int32) (1 : Int32)))))] H := hP
              have hD : va_D _ [(w, .inr (7, [.ref w_points_a, .ref w_tired_a, .ref w_near_a, .int w_there, .int w_free, .int w_held, .int w_wind, .int w_oil, .int w_hour, .int w_sights, .int w_agreedTo, .int w_refused])), (w_near_a, .inl (cI, 7, .inl w_near)), (pt_a, .inl (cI, 8, .inl (upd r2_35 i35 (f_X8_withBit (r2_35 i35) (4 : Int32) (1 : Int32)))))] := hD
              refine lv_aload_n hx hb dX4_countFrom_85 rfl (lv_at hl 2 rfl) ?_
              refine lv_aload_n hx hb dX4_countFrom_86 rfl (lv_at hl 3 rfl) ?_
              refine lv_iload_n hx hb dX4_countFrom_87 rfl (lv_at hl 4 rfl) ?_
              refine lv_iconst (v := (1 : Int32)) hx hb dX4_countFrom_88 (by decide) ?_
              refine lv_iadd hx hb dX4_countFrom_89 ?_
              rw [show ((4 : Int32) + (1 : Int32)) = (5 : Int32) from nI_add 4 1]
              refine lv_iload_n hx hb dX4_countFrom_90 rfl (lv_at hl 5 rfl) ?_
              refine lv_iload hx hb dX4_countFrom_91 (lv_at hl 0 rfl) ?_
              refine lv_iconst (v := (1 : Int32)) hx hb dX4_countFrom_93 (by decide) ?_
              refine lv_iadd hx hb dX4_countFrom_94 ?_
              rw [show ((nI i35) + (1 : Int32)) = (nI (i35 + 1)) from nI_add i35 1]
              refine va_mmax (rest := [.int (5 : Int32), .ref pt_a, .ref w]) hx hb (hml.trans hl.1.symm) hown hq3 hq4 hq5 hq6 (Nat.le_of_ble_eq_true rfl) (Nat.le_of_ble_eq_true rfl) (Nat.zero_le _) (Nat.zero_le _) dX4_countFrom_95 ?_
              refine lv_iload hx hb dX4_countFrom_98 (lv_at hl 6 rfl) ?_
              refine rw_S (As := [.ref w, .ref pt_a, .int (5 : Int32), .int (if xu < (nI (i35 + 1)) then (nI (i35 + 1)) else xu), .int xn]) (rest := []) (wr := []) (ws2 := [(w, .inr (7, [.ref w_points_a, .ref w_tired_a, .ref w_near_a, .int w_there, .int w_free, .int w_held, .int w_wind, .int w_oil, .int w_hour, .int w_sights, .int w_agreedTo, .int w_refused])), (w_near_a, .inl (cI, 7, .inl w_near)), (pt_a, .inl (cI, 8, .inl ((f_X4_cf5 w_there w_near (upd r2_35 i35 (f_X8_withBit (r2_35 i35) (4 : Int32) (1 : Int32))) (if xu < (nI (i35 + 1)) then (nI (i35 + 1)) else xu) xn).2)))]) (st1 := [.int ((f_X4_cf5 w_there w_near (upd r2_35 i35 (f_X8_withBit (r2_35 i35) (4 : Int32) (1 : Int32))) (if xu < (nI (i35 + 1)) then (nI (i35 + 1)) else xu) xn).1)]) ⟨hx, hb, hml, hown, hts⟩ hK hP hD hS (c_X4_cf5 l D cI cJ cZ w w_points_a w_tired_a w_near_a w_there w_free w_held w_wind w_oil w_hour w_sights w_agreedTo w_refused w_near pt_a (upd r2_35 i35 (f_X8_withBit (r2_35 i35) (4 : Int32) (1 : Int32))) (if xu < (nI (i35 + 1)) then (nI (i35 + 1)) else xu) xn) [0, 1, 2] [] [0, 1, 2] rfl rfl (by decide) (by decide) rfl rfl rfl (va_cwS 5 hts gX4_countFrom_X4_countFrom rfl rfl rfl hd_X4_countFrom ⟨(Nat.le_of_ble_eq_true rfl), (Nat.le_of_ble_eq_true rfl)⟩) rfl hl.1 rfl (Nat.le_of_ble_eq_true rfl) dX4_countFrom_100 (Nat.zero_le _) (Nat.zero_le _) (fun H locs hP hD hS => ?_)
              refine lv_istore (lv' := [(7, .int ((f_X4_cf5 w_there w_near (upd r2_35 i35 (f_X8_withBit (r2_35 i35) (4 : Int32) (1 : Int32))) (if xu < (nI (i35 + 1)) then (nI (i35 + 1)) else xu) xn).1)), (6, .int (nI i35)), (5, .int v5_35), (0, .ref w), (1, .ref pt_a), (2, .int (4 : Int32)), (3, .int xu), (4, .int xn)]) hx hb dX4_countFrom_103 hl (by decide) rfl (fun ls hl => ?_)
              refine lv_aload_n hx hb dX4_countFrom_105 rfl (lv_at hl 4 rfl) ?_
              refine lv_iload hx hb dX4_countFrom_106 (lv_at hl 1 rfl) ?_
              refine lv_aload_n hx hb dX4_countFrom_108 rfl (lv_at hl 4 rfl) ?_
              refine lv_iload hx hb dX4_countFrom_109 (lv_at hl 1 rfl) ?_
              refine ia_ld hx hb hK hP 2 rfl (i := i35) (by omega) (by decide) dX4_countFrom_111 ?_
              refine lv_iload_n hx hb dX4_countFrom_112 rfl (lv_at hl 5 rfl) ?_
              refine lv_iconst (v := (0 : Int32)) hx hb dX4_countFrom_113 (by decide) ?_
              refine ro_SN (As := [.int (((f_X4_cf5 w_there w_near (upd r2_35 i35 (f_X8_withBit (r2_35 i35) (4 : Int32) (1 : Int32))) (if xu < (nI (i35 + 1)) then (nI (i35 + 1)) else xu) xn).2) i35), .int (4 : Int32), .int (0 : Int32)]) (rest := [.int (nI i35), .ref pt_a]) ⟨hx, hb, hml, hown, hts⟩ hK (c_X8_withBit l D cI cJ cZ (((f_X4_cf5 w_there w_near (upd r2_35 i35 (f_X8_withBit (r2_35 i35) (4 : Int32) (1 : Int32))) (if xu < (nI (i35 + 1)) then (nI (i35 + 1)) else xu) xn).2) i35) (4 : Int32) (0 : Int32)) va_P_nil (va_cnB 3 hts gX4_countFrom_X8_withBit_n39 rfl rfl rfl (hK.2 _ gN_46) hq0 hd_X8_withBit ⟨(Nat.le_of_ble_eq_true rfl), (Nat.le_of_ble_eq_true rfl)⟩) hq2 rfl hl.1 rfl (Nat.le_of_ble_eq_true rfl) dX4_countFrom_114 (Nat.zero_le _) (Nat.zero_le _) ?_
              refine ia_st hx hb hK hP hD hS 2 rfl (i := i35) (by omega) (by decide) dX4_countFrom_117 (fun H locs hP hD hS => ?_)
              have hP : va_P D vwCl [(w, .inr (7, [.ref w_points_a, .ref w_tired_a, .ref w_near_a, .int w_there, .int w_free, .int w_held, .int w_wind, .int w_oil, .int w_hour, .int w_sights, .int w_agreedTo, .int w_refused])), (w_near_a, .inl (cI, 7, .inl w_near)), (pt_a, .inl (cI, 8, .inl (upd ((f_X4_cf5 w_there w_near (upd r2_35 i35 (f_X8_withBit (r2_35 i35) (4 : Int32) (1 : Int32))) (if xu < (nI (i35 + 1)) then (nI (i35 + 1)) else xu) xn).2) i35 (f_X8_withBit (((f_X4_cf5 w_there w_near (upd r2_35 i35 (f_X8_withBit (r2_35 i35) (4 : Int32) (1 : Int32))) (if xu < (nI (i35 + 1)) then (nI (i35 + 1)) else xu) xn).2) i35) (4 : Int32) (0 : Int32)))))] H := hP
              have hD : va_D _ [(w, .inr (7, [.ref w_points_a, .ref w_tired_a, .ref w_near_a, .int w_there, .int w_free, .int w_held, .int w_wind, .int w_oil, .int w_hour, .int w_sights, .int w_agreedTo, .int w_refused])), (w_near_a, .inl (cI, 7, .inl w_near)), (pt_a, .inl (cI, 8, .inl (upd ((f_X4_cf5 w_there w_near (upd r2_35 i35 (f_X8_withBit (r2_35 i35) (4 : Int32) (1 : Int32))) (if xu < (nI (i35 + 1)) then (nI (i35 + 1)) else xu) xn).2) i35 (f_X8_withBit (((f_X4_cf5 w_there w_near (upd r2_35 i35 (f_X8_withBit (r2_35 i35) (4 : Int32) (1 : Int32))) (if xu < (nI (i35 + 1)) then (nI (i35 + 1)) else xu) xn).2) i35) (4 : Int32) (0 : Int32)))))] := hD
              refine lv_iload hx hb dX4_countFrom_118 (lv_at hl 2 rfl) ?_
              refine lv_iload hx hb dX4_countFrom_120 (lv_at hl 1 rfl) ?_
              refine lv_iload_n hx hb dX4_countFrom_122 rfl (lv_at hl 6 rfl) ?_
              refine lv_icmp_ne (tgt := 136) hx hb dX4_countFrom_123 (by decide) (fun c123 => ?_) (fun c123 => ?_)
              · rw [if_neg c123] at hR
                refine lv_iload hx hb dX4_countFrom_136 (lv_at hl 0 rfl) ?_
                refine lv_iadd hx hb dX4_countFrom_138 ?_
                refine lv_istore (lv' := [(5, .int (v5_35 + ((f_X4_cf5 w_there w_near (upd r2_35 i35 (f_X8_withBit (r2_35 i35) (4 : Int32) (1 : Int32))) (if xu < (nI (i35 + 1)) then (nI (i35 + 1)) else xu) xn).1))), (7, .int ((f_X4_cf5 w_there w_near (upd r2_35 i35 (f_X8_withBit (r2_35 i35) (4 : Int32) (1 : Int32))) (if xu < (nI (i35 + 1)) then (nI (i35 + 1)) else xu) xn).1)), (6, .int (nI i35)), (0, .ref w), (1, .ref pt_a), (2, .int (4 : Int32)), (3, .int xu), (4, .int xn)]) hx hb dX4_countFrom_139 hl (by decide) rfl (fun ls hl => ?_)
                refine lv_iinc (v := (nI (i35 + 1))) (lv' := [(6, .int (nI (i35 + 1))), (5, .int (v5_35 + ((f_X4_cf5 w_there w_near (upd r2_35 i35 (f_X8_withBit (r2_35 i35) (4 : Int32) (1 : Int32))) (if xu < (nI (i35 + 1)) then (nI (i35 + 1)) else xu) xn).1))), (7, .int ((f_X4_cf5 w_there w_near (upd r2_35 i35 (f_X8_withBit (r2_35 i35) (4 : Int32) (1 : Int32))) (if xu < (nI (i35 + 1)) then (nI (i35 + 1)) else xu) xn).1)), (0, .ref w), (1, .ref pt_a), (2, .int (4 : Int32)), (3, .int xu), (4, .int xn)]) hx hb dX4_countFrom_141 hl (k := 2) rfl (by exact nI_add i35 1) (by decide) rfl (fun ls hl => ?_)
                refine lv_goto (tgt := 35) hx hb dX4_countFrom_144 (by decide) ?_
                exact ih35 _ _ _ (by omega) _ _ hP hD hS _ (lv_sub hl [0, 1, 3, 4, 5, 6, 7] rfl) hR
              · rw [if_pos c123] at hR
                refine lv_iload hx hb dX4_countFrom_126 (lv_at hl 7 rfl) ?_
                refine lv_iload_n hx hb dX4_countFrom_128 rfl (lv_at hl 6 rfl) ?_
                refine lv_isub hx hb dX4_countFrom_129 ?_
                refine lv_iload hx hb dX4_countFrom_130 (lv_at hl 0 rfl) ?_
                refine lv_imul hx hb dX4_countFrom_132 ?_
                refine lv_goto (tgt := 138) hx hb dX4_countFrom_133 (by decide) ?_
                refine lv_iadd hx hb dX4_countFrom_138 ?_
                refine lv_istore (lv' := [(5, .int (v5_35 + ((xn - xu) * ((f_X4_cf5 w_there w_near (upd r2_35 i35 (f_X8_withBit (r2_35 i35) (4 : Int32) (1 : Int32))) (if xu < (nI (i35 + 1)) then (nI (i35 + 1)) else xu) xn).1)))), (7, .int ((f_X4_cf5 w_there w_near (upd r2_35 i35 (f_X8_withBit (r2_35 i35) (4 : Int32) (1 : Int32))) (if xu < (nI (i35 + 1)) then (nI (i35 + 1)) else xu) xn).1)), (6, .int (nI i35)), (0, .ref w), (1, .ref pt_a), (2, .int (4 : Int32)), (3, .int xu), (4, .int xn)]) hx hb dX4_countFrom_139 hl (by decide) rfl (fun ls hl => ?_)
                refine lv_iinc (v := (nI (i35 + 1))) (lv' := [(6, .int (nI (i35 + 1))), (5, .int (v5_35 + ((xn - xu) * ((f_X4_cf5 w_there w_near (upd r2_35 i35 (f_X8_withBit (r2_35 i35) (4 : Int32) (1 : Int32))) (if xu < (nI (i35 + 1)) then (nI (i35 + 1)) else xu) xn).1)))), (7, .int ((f_X4_cf5 w_there w_near (upd r2_35 i35 (f_X8_withBit (r2_35 i35) (4 : Int32) (1 : Int32))) (if xu < (nI (i35 + 1)) then (nI (i35 + 1)) else xu) xn).1)), (0, .ref w), (1, .ref pt_a), (2, .int (4 : Int32)), (3, .int xu), (4, .int xn)]) hx hb dX4_countFrom_141 hl (k := 2) rfl (by exact nI_add i35 1) (by decide) rfl (fun ls hl => ?_)
                refine lv_goto (tgt := 35) hx hb dX4_countFrom_144 (by decide) ?_
                exact ih35 _ _ _ (by omega) _ _ hP hD hS _ (lv_sub hl [0, 1, 3, 4, 5, 6, 7] rfl) hR
            · rw [if_neg c66] at hR
              refine lv_goto (tgt := 141) hx hb dX4_countFrom_69 (by decide) ?_
              refine lv_iinc (v := (nI (i35 + 1))) (lv' := [(6, .int (nI (i35 + 1))), (5, .int v5_35), (0, .ref w), (1, .ref pt_a), (2, .int (4 : Int32)), (3, .int xu), (4, .int xn)]) hx hb dX4_countFrom_141 hl (k := 0) rfl (by exact nI_add i35 1) (by decide) rfl (fun ls hl => ?_)
              refine lv_goto (tgt := 35) hx hb dX4_countFrom_144 (by decide) ?_
              exact ih35 _ _ _ (by omega) _ _ hP hD hS _ (lv_sub hl [0, 1, 2, 3, 4, 5, 6] rfl) hR
    exact hloop35 8 0 _ _ (by omega) _ _ hP hD hS _ hl hF35_1
  · rw [if_pos c14] at hR
    refine lv_aload_n hx hb dX4_countFrom_17 rfl (lv_at hl 0 rfl) ?_
    refine lv_aload_n hx hb dX4_countFrom_18 rfl (lv_at hl 1 rfl) ?_
    refine lv_iload_n hx hb dX4_countFrom_19 rfl (lv_at hl 2 rfl) ?_
    refine lv_iconst (v := (1 : Int32)) hx hb dX4_countFrom_20 (by decide) ?_
    refine lv_iadd hx hb dX4_countFrom_21 ?_
    rw [show ((4 : Int32) + (1 : Int32)) = (5 : Int32) from nI_add 4 1]
    refine lv_iload_n hx hb dX4_countFrom_22 rfl (lv_at hl 3 rfl) ?_
    refine lv_iload hx hb dX4_countFrom_23 (lv_at hl 4 rfl) ?_
    refine rw_S (As := [.ref w, .ref pt_a, .int (5 : Int32), .int xu, .int xn]) (rest := []) (wr := []) (ws2 := [(w, .inr (7, [.ref w_points_a, .ref w_tired_a, .ref w_near_a, .int w_there, .int w_free, .int w_held, .int w_wind, .int w_oil, .int w_hour, .int w_sights, .int w_agreedTo, .int w_refused])), (w_near_a, .inl (cI, 7, .inl w_near)), (pt_a, .inl (cI, 8, .inl ((f_X4_cf5 w_there w_near pt xu xn).2)))]) (st1 := [.int ((f_X4_cf5 w_there w_near pt xu xn).1)]) ⟨hx, hb, hml, hown, hts⟩ hK hP hD hS (c_X4_cf5 l D cI cJ cZ w w_points_a w_tired_a w_near_a w_there w_free w_held w_wind w_oil w_hour w_sights w_agreedTo w_refused w_near pt_a pt xu xn) [0, 1, 2] [] [0, 1, 2] rfl rfl (by decide) (by decide) rfl rfl rfl (va_cwS 5 hts gX4_countFrom_X4_countFrom rfl rfl rfl hd_X4_countFrom ⟨(Nat.le_of_ble_eq_true rfl), (Nat.le_of_ble_eq_true rfl)⟩) rfl hl.1 rfl (Nat.le_of_ble_eq_true rfl) dX4_countFrom_25 (Nat.zero_le _) (Nat.zero_le _) (fun H locs hP hD hS => ?_)
    obtain ⟨rfl, rfl⟩ := prodI2 hR
    exact rw_iret hx hb hr hlocks hP hS dX4_countFrom_28


def lp_X4_cf3_35 (w_there : Int32) (w_near : Nat → Int32) (xu : Int32) (xn : Int32) : Nat → Nat → (Nat → Int32) → Int32 → (Nat → Int32) × Int32
  | 0, _, r2_35, v5_35 => (r2_35, v5_35)
  | k35 + 1, i35, r2_35, v5_35 => (if (xu < (nI i35)) then (r2_35, v5_35) else (if (xn ≤ (nI i35)) then (r2_35, v5_35) else (if (((r2_35 i35) &&& (w_near 3)) = 0) then (if ((nI i35) = xu) then (lp_X4_cf3_35 w_there w_near xu xn k35 (i35 + 1) (upd ((f_X4_cf4 w_there w_near (upd r2_35 i35 (f_X8_withBit (r2_35 i35) (3 : Int32) (1 : Int32))) (if xu < (nI (i35 + 1)) then (nI (i35 + 1)) else xu) xn).2) i35 (f_X8_withBit (((f_X4_cf4 w_there w_near (upd r2_35 i35 (f_X8_withBit (r2_35 i35) (3 : Int32) (1 : Int32))) (if xu < (nI (i35 + 1)) then (nI (i35 + 1)) else xu) xn).2) i35) (3 : Int32) (0 : Int32))) (v5_35 + ((xn - xu) * ((f_X4_cf4 w_there w_near (upd r2_35 i35 (f_X8_withBit (r2_35 i35) (3 : Int32) (1 : Int32))) (if xu < (nI (i35 + 1)) then (nI (i35 + 1)) else xu) xn).1)))) else (lp_X4_cf3_35 w_there w_near xu xn k35 (i35 + 1) (upd ((f_X4_cf4 w_there w_near (upd r2_35 i35 (f_X8_withBit (r2_35 i35) (3 : Int32) (1 : Int32))) (if xu < (nI (i35 + 1)) then (nI (i35 + 1)) else xu) xn).2) i35 (f_X8_withBit (((f_X4_cf4 w_there w_near (upd r2_35 i35 (f_X8_withBit (r2_35 i35) (3 : Int32) (1 : Int32))) (if xu < (nI (i35 + 1)) then (nI (i35 + 1)) else xu) xn).2) i35) (3 : Int32) (0 : Int32))) (v5_35 + ((f_X4_cf4 w_there w_near (upd r2_35 i35 (f_X8_withBit (r2_35 i35) (3 : Int32) (1 : Int32))) (if xu < (nI (i35 + 1)) then (nI (i35 + 1)) else xu) xn).1)))) else (lp_X4_cf3_35 w_there w_near xu xn k35 (i35 + 1) r2_35 v5_35))))
def f_X4_cf3 (w_there : Int32) (w_near : Nat → Int32) (pt : Nat → Int32) (xu : Int32) (xn : Int32) : Int32 × (Nat → Int32) :=
  (if ((f_X7_isThere w_there (3 : Int32)) = 0) then (((f_X4_cf4 w_there w_near pt xu xn).1), ((f_X4_cf4 w_there w_near pt xu xn).2)) else ((lp_X4_cf3_35 w_there w_near xu xn 8 0 pt (0 : Int32)).2, (lp_X4_cf3_35 w_there w_near xu xn 8 0 pt (0 : Int32)).1))
set_option maxHeartbeats 4000000 in
set_option maxRecDepth 100000 in
theorem c_X4_cf3 (l : Launch) (D : va_G) (cI cJ cZ : ClassId) (w : Nat) (w_points_a : Nat) (w_tired_a : Nat) (w_near_a : Nat) (w_there : Int32) (w_free : Int32) (w_held : Int32) (w_wind : Int32) (w_oil : Int32) (w_hour : Int32) (w_sights : Int32) (w_agreedTo : Int32) (w_refused : Int32) (w_near : Nat → Int32) (pt_a : Nat) (pt : Nat → Int32) (xu : Int32) (xn : Int32) : RW l yX4_countFrom wsX4_countFrom ({ frames := 6, cells := 0, slots := 0, locals := 149 }) [.ref w, .ref pt_a, .int (3 : Int32), .int xu, .int xn] D cI cJ cZ [(w, .inr (7, [.ref w_points_a, .ref w_tired_a, .ref w_near_a, .int w_there, .int w_free, .int w_held, .int w_wind, .int w_oil, .int w_hour, .int w_sights, .int w_agreedTo, .int w_refused])), (w_near_a, .inl (cI, 7, .inl w_near)), (pt_a, .inl (cI, 8, .inl pt))] (some (.int ((f_X4_cf3 w_there w_near pt xu xn).1))) [(w, .inr (7, [.ref w_points_a, .ref w_tired_a, .ref w_near_a, .int w_there, .int w_free, .int w_held, .int w_wind, .int w_oil, .int w_hour, .int w_sights, .int w_agreedTo, .int w_refused])), (w_near_a, .inl (cI, 7, .inl w_near)), (pt_a, .inl (cI, 8, .inl ((f_X4_cf3 w_there w_near pt xu xn).2)))] := by
  obtain ⟨R0, R1, hR⟩ := prodE2 (f_X4_cf3 w_there w_near pt xu xn)
  rw [hR]
  dsimp only
  refine rw_start (cc := cX4_countFrom) (maxL := 8) (ret := (some .int)) (by decide) rfl (Nat.le_of_ble_eq_true rfl) ?_
  intro p e s m args below meth c hx hb hr hml hown hts hlocks hP hD hS hK ls hl
  have hown : s.vm.findClass RX4 = some m.cls := hown
  have hl : lv_has ls 8 [(0, .ref w), (1, .ref pt_a), (2, .int (3 : Int32)), (3, .int xu), (4, .int xn)] := hl
  have hq0 := hts (.initialized RX8) (by decide +kernel)
  have hq1 := hts (.static yX8_isParish) (by decide +kernel)
  have hq2 := hts (.static yX8_withBit) (by decide +kernel)
  have hq3 := hts (.methodLink RX4 43 Lib.Math.max.name) (by decide +kernel)
  have hq4 := hts (.static Lib.Math.max.name) (by decide +kernel)
  have hq5 := hts (.initialized "java/lang/Math") (by decide +kernel)
  have hq6 := hts (.code Lib.Math.max.name Lib.Math.max.code 2 (some .int)) (by decide +kernel)
  rw [f_X4_cf3] at hR
  refine lv_iload_n hx hb dX4_countFrom_0 rfl (lv_at hl 2 rfl) ?_
  refine ro_SN (As := [.int (3 : Int32)]) (rest := []) ⟨hx, hb, hml, hown, hts⟩ hK (c_X8_isParish l D cI cJ cZ (3 : Int32)) va_P_nil (va_cnB 1 hts gX4_countFrom_X8_isParish_n29 rfl rfl rfl (hK.2 _ gN_45) hq0 hd_X8_isParish ⟨(Nat.le_of_ble_eq_true rfl), (Nat.le_of_ble_eq_true rfl)⟩) hq1 rfl hl.1 rfl (Nat.le_of_ble_eq_true rfl) dX4_countFrom_1 (Nat.zero_le _) (Nat.zero_le _) ?_
  refine lv_if_ne (tgt := 9) hx hb dX4_countFrom_4 (by decide) (fun _ => ?_) (fun h => absurd h (by decide))
  refine lv_aload_n hx hb dX4_countFrom_9 rfl (lv_at hl 0 rfl) ?_
  refine lv_iload_n hx hb dX4_countFrom_10 rfl (lv_at hl 2 rfl) ?_
  refine ro_V (As := [.int (3 : Int32)]) (rest := []) ⟨hx, hb, hml, hown, hts⟩ hK (c_X7_isThere l D cI cJ cZ w w_points_a w_tired_a w_near_a w_there w_free w_held w_wind w_oil w_hour w_sights w_agreedTo w_refused (3 : Int32)) hP 0 rfl rfl (rw_sub hP [0] rfl) (cwV 1 hts gX4_countFrom_X7_isThere rfl rfl rfl ⟨rfl, hd_X7_isThere⟩ ⟨(Nat.le_of_ble_eq_true rfl), (Nat.le_of_ble_eq_true rfl)⟩) rfl hl.1 rfl (Nat.le_of_ble_eq_true rfl) dX4_countFrom_11 (Nat.zero_le _) (Nat.zero_le _) ?_
  refine lv_if_ne (tgt := 29) hx hb dX4_countFrom_14 (by decide) (fun c14 => ?_) (fun c14 => ?_)
  · rw [if_neg c14] at hR
    refine lv_iconst (v := (0 : Int32)) hx hb dX4_countFrom_29 (by decide) ?_
    refine lv_istore (lv' := [(5, .int (0 : Int32)), (0, .ref w), (1, .ref pt_a), (2, .int (3 : Int32)), (3, .int xu), (4, .int xn)]) hx hb dX4_countFrom_30 hl (by decide) rfl (fun ls hl => ?_)
    refine lv_iconst (v := (0 : Int32)) hx hb dX4_countFrom_32 (by decide) ?_
    refine lv_istore (lv' := [(6, .int (0 : Int32)), (5, .int (0 : Int32)), (0, .ref w), (1, .ref pt_a), (2, .int (3 : Int32)), (3, .int xu), (4, .int xn)]) hx hb dX4_countFrom_33 hl (by decide) rfl (fun ls hl => ?_)
    obtain ⟨F35_1, hF35_1⟩ : ∃ x, (lp_X4_cf3_35 w_there w_near xu xn 8 0 pt (0 : Int32)) = x := ⟨_, rfl⟩
    try rw [hF35_1] at hR
    have hexit35 : ∀ (H : Heap) (locs : List Loc), va_P D vwCl [(w, .inr (7, [.ref w_points_a, .ref w_tired_a, .ref w_near_a, .int w_there, .int w_free, .int w_held, .int w_wind, .int w_oil, .int w_hour, .int w_sights, .int w_agreedTo, .int w_refused])), (w_near_a, .inl (cI, 7, .inl w_near)), (pt_a, .inl (cI, 8, .inl F35_1.1))] H → va_D (va_In [(w, .inr (7, [.ref w_points_a, .ref w_tired_a, .ref w_near_a, .int w_there, .int w_free, .int w_held, .int w_wind, .int w_oil, .int w_hour, .int w_sights, .int w_agreedTo, .int w_refused])), (w_near_a, .inl (cI, 7, .inl w_near)), (pt_a, .inl (cI, 8, .inl pt))]) [(w, .inr (7, [.ref w_points_a, .ref w_tired_a, .ref w_near_a, .int w_there, .int w_free, .int w_held, .int w_wind, .int w_oil, .int w_hour, .int w_sights, .int w_agreedTo, .int w_refused])), (w_near_a, .inl (cI, 7, .inl w_near)), (pt_a, .inl (cI, 8, .inl F35_1.1))] → va_S (va_In [(w, .inr (7, [.ref w_points_a, .ref w_tired_a, .ref w_near_a, .int w_there, .int w_free, .int w_held, .int w_wind, .int w_oil, .int w_hour, .int w_sights, .int w_agreedTo, .int w_refused])), (w_near_a, .inl (cI, 7, .inl w_near)), (pt_a, .inl (cI, 8, .inl pt))]) s.heap H locs → ∀ (ls : Array Slot), lv_has ls 8 [(5, .int F35_1.2), (0, .ref w), (1, .ref pt_a), (2, .int (3 : Int32)), (3, .int xu), (4, .int xn)] → W p l e ({ frames := 6, cells := 0, slots := 0, locals := 149 }) s m args below meth c H locs 0 0 (MQ below (rw_Q D (some (.int R0)) [(w, .inr (7, [.ref w_points_a, .ref w_tired_a, .ref w_near_a, .int w_there, .int w_free, .int w_held, .int w_wind, .int w_oil, .int w_hour, .int w_sights, .int w_agreedTo, .int w_refused])), (w_near_a, .inl (cI, 7, .inl w_near)), (pt_a, .inl (cI, 8, .inl pt))] [(w, .inr (7, [.ref w_points_a, .ref w_tired_a, .ref w_near_a, .int w_there, .int w_free, .int w_held, .int w_wind, .int w_oil, .int w_hour, .int w_sights, .int w_agreedTo, .int w_refused])), (w_near_a, .inl (cI, 7, .inl w_near)), (pt_a, .inl (cI, 8, .inl R1))]) args s 0 0 (va_In [(w, .inr (7, [.ref w_points_a, .ref w_tired_a, .ref w_near_a, .int w_there, .int w_free, .int w_held, .int w_wind, .int w_oil, .int w_hour, .int w_sights, .int w_agreedTo, .int w_refused])), (w_near_a, .inl (cI, 7, .inl w_near)), (pt_a, .inl (cI, 8, .inl pt))])) (F0 m 147 ls []) := by
      intro H locs hP hD hS ls hl
      refine lv_iload hx hb dX4_countFrom_147 (lv_at hl 0 rfl) ?_
      obtain ⟨rfl, rfl⟩ := prodI2 hR
      exact rw_iret hx hb hr hlocks hP hS dX4_countFrom_149
    have hloop35 : ∀ (k35 i35 : Nat) (r2_35 : Nat → Int32) (v5_35 : Int32), i35 + k35 = 8 → ∀ (H : Heap) (locs : List Loc), va_P D vwCl [(w, .inr (7, [.ref w_points_a, .ref w_tired_a, .ref w_near_a, .int w_there, .int w_free, .int w_held, .int w_wind, .int w_oil, .int w_hour, .int w_sights, .int w_agreedTo, .int w_refused])), (w_near_a, .inl (cI, 7, .inl w_near)), (pt_a, .inl (cI, 8, .inl r2_35))] H → va_D (va_In [(w, .inr (7, [.ref w_points_a, .ref w_tired_a, .ref w_near_a, .int w_there, .int w_free, .int w_held, .int w_wind, .int w_oil, .int w_hour, .int w_sights, .int w_agreedTo, .int w_refused])), (w_near_a, .inl (cI, 7, .inl w_near)), (pt_a, .inl (cI, 8, .inl pt))]) [(w, .inr (7, [.ref w_points_a, .ref w_tired_a, .ref w_near_a, .int w_there, .int w_free, .int w_held, .int w_wind, .int w_oil, .int w_hour, .int w_sights, .int w_agreedTo, .int w_refused])), (w_near_a, .inl (cI, 7, .inl w_near)), (pt_a, .inl (cI, 8, .inl r2_35))] → va_S (va_In [(w, .inr (7, [.ref w_points_a, .ref w_tired_a, .ref w_near_a, .int w_there, .int w_free, .int w_held, .int w_wind, .int w_oil, .int w_hour, .int w_sights, .int w_agreedTo, .int w_refused])), (w_near_a, .inl (cI, 7, .inl w_near)), (pt_a, .inl (cI, 8, .inl pt))]) s.heap H locs → ∀ (ls : Array Slot), lv_has ls 8 [(6, .int (nI i35)), (5, .int v5_35), (0, .ref w), (1, .ref pt_a), (2, .int (3 : Int32)), (3, .int xu), (4, .int xn)] → lp_X4_cf3_35 w_there w_near xu xn k35 i35 r2_35 v5_35 = F35_1 → W p l e ({ frames := 6, cells := 0, slots := 0, locals := 149 }) s m args below meth c H locs 0 0 (MQ below (rw_Q D (some (.int R0)) [(w, .inr (7, [.ref w_points_a, .ref w_tired_a, .ref w_near_a, .int w_there, .int w_free, .int w_held, .int w_wind, .int w_oil, .int w_hour, .int w_sights, .int w_agreedTo, .int w_refused])), (w_near_a, .inl (cI, 7, .inl w_near)), (pt_a, .inl (cI, 8, .inl pt))] [(w, .inr (7, [.ref w_points_a, .ref w_tired_a, .ref w_near_a, .int w_there, .int w_free, .int w_held, .int w_wind, .int w_oil, .int w_hour, .int w_sights, .int w_agreedTo, .int w_refused])), (w_near_a, .inl (cI, 7, .inl w_near)), (pt_a, .inl (cI, 8, .inl R1))]) args s 0 0 (va_In [(w, .inr (7, [.ref w_points_a, .ref w_tired_a, .ref w_near_a, .int w_there, .int w_free, .int w_held, .int w_wind, .int w_oil, .int w_hour, .int w_sights, .int w_agreedTo, .int w_refused])), (w_near_a, .inl (cI, 7, .inl w_near)), (pt_a, .inl (cI, 8, .inl pt))])) (F0 m 35 ls []) := by
      intro k35
      induction k35 with
      | zero =>
        intro i35 r2_35 v5_35 h35  H locs hP hD hS ls hl hR
        obtain rfl : 8 = i35 := by omega
        rw [lp_X4_cf3_35] at hR
        refine lv_iload hx hb dX4_countFrom_35 (lv_at hl 0 rfl) ?_
        refine lv_iload_n hx hb dX4_countFrom_37 rfl (lv_at hl 5 rfl) ?_
        refine lv_icmp_gt (tgt := 147) hx hb dX4_countFrom_38 (by decide) (fun c38 => ?_) (fun c38 => ?_)
        · subst hR
          exact hexit35 _ _ hP hD hS _ (lv_sub hl [1, 2, 3, 4, 5, 6] rfl)
        · refine lv_iload hx hb dX4_countFrom_41 (lv_at hl 0 rfl) ?_
          refine lv_iload hx hb dX4_countFrom_43 (lv_at hl 6 rfl) ?_
          refine lv_icmp_ge (tgt := 147) hx hb dX4_countFrom_45 (by decide) (fun c45 => ?_) (fun c45 => ?_)
          · subst hR
            exact hexit35 _ _ hP hD hS _ (lv_sub hl [1, 2, 3, 4, 5, 6] rfl)
          · refine lv_iload hx hb dX4_countFrom_48 (lv_at hl 0 rfl) ?_
            refine lv_bipush (v := (8 : Int32)) hx hb dX4_countFrom_50 (by decide +kernel) ?_
            refine lv_icmp_ge (tgt := 147) hx hb dX4_countFrom_52 (by decide) (fun _ => ?_) (fun h => absurd (cle_t (a := 8) (b := 8) rfl rfl (by omega) (by omega)) h)
            subst hR
            exact hexit35 _ _ hP hD hS _ (lv_sub hl [1, 2, 3, 4, 5, 6] rfl)
      | succ k35 ih35 =>
        intro i35 r2_35 v5_35 h35  H locs hP hD hS ls hl hR
        rw [lp_X4_cf3_35] at hR
        refine lv_iload hx hb dX4_countFrom_35 (lv_at hl 0 rfl) ?_
        refine lv_iload_n hx hb dX4_countFrom_37 rfl (lv_at hl 5 rfl) ?_
        refine lv_icmp_gt (tgt := 147) hx hb dX4_countFrom_38 (by decide) (fun c38 => ?_) (fun c38 => ?_)
        · rw [if_pos c38] at hR
          subst hR
          exact hexit35 _ _ hP hD hS _ (lv_sub hl [1, 2, 3, 4, 5, 6] rfl)
        · rw [if_neg c38] at hR
          refine lv_iload hx hb dX4_countFrom_41 (lv_at hl 0 rfl) ?_
          refine lv_iload hx hb dX4_countFrom_43 (lv_at hl 6 rfl) ?_
          refine lv_icmp_ge (tgt := 147) hx hb dX4_countFrom_45 (by decide) (fun c45 => ?_) (fun c45 => ?_)
          · rw [if_pos c45] at hR
            subst hR
            exact hexit35 _ _ hP hD hS _ (lv_sub hl [1, 2, 3, 4, 5, 6] rfl)
          · rw [if_neg c45] at hR
            refine lv_iload hx hb dX4_countFrom_48 (lv_at hl 0 rfl) ?_
            refine lv_bipush (v := (8 : Int32)) hx hb dX4_countFrom_50 (by decide +kernel) ?_
            refine lv_icmp_ge (tgt := 147) hx hb dX4_countFrom_52 (by decide) (fun h => absurd h (cle_f (a := 8) (b := i35) rfl rfl (by omega) (by omega))) (fun _ => ?_)
            refine lv_aload_n hx hb dX4_countFrom_55 rfl (lv_at hl 3 rfl) ?_
            refine lv_iload hx hb dX4_countFrom_56 (lv_at hl 0 rfl) ?_
            refine ia_ld hx hb hK hP 2 rfl (i := i35) (by omega) (by decide) dX4_countFrom_58 ?_
            refine lv_aload_n hx hb dX4_countFrom_59 rfl (lv_at hl 2 rfl) ?_
            refine va_getN (D := D) (ci := 7) (v := .ref w_near_a) (C := RX7) (T := TX7) (N := 12) hx hb hts in_X4_countFrom_X7 hown hK.1 hP 0 rfl rfl 2 (by decide) (va_Nw.use rfl (hK.2 _ gN_3)) (fun _ h9 => h9) rfl dX4_countFrom_60 ?_
            refine lv_iload_n hx hb dX4_countFrom_63 rfl (lv_at hl 4 rfl) ?_
            refine ia_ld hx hb hK hP 1 rfl (i := 3) (by omega) (by decide) dX4_countFrom_64 ?_
            refine lv_iand hx hb dX4_countFrom_65 ?_
            refine lv_if_eq (tgt := 72) hx hb dX4_countFrom_66 (by decide) (fun c66 => ?_) (fun c66 => ?_)
            · rw [if_pos c66] at hR
              refine lv_aload_n hx hb dX4_countFrom_72 rfl (lv_at hl 3 rfl) ?_
              refine lv_iload hx hb dX4_countFrom_73 (lv_at hl 0 rfl) ?_
              refine lv_aload_n hx hb dX4_countFrom_75 rfl (lv_at hl 3 rfl) ?_
              refine lv_iload hx hb dX4_countFrom_76 (lv_at hl 0 rfl) ?_
              refine ia_ld hx hb hK hP 2 rfl (i := i35) (by omega) (by decide) dX4_countFrom_78 ?_
              refine lv_iload_n hx hb dX4_countFrom_79 rfl (lv_at hl 4 rfl) ?_
              refine lv_iconst (v := (1 : Int32)) hx hb dX4_countFrom_80 (by decide) ?_
              refine ro_SN (As := [.int (r2_35 i35), .int (3 : Int32), .int (1 : Int32)]) (rest := [.int (nI i35), .ref pt_a]) ⟨hx, hb, hml, hown, hts⟩ hK (c_X8_withBit l D cI cJ cZ (r2_35 i35) (3 : Int32) (1 : Int32)) va_P_nil (va_cnB 3 hts gX4_countFrom_X8_withBit_n39 rfl rfl rfl (hK.2 _ gN_46) hq0 hd_X8_withBit ⟨(Nat.le_of_ble_eq_true rfl), (Nat.le_of_ble_eq_true rfl)⟩) hq2 rfl hl.1 rfl (Nat.le_of_ble_eq_true rfl) dX4_countFrom_81 (Nat.zero_le _) (Nat.zero_le _) ?_
              refine ia_st hx hb hK hP hD hS 2 rfl (i := i35) (by omega) (by decide) dX4_countFrom_84 (fun H locs hP hD hS => ?_)
              have hP : va_P D vwCl [(w, .inr (7, [.ref w_points_a, .ref w_tired_a, .ref w_near_a, .int w_there, .int w_free, .int w_held, .int w_wind, .int w_oil, .int w_hour, .int w_sights, .int w_agreedTo, .int w_refused])), (w_near_a, .inl (cI, 7, .inl w_near)), (pt_a, .inl (cI, 8, .inl (upd r2_35 i35 (f_X8_withBit (r2_35 i35) (3 : Int32) (1 : Int32)))))] H := hP
              have hD : va_D _ [(w, .inr (7, [.ref w_points_a, .ref w_tired_a, .ref w_near_a, .int w_there, .int w_free, .int w_held, .int w_wind, .int w_oil, .int w_hour, .int w_sights, .int w_agreedTo, .int w_refused])), (w_near_a, .inl (cI, 7, .inl w_near)), (pt_a, .inl (cI, 8, .inl (upd r2_35 i35 (f_X8_withBit (r2_35 i35) (3 : Int32) (1 : Int32)))))] := hD
              refine lv_aload_n hx hb dX4_countFrom_85 rfl (lv_at hl 2 rfl) ?_
              refine lv_aload_n hx hb dX4_countFrom_86 rfl (lv_at hl 3 rfl) ?_
              refine lv_iload_n hx hb dX4_countFrom_87 rfl (lv_at hl 4 rfl) ?_
              refine lv_iconst (v := (1 : Int32)) hx hb dX4_countFrom_88 (by decide) ?_
              refine lv_iadd hx hb dX4_countFrom_89 ?_
              rw [show ((3 : Int32) + (1 : Int32)) = (4 : Int32) from nI_add 3 1]
              refine lv_iload_n hx hb dX4_countFrom_90 rfl (lv_at hl 5 rfl) ?_
              refine lv_iload hx hb dX4_countFrom_91 (lv_at hl 0 rfl) ?_
              refine lv_iconst (v := (1 : Int32)) hx hb dX4_countFrom_93 (by decide) ?_
              refine lv_iadd hx hb dX4_countFrom_94 ?_
              rw [show ((nI i35) + (1 : Int32)) = (nI (i35 + 1)) from nI_add i35 1]
              refine va_mmax (rest := [.int (4 : Int32), .ref pt_a, .ref w]) hx hb (hml.trans hl.1.symm) hown hq3 hq4 hq5 hq6 (Nat.le_of_ble_eq_true rfl) (Nat.le_of_ble_eq_true rfl) (Nat.zero_le _) (Nat.zero_le _) dX4_countFrom_95 ?_
              refine lv_iload hx hb dX4_countFrom_98 (lv_at hl 6 rfl) ?_
              refine rw_S (As := [.ref w, .ref pt_a, .int (4 : Int32), .int (if xu < (nI (i35 + 1)) then (nI (i35 + 1)) else xu), .int xn]) (rest := []) (wr := []) (ws2 := [(w, .inr (7, [.ref w_points_a, .ref w_tired_a, .ref w_near_a, .int w_there, .int w_free, .int w_held, .int w_wind, .int w_oil, .int w_hour, .int w_sights, .int w_agreedTo, .int w_refused])), (w_near_a, .inl (cI, 7, .inl w_near)), (pt_a, .inl (cI, 8, .inl ((f_X4_cf4 w_there w_near (upd r2_35 i35 (f_X8_withBit (r2_35 i35) (3 : Int32) (1 : Int32))) (if xu < (nI (i35 + 1)) then (nI (i35 + 1)) else xu) xn).2)))]) (st1 := [.int ((f_X4_cf4 w_there w_near (upd r2_35 i35 (f_X8_withBit (r2_35 i35) (3 : Int32) (1 : Int32))) (if xu < (nI (i35 + 1)) then (nI (i35 + 1)) else xu) xn).1)]) ⟨hx, hb, hml, hown, hts⟩ hK hP hD hS (c_X4_cf4 l D cI cJ cZ w w_points_a w_tired_a w_near_a w_there w_free w_held w_wind w_oil w_hour w_sights w_agreedTo w_refused w_near pt_a (upd r2_35 i35 (f_X8_withBit (r2_35 i35) (3 : Int32) (1 : Int32))) (if xu < (nI (i35 + 1)) then (nI (i35 + 1)) else xu) xn) [0, 1, 2] [] [0, 1, 2] rfl rfl (by decide) (by decide) rfl rfl rfl (va_cwS 5 hts gX4_countFrom_X4_countFrom rfl rfl rfl hd_X4_countFrom ⟨(Nat.le_of_ble_eq_true rfl), (Nat.le_of_ble_eq_true rfl)⟩) rfl hl.1 rfl (Nat.le_of_ble_eq_true rfl) dX4_countFrom_100 (Nat.zero_le _) (Nat.zero_le _) (fun H locs hP hD hS => ?_)
              refine lv_istore (lv' := [(7, .int ((f_X4_cf4 w_there w_near (upd r2_35 i35 (f_X8_withBit (r2_35 i35) (3 : Int32) (1 : Int32))) (if xu < (nI (i35 + 1)) then (nI (i35 + 1)) else xu) xn).1)), (6, .int (nI i35)), (5, .int v5_35), (0, .ref w), (1, .ref pt_a), (2, .int (3 : Int32)), (3, .int xu), (4, .int xn)]) hx hb dX4_countFrom_103 hl (by decide) rfl (fun ls hl => ?_)
              refine lv_aload_n hx hb dX4_countFrom_105 rfl (lv_at hl 4 rfl) ?_
              refine lv_iload hx hb dX4_countFrom_106 (lv_at hl 1 rfl) ?_
              refine lv_aload_n hx hb dX4_countFrom_108 rfl (lv_at hl 4 rfl) ?_
              refine lv_iload hx hb dX4_countFrom_109 (lv_at hl 1 rfl) ?_
              refine ia_ld hx hb hK hP 2 rfl (i := i35) (by omega) (by decide) dX4_countFrom_111 ?_
              refine lv_iload_n hx hb dX4_countFrom_112 rfl (lv_at hl 5 rfl) ?_
              refine lv_iconst (v := (0 : Int32)) hx hb dX4_countFrom_113 (by decide) ?_
              refine ro_SN (As := [.int (((f_X4_cf4 w_there w_near (upd r2_35 i35 (f_X8_withBit (r2_35 i35) (3 : Int32) (1 : Int32))) (if xu < (nI (i35 + 1)) then (nI (i35 + 1)) else xu) xn).2) i35), .int (3 : Int32), .int (0 : Int32)]) (rest := [.int (nI i35), .ref pt_a]) ⟨hx, hb, hml, hown, hts⟩ hK (c_X8_withBit l D cI cJ cZ (((f_X4_cf4 w_there w_near (upd r2_35 i35 (f_X8_withBit (r2_35 i35) (3 : Int32) (1 : Int32))) (if xu < (nI (i35 + 1)) then (nI (i35 + 1)) else xu) xn).2) i35) (3 : Int32) (0 : Int32)) va_P_nil (va_cnB 3 hts gX4_countFrom_X8_withBit_n39 rfl rfl rfl (hK.2 _ gN_46) hq0 hd_X8_withBit ⟨(Nat.le_of_ble_eq_true rfl), (Nat.le_of_ble_eq_true rfl)⟩) hq2 rfl hl.1 rfl (Nat.le_of_ble_eq_true rfl) dX4_countFrom_114 (Nat.zero_le _) (Nat.zero_le _) ?_
              refine ia_st hx hb hK hP hD hS 2 rfl (i := i35) (by omega) (by decide) dX4_countFrom_117 (fun H locs hP hD hS => ?_)
              have hP : va_P D vwCl [(w, .inr (7, [.ref w_points_a, .ref w_tired_a, .ref w_near_a, .int w_there, .int w_free, .int w_held, .int w_wind, .int w_oil, .int w_hour, .int w_sights, .int w_agreedTo, .int w_refused])), (w_near_a, .inl (cI, 7, .inl w_near)), (pt_a, .inl (cI, 8, .inl (upd ((f_X4_cf4 w_there w_near (upd r2_35 i35 (f_X8_withBit (r2_35 i35) (3 : Int32) (1 : Int32))) (if xu < (nI (i35 + 1)) then (nI (i35 + 1)) else xu) xn).2) i35 (f_X8_withBit (((f_X4_cf4 w_there w_near (upd r2_35 i35 (f_X8_withBit (r2_35 i35) (3 : Int32) (1 : Int32))) (if xu < (nI (i35 + 1)) then (nI (i35 + 1)) else xu) xn).2) i35) (3 : Int32) (0 : Int32)))))] H := hP
              have hD : va_D _ [(w, .inr (7, [.ref w_points_a, .ref w_tired_a, .ref w_near_a, .int w_there, .int w_free, .int w_held, .int w_wind, .int w_oil, .int w_hour, .int w_sights, .int w_agreedTo, .int w_refused])), (w_near_a, .inl (cI, 7, .inl w_near)), (pt_a, .inl (cI, 8, .inl (upd ((f_X4_cf4 w_there w_near (upd r2_35 i35 (f_X8_withBit (r2_35 i35) (3 : Int32) (1 : Int32))) (if xu < (nI (i35 + 1)) then (nI (i35 + 1)) else xu) xn).2) i35 (f_X8_withBit (((f_X4_cf4 w_there w_near (upd r2_35 i35 (f_X8_withBit (r2_35 i35) (3 : Int32) (1 : Int32))) (if xu < (nI (i35 + 1)) then (nI (i35 + 1)) else xu) xn).2) i35) (3 : Int32) (0 : Int32)))))] := hD
              refine lv_iload hx hb dX4_countFrom_118 (lv_at hl 2 rfl) ?_
              refine lv_iload hx hb dX4_countFrom_120 (lv_at hl 1 rfl) ?_
              refine lv_iload_n hx hb dX4_countFrom_122 rfl (lv_at hl 6 rfl) ?_
              refine lv_icmp_ne (tgt := 136) hx hb dX4_countFrom_123 (by decide) (fun c123 => ?_) (fun c123 => ?_)
              · rw [if_neg c123] at hR
                refine lv_iload hx hb dX4_countFrom_136 (lv_at hl 0 rfl) ?_
                refine lv_iadd hx hb dX4_countFrom_138 ?_
                refine lv_istore (lv' := [(5, .int (v5_35 + ((f_X4_cf4 w_there w_near (upd r2_35 i35 (f_X8_withBit (r2_35 i35) (3 : Int32) (1 : Int32))) (if xu < (nI (i35 + 1)) then (nI (i35 + 1)) else xu) xn).1))), (7, .int ((f_X4_cf4 w_there w_near (upd r2_35 i35 (f_X8_withBit (r2_35 i35) (3 : Int32) (1 : Int32))) (if xu < (nI (i35 + 1)) then (nI (i35 + 1)) else xu) xn).1)), (6, .int (nI i35)), (0, .ref w), (1, .ref pt_a), (2, .int (3 : Int32)), (3, .int xu), (4, .int xn)]) hx hb dX4_countFrom_139 hl (by decide) rfl (fun ls hl => ?_)
                refine lv_iinc (v := (nI (i35 + 1))) (lv' := [(6, .int (nI (i35 + 1))), (5, .int (v5_35 + ((f_X4_cf4 w_there w_near (upd r2_35 i35 (f_X8_withBit (r2_35 i35) (3 : Int32) (1 : Int32))) (if xu < (nI (i35 + 1)) then (nI (i35 + 1)) else xu) xn).1))), (7, .int ((f_X4_cf4 w_there w_near (upd r2_35 i35 (f_X8_withBit (r2_35 i35) (3 : Int32) (1 : Int32))) (if xu < (nI (i35 + 1)) then (nI (i35 + 1)) else xu) xn).1)), (0, .ref w), (1, .ref pt_a), (2, .int (3 : Int32)), (3, .int xu), (4, .int xn)]) hx hb dX4_countFrom_141 hl (k := 2) rfl (by exact nI_add i35 1) (by decide) rfl (fun ls hl => ?_)
                refine lv_goto (tgt := 35) hx hb dX4_countFrom_144 (by decide) ?_
                exact ih35 _ _ _ (by omega) _ _ hP hD hS _ (lv_sub hl [0, 1, 3, 4, 5, 6, 7] rfl) hR
              · rw [if_pos c123] at hR
                refine lv_iload hx hb dX4_countFrom_126 (lv_at hl 7 rfl) ?_
                refine lv_iload_n hx hb dX4_countFrom_128 rfl (lv_at hl 6 rfl) ?_
                refine lv_isub hx hb dX4_countFrom_129 ?_
                refine lv_iload hx hb dX4_countFrom_130 (lv_at hl 0 rfl) ?_
                refine lv_imul hx hb dX4_countFrom_132 ?_
                refine lv_goto (tgt := 138) hx hb dX4_countFrom_133 (by decide) ?_
                refine lv_iadd hx hb dX4_countFrom_138 ?_
                refine lv_istore (lv' := [(5, .int (v5_35 + ((xn - xu) * ((f_X4_cf4 w_there w_near (upd r2_35 i35 (f_X8_withBit (r2_35 i35) (3 : Int32) (1 : Int32))) (if xu < (nI (i35 + 1)) then (nI (i35 + 1)) else xu) xn).1)))), (7, .int ((f_X4_cf4 w_there w_near (upd r2_35 i35 (f_X8_withBit (r2_35 i35) (3 : Int32) (1 : Int32))) (if xu < (nI (i35 + 1)) then (nI (i35 + 1)) else xu) xn).1)), (6, .int (nI i35)), (0, .ref w), (1, .ref pt_a), (2, .int (3 : Int32)), (3, .int xu), (4, .int xn)]) hx hb dX4_countFrom_139 hl (by decide) rfl (fun ls hl => ?_)
                refine lv_iinc (v := (nI (i35 + 1))) (lv' := [(6, .int (nI (i35 + 1))), (5, .int (v5_35 + ((xn - xu) * ((f_X4_cf4 w_there w_near (upd r2_35 i35 (f_X8_withBit (r2_35 i35) (3 : Int32) (1 : Int32))) (if xu < (nI (i35 + 1)) then (nI (i35 + 1)) else xu) xn).1)))), (7, .int ((f_X4_cf4 w_there w_near (upd r2_35 i35 (f_X8_withBit (r2_35 i35) (3 : Int32) (1 : Int32))) (if xu < (nI (i35 + 1)) then (nI (i35 + 1)) else xu) xn).1)), (0, .ref w), (1, .ref pt_a), (2, .int (3 : Int32)), (3, .int xu), (4, .int xn)]) hx hb dX4_countFrom_141 hl (k := 2) rfl (by exact nI_add i35 1) (by decide) rfl (fun ls hl => ?_)
                refine lv_goto (tgt := 35) hx hb dX4_countFrom_144 (by decide) ?_
                exact ih35 _ _ _ (by omega) _ _ hP hD hS _ (lv_sub hl [0, 1, 3, 4, 5, 6, 7] rfl) hR
            · rw [if_neg c66] at hR
              refine lv_goto (tgt := 141) hx hb dX4_countFrom_69 (by decide) ?_
              refine lv_iinc (v := (nI (i35 + 1))) (lv' := [(6, .int (nI (i35 + 1))), (5, .int v5_35), (0, .ref w), (1, .ref pt_a), (2, .int (3 : Int32)), (3, .int xu), (4, .int xn)]) hx hb dX4_countFrom_141 hl (k := 0) rfl (by exact nI_add i35 1) (by decide) rfl (fun ls hl => ?_)
              refine lv_goto (tgt := 35) hx hb dX4_countFrom_144 (by decide) ?_
              exact ih35 _ _ _ (by omega) _ _ hP hD hS _ (lv_sub hl [0, 1, 2, 3, 4, 5, 6] rfl) hR
    exact hloop35 8 0 _ _ (by omega) _ _ hP hD hS _ hl hF35_1
  · rw [if_pos c14] at hR
    refine lv_aload_n hx hb dX4_countFrom_17 rfl (lv_at hl 0 rfl) ?_
    refine lv_aload_n hx hb dX4_countFrom_18 rfl (lv_at hl 1 rfl) ?_
    refine lv_iload_n hx hb dX4_countFrom_19 rfl (lv_at hl 2 rfl) ?_
    refine lv_iconst (v := (1 : Int32)) hx hb dX4_countFrom_20 (by decide) ?_
    refine lv_iadd hx hb dX4_countFrom_21 ?_
    rw [show ((3 : Int32) + (1 : Int32)) = (4 : Int32) from nI_add 3 1]
    refine lv_iload_n hx hb dX4_countFrom_22 rfl (lv_at hl 3 rfl) ?_
    refine lv_iload hx hb dX4_countFrom_23 (lv_at hl 4 rfl) ?_
    refine rw_S (As := [.ref w, .ref pt_a, .int (4 : Int32), .int xu, .int xn]) (rest := []) (wr := []) (ws2 := [(w, .inr (7, [.ref w_points_a, .ref w_tired_a, .ref w_near_a, .int w_there, .int w_free, .int w_held, .int w_wind, .int w_oil, .int w_hour, .int w_sights, .int w_agreedTo, .int w_refused])), (w_near_a, .inl (cI, 7, .inl w_near)), (pt_a, .inl (cI, 8, .inl ((f_X4_cf4 w_there w_near pt xu xn).2)))]) (st1 := [.int ((f_X4_cf4 w_there w_near pt xu xn).1)]) ⟨hx, hb, hml, hown, hts⟩ hK hP hD hS (c_X4_cf4 l D cI cJ cZ w w_points_a w_tired_a w_near_a w_there w_free w_held w_wind w_oil w_hour w_sights w_agreedTo w_refused w_near pt_a pt xu xn) [0, 1, 2] [] [0, 1, 2] rfl rfl (by decide) (by decide) rfl rfl rfl (va_cwS 5 hts gX4_countFrom_X4_countFrom rfl rfl rfl hd_X4_countFrom ⟨(Nat.le_of_ble_eq_true rfl), (Nat.le_of_ble_eq_true rfl)⟩) rfl hl.1 rfl (Nat.le_of_ble_eq_true rfl) dX4_countFrom_25 (Nat.zero_le _) (Nat.zero_le _) (fun H locs hP hD hS => ?_)
    obtain ⟨rfl, rfl⟩ := prodI2 hR
    exact rw_iret hx hb hr hlocks hP hS dX4_countFrom_28


def lp_X4_cf2_35 (w_there : Int32) (w_near : Nat → Int32) (xu : Int32) (xn : Int32) : Nat → Nat → (Nat → Int32) → Int32 → (Nat → Int32) × Int32
  | 0, _, r2_35, v5_35 => (r2_35, v5_35)
  | k35 + 1, i35, r2_35, v5_35 => (if (xu < (nI i35)) then (r2_35, v5_35) else (if (xn ≤ (nI i35)) then (r2_35, v5_35) else (if (((r2_35 i35) &&& (w_near 2)) = 0) then (if ((nI i35) = xu) then (lp_X4_cf2_35 w_there w_near xu xn k35 (i35 + 1) (upd ((f_X4_cf3 w_there w_near (upd r2_35 i35 (f_X8_withBit (r2_35 i35) (2 : Int32) (1 : Int32))) (if xu < (nI (i35 + 1)) then (nI (i35 + 1)) else xu) xn).2) i35 (f_X8_withBit (((f_X4_cf3 w_there w_near (upd r2_35 i35 (f_X8_withBit (r2_35 i35) (2 : Int32) (1 : Int32))) (if xu < (nI (i35 + 1)) then (nI (i35 + 1)) else xu) xn).2) i35) (2 : Int32) (0 : Int32))) (v5_35 + ((xn - xu) * ((f_X4_cf3 w_there w_near (upd r2_35 i35 (f_X8_withBit (r2_35 i35) (2 : Int32) (1 : Int32))) (if xu < (nI (i35 + 1)) then (nI (i35 + 1)) else xu) xn).1)))) else (lp_X4_cf2_35 w_there w_near xu xn k35 (i35 + 1) (upd ((f_X4_cf3 w_there w_near (upd r2_35 i35 (f_X8_withBit (r2_35 i35) (2 : Int32) (1 : Int32))) (if xu < (nI (i35 + 1)) then (nI (i35 + 1)) else xu) xn).2) i35 (f_X8_withBit (((f_X4_cf3 w_there w_near (upd r2_35 i35 (f_X8_withBit (r2_35 i35) (2 : Int32) (1 : Int32))) (if xu < (nI (i35 + 1)) then (nI (i35 + 1)) else xu) xn).2) i35) (2 : Int32) (0 : Int32))) (v5_35 + ((f_X4_cf3 w_there w_near (upd r2_35 i35 (f_X8_withBit (r2_35 i35) (2 : Int32) (1 : Int32))) (if xu < (nI (i35 + 1)) then (nI (i35 + 1)) else xu) xn).1)))) else (lp_X4_cf2_35 w_there w_near xu xn k35 (i35 + 1) r2_35 v5_35))))
def f_X4_cf2 (w_there : Int32) (w_near : Nat → Int32) (pt : Nat → Int32) (xu : Int32) (xn : Int32) : Int32 × (Nat → Int32) :=
  (if ((f_X7_isThere w_there (2 : Int32)) = 0) then (((f_X4_cf3 w_there w_near pt xu xn).1), ((f_X4_cf3 w_there w_near pt xu xn).2)) else ((lp_X4_cf2_35 w_there w_near xu xn 8 0 pt (0 : Int32)).2, (lp_X4_cf2_35 w_there w_near xu xn 8 0 pt (0 : Int32)).1))
set_option maxHeartbeats 4000000 in
set_option maxRecDepth 100000 in
theorem c_X4_cf2 (l : Launch) (D : va_G) (cI cJ cZ : ClassId) (w : Nat) (w_points_a : Nat) (w_tired_a : Nat) (w_near_a : Nat) (w_there : Int32) (w_free : Int32) (w_held : Int32) (w_wind : Int32) (w_oil : Int32) (w_hour : Int32) (w_sights : Int32) (w_agreedTo : Int32) (w_refused : Int32) (w_near : Nat → Int32) (pt_a : Nat) (pt : Nat → Int32) (xu : Int32) (xn : Int32) : RW l yX4_countFrom wsX4_countFrom ({ frames := 7, cells := 0, slots := 0, locals := 176 }) [.ref w, .ref pt_a, .int (2 : Int32), .int xu, .int xn] D cI cJ cZ [(w, .inr (7, [.ref w_points_a, .ref w_tired_a, .ref w_near_a, .int w_there, .int w_free, .int w_held, .int w_wind, .int w_oil, .int w_hour, .int w_sights, .int w_agreedTo, .int w_refused])), (w_near_a, .inl (cI, 7, .inl w_near)), (pt_a, .inl (cI, 8, .inl pt))] (some (.int ((f_X4_cf2 w_there w_near pt xu xn).1))) [(w, .inr (7, [.ref w_points_a, .ref w_tired_a, .ref w_near_a, .int w_there, .int w_free, .int w_held, .int w_wind, .int w_oil, .int w_hour, .int w_sights, .int w_agreedTo, .int w_refused])), (w_near_a, .inl (cI, 7, .inl w_near)), (pt_a, .inl (cI, 8, .inl ((f_X4_cf2 w_there w_near pt xu xn).2)))] := by
  obtain ⟨R0, R1, hR⟩ := prodE2 (f_X4_cf2 w_there w_near pt xu xn)
  rw [hR]
  dsimp only
  refine rw_start (cc := cX4_countFrom) (maxL := 8) (ret := (some .int)) (by decide) rfl (Nat.le_of_ble_eq_true rfl) ?_
  intro p e s m args below meth c hx hb hr hml hown hts hlocks hP hD hS hK ls hl
  have hown : s.vm.findClass RX4 = some m.cls := hown
  have hl : lv_has ls 8 [(0, .ref w), (1, .ref pt_a), (2, .int (2 : Int32)), (3, .int xu), (4, .int xn)] := hl
  have hq0 := hts (.initialized RX8) (by decide +kernel)
  have hq1 := hts (.static yX8_isParish) (by decide +kernel)
  have hq2 := hts (.static yX8_withBit) (by decide +kernel)
  have hq3 := hts (.methodLink RX4 43 Lib.Math.max.name) (by decide +kernel)
  have hq4 := hts (.static Lib.Math.max.name) (by decide +kernel)
  have hq5 := hts (.initialized "java/lang/Math") (by decide +kernel)
  have hq6 := hts (.code Lib.Math.max.name Lib.Math.max.code 2 (some .int)) (by decide +kernel)
  rw [f_X4_cf2] at hR
  refine lv_iload_n hx hb dX4_countFrom_0 rfl (lv_at hl 2 rfl) ?_
  refine ro_SN (As := [.int (2 : Int32)]) (rest := []) ⟨hx, hb, hml, hown, hts⟩ hK (c_X8_isParish l D cI cJ cZ (2 : Int32)) va_P_nil (va_cnB 1 hts gX4_countFrom_X8_isParish_n29 rfl rfl rfl (hK.2 _ gN_45) hq0 hd_X8_isParish ⟨(Nat.le_of_ble_eq_true rfl), (Nat.le_of_ble_eq_true rfl)⟩) hq1 rfl hl.1 rfl (Nat.le_of_ble_eq_true rfl) dX4_countFrom_1 (Nat.zero_le _) (Nat.zero_le _) ?_
  refine lv_if_ne (tgt := 9) hx hb dX4_countFrom_4 (by decide) (fun _ => ?_) (fun h => absurd h (by decide))
  refine lv_aload_n hx hb dX4_countFrom_9 rfl (lv_at hl 0 rfl) ?_
  refine lv_iload_n hx hb dX4_countFrom_10 rfl (lv_at hl 2 rfl) ?_
  refine ro_V (As := [.int (2 : Int32)]) (rest := []) ⟨hx, hb, hml, hown, hts⟩ hK (c_X7_isThere l D cI cJ cZ w w_points_a w_tired_a w_near_a w_there w_free w_held w_wind w_oil w_hour w_sights w_agreedTo w_refused (2 : Int32)) hP 0 rfl rfl (rw_sub hP [0] rfl) (cwV 1 hts gX4_countFrom_X7_isThere rfl rfl rfl ⟨rfl, hd_X7_isThere⟩ ⟨(Nat.le_of_ble_eq_true rfl), (Nat.le_of_ble_eq_true rfl)⟩) rfl hl.1 rfl (Nat.le_of_ble_eq_true rfl) dX4_countFrom_11 (Nat.zero_le _) (Nat.zero_le _) ?_
  refine lv_if_ne (tgt := 29) hx hb dX4_countFrom_14 (by decide) (fun c14 => ?_) (fun c14 => ?_)
  · rw [if_neg c14] at hR
    refine lv_iconst (v := (0 : Int32)) hx hb dX4_countFrom_29 (by decide) ?_
    refine lv_istore (lv' := [(5, .int (0 : Int32)), (0, .ref w), (1, .ref pt_a), (2, .int (2 : Int32)), (3, .int xu), (4, .int xn)]) hx hb dX4_countFrom_30 hl (by decide) rfl (fun ls hl => ?_)
    refine lv_iconst (v := (0 : Int32)) hx hb dX4_countFrom_32 (by decide) ?_
    refine lv_istore (lv' := [(6, .int (0 : Int32)), (5, .int (0 : Int32)), (0, .ref w), (1, .ref pt_a), (2, .int (2 : Int32)), (3, .int xu), (4, .int xn)]) hx hb dX4_countFrom_33 hl (by decide) rfl (fun ls hl => ?_)
    obtain ⟨F35_1, hF35_1⟩ : ∃ x, (lp_X4_cf2_35 w_there w_near xu xn 8 0 pt (0 : Int32)) = x := ⟨_, rfl⟩
    try rw [hF35_1] at hR
    have hexit35 : ∀ (H : Heap) (locs : List Loc), va_P D vwCl [(w, .inr (7, [.ref w_points_a, .ref w_tired_a, .ref w_near_a, .int w_there, .int w_free, .int w_held, .int w_wind, .int w_oil, .int w_hour, .int w_sights, .int w_agreedTo, .int w_refused])), (w_near_a, .inl (cI, 7, .inl w_near)), (pt_a, .inl (cI, 8, .inl F35_1.1))] H → va_D (va_In [(w, .inr (7, [.ref w_points_a, .ref w_tired_a, .ref w_near_a, .int w_there, .int w_free, .int w_held, .int w_wind, .int w_oil, .int w_hour, .int w_sights, .int w_agreedTo, .int w_refused])), (w_near_a, .inl (cI, 7, .inl w_near)), (pt_a, .inl (cI, 8, .inl pt))]) [(w, .inr (7, [.ref w_points_a, .ref w_tired_a, .ref w_near_a, .int w_there, .int w_free, .int w_held, .int w_wind, .int w_oil, .int w_hour, .int w_sights, .int w_agreedTo, .int w_refused])), (w_near_a, .inl (cI, 7, .inl w_near)), (pt_a, .inl (cI, 8, .inl F35_1.1))] → va_S (va_In [(w, .inr (7, [.ref w_points_a, .ref w_tired_a, .ref w_near_a, .int w_there, .int w_free, .int w_held, .int w_wind, .int w_oil, .int w_hour, .int w_sights, .int w_agreedTo, .int w_refused])), (w_near_a, .inl (cI, 7, .inl w_near)), (pt_a, .inl (cI, 8, .inl pt))]) s.heap H locs → ∀ (ls : Array Slot), lv_has ls 8 [(5, .int F35_1.2), (0, .ref w), (1, .ref pt_a), (2, .int (2 : Int32)), (3, .int xu), (4, .int xn)] → W p l e ({ frames := 7, cells := 0, slots := 0, locals := 176 }) s m args below meth c H locs 0 0 (MQ below (rw_Q D (some (.int R0)) [(w, .inr (7, [.ref w_points_a, .ref w_tired_a, .ref w_near_a, .int w_there, .int w_free, .int w_held, .int w_wind, .int w_oil, .int w_hour, .int w_sights, .int w_agreedTo, .int w_refused])), (w_near_a, .inl (cI, 7, .inl w_near)), (pt_a, .inl (cI, 8, .inl pt))] [(w, .inr (7, [.ref w_points_a, .ref w_tired_a, .ref w_near_a, .int w_there, .int w_free, .int w_held, .int w_wind, .int w_oil, .int w_hour, .int w_sights, .int w_agreedTo, .int w_refused])), (w_near_a, .inl (cI, 7, .inl w_near)), (pt_a, .inl (cI, 8, .inl R1))]) args s 0 0 (va_In [(w, .inr (7, [.ref w_points_a, .ref w_tired_a, .ref w_near_a, .int w_there, .int w_free, .int w_held, .int w_wind, .int w_oil, .int w_hour, .int w_sights, .int w_agreedTo, .int w_refused])), (w_near_a, .inl (cI, 7, .inl w_near)), (pt_a, .inl (cI, 8, .inl pt))])) (F0 m 147 ls []) := by
      intro H locs hP hD hS ls hl
      refine lv_iload hx hb dX4_countFrom_147 (lv_at hl 0 rfl) ?_
      obtain ⟨rfl, rfl⟩ := prodI2 hR
      exact rw_iret hx hb hr hlocks hP hS dX4_countFrom_149
    have hloop35 : ∀ (k35 i35 : Nat) (r2_35 : Nat → Int32) (v5_35 : Int32), i35 + k35 = 8 → ∀ (H : Heap) (locs : List Loc), va_P D vwCl [(w, .inr (7, [.ref w_points_a, .ref w_tired_a, .ref w_near_a, .int w_there, .int w_free, .int w_held, .int w_wind, .int w_oil, .int w_hour, .int w_sights, .int w_agreedTo, .int w_refused])), (w_near_a, .inl (cI, 7, .inl w_near)), (pt_a, .inl (cI, 8, .inl r2_35))] H → va_D (va_In [(w, .inr (7, [.ref w_points_a, .ref w_tired_a, .ref w_near_a, .int w_there, .int w_free, .int w_held, .int w_wind, .int w_oil, .int w_hour, .int w_sights, .int w_agreedTo, .int w_refused])), (w_near_a, .inl (cI, 7, .inl w_near)), (pt_a, .inl (cI, 8, .inl pt))]) [(w, .inr (7, [.ref w_points_a, .ref w_tired_a, .ref w_near_a, .int w_there, .int w_free, .int w_held, .int w_wind, .int w_oil, .int w_hour, .int w_sights, .int w_agreedTo, .int w_refused])), (w_near_a, .inl (cI, 7, .inl w_near)), (pt_a, .inl (cI, 8, .inl r2_35))] → va_S (va_In [(w, .inr (7, [.ref w_points_a, .ref w_tired_a, .ref w_near_a, .int w_there, .int w_free, .int w_held, .int w_wind, .int w_oil, .int w_hour, .int w_sights, .int w_agreedTo, .int w_refused])), (w_near_a, .inl (cI, 7, .inl w_near)), (pt_a, .inl (cI, 8, .inl pt))]) s.heap H locs → ∀ (ls : Array Slot), lv_has ls 8 [(6, .int (nI i35)), (5, .int v5_35), (0, .ref w), (1, .ref pt_a), (2, .int (2 : Int32)), (3, .int xu), (4, .int xn)] → lp_X4_cf2_35 w_there w_near xu xn k35 i35 r2_35 v5_35 = F35_1 → W p l e ({ frames := 7, cells := 0, slots := 0, locals := 176 }) s m args below meth c H locs 0 0 (MQ below (rw_Q D (some (.int R0)) [(w, .inr (7, [.ref w_points_a, .ref w_tired_a, .ref w_near_a, .int w_there, .int w_free, .int w_held, .int w_wind, .int w_oil, .int w_hour, .int w_sights, .int w_agreedTo, .int w_refused])), (w_near_a, .inl (cI, 7, .inl w_near)), (pt_a, .inl (cI, 8, .inl pt))] [(w, .inr (7, [.ref w_points_a, .ref w_tired_a, .ref w_near_a, .int w_there, .int w_free, .int w_held, .int w_wind, .int w_oil, .int w_hour, .int w_sights, .int w_agreedTo, .int w_refused])), (w_near_a, .inl (cI, 7, .inl w_near)), (pt_a, .inl (cI, 8, .inl R1))]) args s 0 0 (va_In [(w, .inr (7, [.ref w_points_a, .ref w_tired_a, .ref w_near_a, .int w_there, .int w_free, .int w_held, .int w_wind, .int w_oil, .int w_hour, .int w_sights, .int w_agreedTo, .int w_refused])), (w_near_a, .inl (cI, 7, .inl w_near)), (pt_a, .inl (cI, 8, .inl pt))])) (F0 m 35 ls []) := by
      intro k35
      induction k35 with
      | zero =>
        intro i35 r2_35 v5_35 h35  H locs hP hD hS ls hl hR
        obtain rfl : 8 = i35 := by omega
        rw [lp_X4_cf2_35] at hR
        refine lv_iload hx hb dX4_countFrom_35 (lv_at hl 0 rfl) ?_
        refine lv_iload_n hx hb dX4_countFrom_37 rfl (lv_at hl 5 rfl) ?_
        refine lv_icmp_gt (tgt := 147) hx hb dX4_countFrom_38 (by decide) (fun c38 => ?_) (fun c38 => ?_)
        · subst hR
          exact hexit35 _ _ hP hD hS _ (lv_sub hl [1, 2, 3, 4, 5, 6] rfl)
        · refine lv_iload hx hb dX4_countFrom_41 (lv_at hl 0 rfl) ?_
          refine lv_iload hx hb dX4_countFrom_43 (lv_at hl 6 rfl) ?_
          refine lv_icmp_ge (tgt := 147) hx hb dX4_countFrom_45 (by decide) (fun c45 => ?_) (fun c45 => ?_)
          · subst hR
            exact hexit35 _ _ hP hD hS _ (lv_sub hl [1, 2, 3, 4, 5, 6] rfl)
          · refine lv_iload hx hb dX4_countFrom_48 (lv_at hl 0 rfl) ?_
            refine lv_bipush (v := (8 : Int32)) hx hb dX4_countFrom_50 (by decide +kernel) ?_
            refine lv_icmp_ge (tgt := 147) hx hb dX4_countFrom_52 (by decide) (fun _ => ?_) (fun h => absurd (cle_t (a := 8) (b := 8) rfl rfl (by omega) (by omega)) h)
            subst hR
            exact hexit35 _ _ hP hD hS _ (lv_sub hl [1, 2, 3, 4, 5, 6] rfl)
      | succ k35 ih35 =>
        intro i35 r2_35 v5_35 h35  H locs hP hD hS ls hl hR
        rw [lp_X4_cf2_35] at hR
        refine lv_iload hx hb dX4_countFrom_35 (lv_at hl 0 rfl) ?_
        refine lv_iload_n hx hb dX4_countFrom_37 rfl (lv_at hl 5 rfl) ?_
        refine lv_icmp_gt (tgt := 147) hx hb dX4_countFrom_38 (by decide) (fun c38 => ?_) (fun c38 => ?_)
        · rw [if_pos c38] at hR
          subst hR
          exact hexit35 _ _ hP hD hS _ (lv_sub hl [1, 2, 3, 4, 5, 6] rfl)
        · rw [if_neg c38] at hR
          refine lv_iload hx hb dX4_countFrom_41 (lv_at hl 0 rfl) ?_
          refine lv_iload hx hb dX4_countFrom_43 (lv_at hl 6 rfl) ?_
          refine lv_icmp_ge (tgt := 147) hx hb dX4_countFrom_45 (by decide) (fun c45 => ?_) (fun c45 => ?_)
          · rw [if_pos c45] at hR
            subst hR
            exact hexit35 _ _ hP hD hS _ (lv_sub hl [1, 2, 3, 4, 5, 6] rfl)
          · rw [if_neg c45] at hR
            refine lv_iload hx hb dX4_countFrom_48 (lv_at hl 0 rfl) ?_
            refine lv_bipush (v := (8 : Int32)) hx hb dX4_countFrom_50 (by decide +kernel) ?_
            refine lv_icmp_ge (tgt := 147) hx hb dX4_countFrom_52 (by decide) (fun h => absurd h (cle_f (a := 8) (b := i35) rfl rfl (by omega) (by omega))) (fun _ => ?_)
            refine lv_aload_n hx hb dX4_countFrom_55 rfl (lv_at hl 3 rfl) ?_
            refine lv_iload hx hb dX4_countFrom_56 (lv_at hl 0 rfl) ?_
            refine ia_ld hx hb hK hP 2 rfl (i := i35) (by omega) (by decide) dX4_countFrom_58 ?_
            refine lv_aload_n hx hb dX4_countFrom_59 rfl (lv_at hl 2 rfl) ?_
            refine va_getN (D := D) (ci := 7) (v := .ref w_near_a) (C := RX7) (T := TX7) (N := 12) hx hb hts in_X4_countFrom_X7 hown hK.1 hP 0 rfl rfl 2 (by decide) (va_Nw.use rfl (hK.2 _ gN_3)) (fun _ h9 => h9) rfl dX4_countFrom_60 ?_
            refine lv_iload_n hx hb dX4_countFrom_63 rfl (lv_at hl 4 rfl) ?_
            refine ia_ld hx hb hK hP 1 rfl (i := 2) (by omega) (by decide) dX4_countFrom_64 ?_
            refine lv_iand hx hb dX4_countFrom_65 ?_
            refine lv_if_eq (tgt := 72) hx hb dX4_countFrom_66 (by decide) (fun c66 => ?_) (fun c66 => ?_)
            · rw [if_pos c66] at hR
              refine lv_aload_n hx hb dX4_countFrom_72 rfl (lv_at hl 3 rfl) ?_
              refine lv_iload hx hb dX4_countFrom_73 (lv_at hl 0 rfl) ?_
              refine lv_aload_n hx hb dX4_countFrom_75 rfl (lv_at hl 3 rfl) ?_
              refine lv_iload hx hb dX4_countFrom_76 (lv_at hl 0 rfl) ?_
              refine ia_ld hx hb hK hP 2 rfl (i := i35) (by omega) (by decide) dX4_countFrom_78 ?_
              refine lv_iload_n hx hb dX4_countFrom_79 rfl (lv_at hl 4 rfl) ?_
              refine lv_iconst (v := (1 : Int32)) hx hb dX4_countFrom_80 (by decide) ?_
              refine ro_SN (As := [.int (r2_35 i35), .int (2 : Int32), .int (1 : Int32)]) (rest := [.int (nI i35), .ref pt_a]) ⟨hx, hb, hml, hown, hts⟩ hK (c_X8_withBit l D cI cJ cZ (r2_35 i35) (2 : Int32) (1 : Int32)) va_P_nil (va_cnB 3 hts gX4_countFrom_X8_withBit_n39 rfl rfl rfl (hK.2 _ gN_46) hq0 hd_X8_withBit ⟨(Nat.le_of_ble_eq_true rfl), (Nat.le_of_ble_eq_true rfl)⟩) hq2 rfl hl.1 rfl (Nat.le_of_ble_eq_true rfl) dX4_countFrom_81 (Nat.zero_le _) (Nat.zero_le _) ?_
              refine ia_st hx hb hK hP hD hS 2 rfl (i := i35) (by omega) (by decide) dX4_countFrom_84 (fun H locs hP hD hS => ?_)
              have hP : va_P D vwCl [(w, .inr (7, [.ref w_points_a, .ref w_tired_a, .ref w_near_a, .int w_there, .int w_free, .int w_held, .int w_wind, .int w_oil, .int w_hour, .int w_sights, .int w_agreedTo, .int w_refused])), (w_near_a, .inl (cI, 7, .inl w_near)), (pt_a, .inl (cI, 8, .inl (upd r2_35 i35 (f_X8_withBit (r2_35 i35) (2 : Int32) (1 : Int32)))))] H := hP
              have hD : va_D _ [(w, .inr (7, [.ref w_points_a, .ref w_tired_a, .ref w_near_a, .int w_there, .int w_free, .int w_held, .int w_wind, .int w_oil, .int w_hour, .int w_sights, .int w_agreedTo, .int w_refused])), (w_near_a, .inl (cI, 7, .inl w_near)), (pt_a, .inl (cI, 8, .inl (upd r2_35 i35 (f_X8_withBit (r2_35 i35) (2 : Int32) (1 : Int32)))))] := hD
              refine lv_aload_n hx hb dX4_countFrom_85 rfl (lv_at hl 2 rfl) ?_
              refine lv_aload_n hx hb dX4_countFrom_86 rfl (lv_at hl 3 rfl) ?_
              refine lv_iload_n hx hb dX4_countFrom_87 rfl (lv_at hl 4 rfl) ?_
              refine lv_iconst (v := (1 : Int32)) hx hb dX4_countFrom_88 (by decide) ?_
              refine lv_iadd hx hb dX4_countFrom_89 ?_
              rw [show ((2 : Int32) + (1 : Int32)) = (3 : Int32) from nI_add 2 1]
              refine lv_iload_n hx hb dX4_countFrom_90 rfl (lv_at hl 5 rfl) ?_
              refine lv_iload hx hb dX4_countFrom_91 (lv_at hl 0 rfl) ?_
              refine lv_iconst (v := (1 : Int32)) hx hb dX4_countFrom_93 (by decide) ?_
              refine lv_iadd hx hb dX4_countFrom_94 ?_
              rw [show ((nI i35) + (1 : Int32)) = (nI (i35 + 1)) from nI_add i35 1]
              refine va_mmax (rest := [.int (3 : Int32), .ref pt_a, .ref w]) hx hb (hml.trans hl.1.symm) hown hq3 hq4 hq5 hq6 (Nat.le_of_ble_eq_true rfl) (Nat.le_of_ble_eq_true rfl) (Nat.zero_le _) (Nat.zero_le _) dX4_countFrom_95 ?_
              refine lv_iload hx hb dX4_countFrom_98 (lv_at hl 6 rfl) ?_
              refine rw_S (As := [.ref w, .ref pt_a, .int (3 : Int32), .int (if xu < (nI (i35 + 1)) then (nI (i35 + 1)) else xu), .int xn]) (rest := []) (wr := []) (ws2 := [(w, .inr (7, [.ref w_points_a, .ref w_tired_a, .ref w_near_a, .int w_there, .int w_free, .int w_held, .int w_wind, .int w_oil, .int w_hour, .int w_sights, .int w_agreedTo, .int w_refused])), (w_near_a, .inl (cI, 7, .inl w_near)), (pt_a, .inl (cI, 8, .inl ((f_X4_cf3 w_there w_near (upd r2_35 i35 (f_X8_withBit (r2_35 i35) (2 : Int32) (1 : Int32))) (if xu < (nI (i35 + 1)) then (nI (i35 + 1)) else xu) xn).2)))]) (st1 := [.int ((f_X4_cf3 w_there w_near (upd r2_35 i35 (f_X8_withBit (r2_35 i35) (2 : Int32) (1 : Int32))) (if xu < (nI (i35 + 1)) then (nI (i35 + 1)) else xu) xn).1)]) ⟨hx, hb, hml, hown, hts⟩ hK hP hD hS (c_X4_cf3 l D cI cJ cZ w w_points_a w_tired_a w_near_a w_there w_free w_held w_wind w_oil w_hour w_sights w_agreedTo w_refused w_near pt_a (upd r2_35 i35 (f_X8_withBit (r2_35 i35) (2 : Int32) (1 : Int32))) (if xu < (nI (i35 + 1)) then (nI (i35 + 1)) else xu) xn) [0, 1, 2] [] [0, 1, 2] rfl rfl (by decide) (by decide) rfl rfl rfl (va_cwS 5 hts gX4_countFrom_X4_countFrom rfl rfl rfl hd_X4_countFrom ⟨(Nat.le_of_ble_eq_true rfl), (Nat.le_of_ble_eq_true rfl)⟩) rfl hl.1 rfl (Nat.le_of_ble_eq_true rfl) dX4_countFrom_100 (Nat.zero_le _) (Nat.zero_le _) (fun H locs hP hD hS => ?_)
              refine lv_istore (lv' := [(7, .int ((f_X4_cf3 w_there w_near (upd r2_35 i35 (f_X8_withBit (r2_35 i35) (2 : Int32) (1 : Int32))) (if xu < (nI (i35 + 1)) then (nI (i35 + 1)) else xu) xn).1)), (6, .int (nI i35)), (5, .int v5_35), (0, .ref w), (1, .ref pt_a), (2, .int (2 : Int32)), (3, .int xu), (4, .int xn)]) hx hb dX4_countFrom_103 hl (by decide) rfl (fun ls hl => ?_)
              refine lv_aload_n hx hb dX4_countFrom_105 rfl (lv_at hl 4 rfl) ?_
              refine lv_iload hx hb dX4_countFrom_106 (lv_at hl 1 rfl) ?_
              refine lv_aload_n hx hb dX4_countFrom_108 rfl (lv_at hl 4 rfl) ?_
              refine lv_iload hx hb dX4_countFrom_109 (lv_at hl 1 rfl) ?_
              refine ia_ld hx hb hK hP 2 rfl (i := i35) (by omega) (by decide) dX4_countFrom_111 ?_
              refine lv_iload_n hx hb dX4_countFrom_112 rfl (lv_at hl 5 rfl) ?_
              refine lv_iconst (v := (0 : Int32)) hx hb dX4_countFrom_113 (by decide) ?_
              refine ro_SN (As := [.int (((f_X4_cf3 w_there w_near (upd r2_35 i35 (f_X8_withBit (r2_35 i35) (2 : Int32) (1 : Int32))) (if xu < (nI (i35 + 1)) then (nI (i35 + 1)) else xu) xn).2) i35), .int (2 : Int32), .int (0 : Int32)]) (rest := [.int (nI i35), .ref pt_a]) ⟨hx, hb, hml, hown, hts⟩ hK (c_X8_withBit l D cI cJ cZ (((f_X4_cf3 w_there w_near (upd r2_35 i35 (f_X8_withBit (r2_35 i35) (2 : Int32) (1 : Int32))) (if xu < (nI (i35 + 1)) then (nI (i35 + 1)) else xu) xn).2) i35) (2 : Int32) (0 : Int32)) va_P_nil (va_cnB 3 hts gX4_countFrom_X8_withBit_n39 rfl rfl rfl (hK.2 _ gN_46) hq0 hd_X8_withBit ⟨(Nat.le_of_ble_eq_true rfl), (Nat.le_of_ble_eq_true rfl)⟩) hq2 rfl hl.1 rfl (Nat.le_of_ble_eq_true rfl) dX4_countFrom_114 (Nat.zero_le _) (Nat.zero_le _) ?_
              refine ia_st hx hb hK hP hD hS 2 rfl (i := i35) (by omega) (by decide) dX4_countFrom_117 (fun H locs hP hD hS => ?_)
              have hP : va_P D vwCl [(w, .inr (7, [.ref w_points_a, .ref w_tired_a, .ref w_near_a, .int w_there, .int w_free, .int w_held, .int w_wind, .int w_oil, .int w_hour, .int w_sights, .int w_agreedTo, .int w_refused])), (w_near_a, .inl (cI, 7, .inl w_near)), (pt_a, .inl (cI, 8, .inl (upd ((f_X4_cf3 w_there w_near (upd r2_35 i35 (f_X8_withBit (r2_35 i35) (2 : Int32) (1 : Int32))) (if xu < (nI (i35 + 1)) then (nI (i35 + 1)) else xu) xn).2) i35 (f_X8_withBit (((f_X4_cf3 w_there w_near (upd r2_35 i35 (f_X8_withBit (r2_35 i35) (2 : Int32) (1 : Int32))) (if xu < (nI (i35 + 1)) then (nI (i35 + 1)) else xu) xn).2) i35) (2 : Int32) (0 : Int32)))))] H := hP
              have hD : va_D _ [(w, .inr (7, [.ref w_points_a, .ref w_tired_a, .ref w_near_a, .int w_there, .int w_free, .int w_held, .int w_wind, .int w_oil, .int w_hour, .int w_sights, .int w_agreedTo, .int w_refused])), (w_near_a, .inl (cI, 7, .inl w_near)), (pt_a, .inl (cI, 8, .inl (upd ((f_X4_cf3 w_there w_near (upd r2_35 i35 (f_X8_withBit (r2_35 i35) (2 : Int32) (1 : Int32))) (if xu < (nI (i35 + 1)) then (nI (i35 + 1)) else xu) xn).2) i35 (f_X8_withBit (((f_X4_cf3 w_there w_near (upd r2_35 i35 (f_X8_withBit (r2_35 i35) (2 : Int32) (1 : Int32))) (if xu < (nI (i35 + 1)) then (nI (i35 + 1)) else xu) xn).2) i35) (2 : Int32) (0 : Int32)))))] := hD
              refine lv_iload hx hb dX4_countFrom_118 (lv_at hl 2 rfl) ?_
              refine lv_iload hx hb dX4_countFrom_120 (lv_at hl 1 rfl) ?_
              refine lv_iload_n hx hb dX4_countFrom_122 rfl (lv_at hl 6 rfl) ?_
              refine lv_icmp_ne (tgt := 136) hx hb dX4_countFrom_123 (by decide) (fun c123 => ?_) (fun c123 => ?_)
              · rw [if_neg c123] at hR
                refine lv_iload hx hb dX4_countFrom_136 (lv_at hl 0 rfl) ?_
                refine lv_iadd hx hb dX4_countFrom_138 ?_
                refine lv_istore (lv' := [(5, .int (v5_35 + ((f_X4_cf3 w_there w_near (upd r2_35 i35 (f_X8_withBit (r2_35 i35) (2 : Int32) (1 : Int32))) (if xu < (nI (i35 + 1)) then (nI (i35 + 1)) else xu) xn).1))), (7, .int ((f_X4_cf3 w_there w_near (upd r2_35 i35 (f_X8_withBit (r2_35 i35) (2 : Int32) (1 : Int32))) (if xu < (nI (i35 + 1)) then (nI (i35 + 1)) else xu) xn).1)), (6, .int (nI i35)), (0, .ref w), (1, .ref pt_a), (2, .int (2 : Int32)), (3, .int xu), (4, .int xn)]) hx hb dX4_countFrom_139 hl (by decide) rfl (fun ls hl => ?_)
                refine lv_iinc (v := (nI (i35 + 1))) (lv' := [(6, .int (nI (i35 + 1))), (5, .int (v5_35 + ((f_X4_cf3 w_there w_near (upd r2_35 i35 (f_X8_withBit (r2_35 i35) (2 : Int32) (1 : Int32))) (if xu < (nI (i35 + 1)) then (nI (i35 + 1)) else xu) xn).1))), (7, .int ((f_X4_cf3 w_there w_near (upd r2_35 i35 (f_X8_withBit (r2_35 i35) (2 : Int32) (1 : Int32))) (if xu < (nI (i35 + 1)) then (nI (i35 + 1)) else xu) xn).1)), (0, .ref w), (1, .ref pt_a), (2, .int (2 : Int32)), (3, .int xu), (4, .int xn)]) hx hb dX4_countFrom_141 hl (k := 2) rfl (by exact nI_add i35 1) (by decide) rfl (fun ls hl => ?_)
                refine lv_goto (tgt := 35) hx hb dX4_countFrom_144 (by decide) ?_
                exact ih35 _ _ _ (by omega) _ _ hP hD hS _ (lv_sub hl [0, 1, 3, 4, 5, 6, 7] rfl) hR
              · rw [if_pos c123] at hR
                refine lv_iload hx hb dX4_countFrom_126 (lv_at hl 7 rfl) ?_
                refine lv_iload_n hx hb dX4_countFrom_128 rfl (lv_at hl 6 rfl) ?_
                refine lv_isub hx hb dX4_countFrom_129 ?_
                refine lv_iload hx hb dX4_countFrom_130 (lv_at hl 0 rfl) ?_
                refine lv_imul hx hb dX4_countFrom_132 ?_
                refine lv_goto (tgt := 138) hx hb dX4_countFrom_133 (by decide) ?_
                refine lv_iadd hx hb dX4_countFrom_138 ?_
                refine lv_istore (lv' := [(5, .int (v5_35 + ((xn - xu) * ((f_X4_cf3 w_there w_near (upd r2_35 i35 (f_X8_withBit (r2_35 i35) (2 : Int32) (1 : Int32))) (if xu < (nI (i35 + 1)) then (nI (i35 + 1)) else xu) xn).1)))), (7, .int ((f_X4_cf3 w_there w_near (upd r2_35 i35 (f_X8_withBit (r2_35 i35) (2 : Int32) (1 : Int32))) (if xu < (nI (i35 + 1)) then (nI (i35 + 1)) else xu) xn).1)), (6, .int (nI i35)), (0, .ref w), (1, .ref pt_a), (2, .int (2 : Int32)), (3, .int xu), (4, .int xn)]) hx hb dX4_countFrom_139 hl (by decide) rfl (fun ls hl => ?_)
                refine lv_iinc (v := (nI (i35 + 1))) (lv' := [(6, .int (nI (i35 + 1))), (5, .int (v5_35 + ((xn - xu) * ((f_X4_cf3 w_there w_near (upd r2_35 i35 (f_X8_withBit (r2_35 i35) (2 : Int32) (1 : Int32))) (if xu < (nI (i35 + 1)) then (nI (i35 + 1)) else xu) xn).1)))), (7, .int ((f_X4_cf3 w_there w_near (upd r2_35 i35 (f_X8_withBit (r2_35 i35) (2 : Int32) (1 : Int32))) (if xu < (nI (i35 + 1)) then (nI (i35 + 1)) else xu) xn).1)), (0, .ref w), (1, .ref pt_a), (2, .int (2 : Int32)), (3, .int xu), (4, .int xn)]) hx hb dX4_countFrom_141 hl (k := 2) rfl (by exact nI_add i35 1) (by decide) rfl (fun ls hl => ?_)
                refine lv_goto (tgt := 35) hx hb dX4_countFrom_144 (by decide) ?_
                exact ih35 _ _ _ (by omega) _ _ hP hD hS _ (lv_sub hl [0, 1, 3, 4, 5, 6, 7] rfl) hR
            · rw [if_neg c66] at hR
              refine lv_goto (tgt := 141) hx hb dX4_countFrom_69 (by decide) ?_
              refine lv_iinc (v := (nI (i35 + 1))) (lv' := [(6, .int (nI (i35 + 1))), (5, .int v5_35), (0, .ref w), (1, .ref pt_a), (2, .int (2 : Int32)), (3, .int xu), (4, .int xn)]) hx hb dX4_countFrom_141 hl (k := 0) rfl (by exact nI_add i35 1) (by decide) rfl (fun ls hl => ?_)
              refine lv_goto (tgt := 35) hx hb dX4_countFrom_144 (by decide) ?_
              exact ih35 _ _ _ (by omega) _ _ hP hD hS _ (lv_sub hl [0, 1, 2, 3, 4, 5, 6] rfl) hR
    exact hloop35 8 0 _ _ (by omega) _ _ hP hD hS _ hl hF35_1
  · rw [if_pos c14] at hR
    refine lv_aload_n hx hb dX4_countFrom_17 rfl (lv_at hl 0 rfl) ?_
    refine lv_aload_n hx hb dX4_countFrom_18 rfl (lv_at hl 1 rfl) ?_
    refine lv_iload_n hx hb dX4_countFrom_19 rfl (lv_at hl 2 rfl) ?_
    refine lv_iconst (v := (1 : Int32)) hx hb dX4_countFrom_20 (by decide) ?_
    refine lv_iadd hx hb dX4_countFrom_21 ?_
    rw [show ((2 : Int32) + (1 : Int32)) = (3 : Int32) from nI_add 2 1]
    refine lv_iload_n hx hb dX4_countFrom_22 rfl (lv_at hl 3 rfl) ?_
    refine lv_iload hx hb dX4_countFrom_23 (lv_at hl 4 rfl) ?_
    refine rw_S (As := [.ref w, .ref pt_a, .int (3 : Int32), .int xu, .int xn]) (rest := []) (wr := []) (ws2 := [(w, .inr (7, [.ref w_points_a, .ref w_tired_a, .ref w_near_a, .int w_there, .int w_free, .int w_held, .int w_wind, .int w_oil, .int w_hour, .int w_sights, .int w_agreedTo, .int w_refused])), (w_near_a, .inl (cI, 7, .inl w_near)), (pt_a, .inl (cI, 8, .inl ((f_X4_cf3 w_there w_near pt xu xn).2)))]) (st1 := [.int ((f_X4_cf3 w_there w_near pt xu xn).1)]) ⟨hx, hb, hml, hown, hts⟩ hK hP hD hS (c_X4_cf3 l D cI cJ cZ w w_points_a w_tired_a w_near_a w_there w_free w_held w_wind w_oil w_hour w_sights w_agreedTo w_refused w_near pt_a pt xu xn) [0, 1, 2] [] [0, 1, 2] rfl rfl (by decide) (by decide) rfl rfl rfl (va_cwS 5 hts gX4_countFrom_X4_countFrom rfl rfl rfl hd_X4_countFrom ⟨(Nat.le_of_ble_eq_true rfl), (Nat.le_of_ble_eq_true rfl)⟩) rfl hl.1 rfl (Nat.le_of_ble_eq_true rfl) dX4_countFrom_25 (Nat.zero_le _) (Nat.zero_le _) (fun H locs hP hD hS => ?_)
    obtain ⟨rfl, rfl⟩ := prodI2 hR
    exact rw_iret hx hb hr hlocks hP hS dX4_countFrom_28


def lp_X4_cf1_35 (w_there : Int32) (w_near : Nat → Int32) (xu : Int32) (xn : Int32) : Nat → Nat → (Nat → Int32) → Int32 → (Nat → Int32) × Int32
  | 0, _, r2_35, v5_35 => (r2_35, v5_35)
  | k35 + 1, i35, r2_35, v5_35 => (if (xu < (nI i35)) then (r2_35, v5_35) else (if (xn ≤ (nI i35)) then (r2_35, v5_35) else (if (((r2_35 i35) &&& (w_near 1)) = 0) then (if ((nI i35) = xu) then (lp_X4_cf1_35 w_there w_near xu xn k35 (i35 + 1) (upd ((f_X4_cf2 w_there w_near (upd r2_35 i35 (f_X8_withBit (r2_35 i35) (1 : Int32) (1 : Int32))) (if xu < (nI (i35 + 1)) then (nI (i35 + 1)) else xu) xn).2) i35 (f_X8_withBit (((f_X4_cf2 w_there w_near (upd r2_35 i35 (f_X8_withBit (r2_35 i35) (1 : Int32) (1 : Int32))) (if xu < (nI (i35 + 1)) then (nI (i35 + 1)) else xu) xn).2) i35) (1 : Int32) (0 : Int32))) (v5_35 + ((xn - xu) * ((f_X4_cf2 w_there w_near (upd r2_35 i35 (f_X8_withBit (r2_35 i35) (1 : Int32) (1 : Int32))) (if xu < (nI (i35 + 1)) then (nI (i35 + 1)) else xu) xn).1)))) else (lp_X4_cf1_35 w_there w_near xu xn k35 (i35 + 1) (upd ((f_X4_cf2 w_there w_near (upd r2_35 i35 (f_X8_withBit (r2_35 i35) (1 : Int32) (1 : Int32))) (if xu < (nI (i35 + 1)) then (nI (i35 + 1)) else xu) xn).2) i35 (f_X8_withBit (((f_X4_cf2 w_there w_near (upd r2_35 i35 (f_X8_withBit (r2_35 i35) (1 : Int32) (1 : Int32))) (if xu < (nI (i35 + 1)) then (nI (i35 + 1)) else xu) xn).2) i35) (1 : Int32) (0 : Int32))) (v5_35 + ((f_X4_cf2 w_there w_near (upd r2_35 i35 (f_X8_withBit (r2_35 i35) (1 : Int32) (1 : Int32))) (if xu < (nI (i35 + 1)) then (nI (i35 + 1)) else xu) xn).1)))) else (lp_X4_cf1_35 w_there w_near xu xn k35 (i35 + 1) r2_35 v5_35))))
def f_X4_cf1 (w_there : Int32) (w_near : Nat → Int32) (pt : Nat → Int32) (xu : Int32) (xn : Int32) : Int32 × (Nat → Int32) :=
  (if ((f_X7_isThere w_there (1 : Int32)) = 0) then (((f_X4_cf2 w_there w_near pt xu xn).1), ((f_X4_cf2 w_there w_near pt xu xn).2)) else ((lp_X4_cf1_35 w_there w_near xu xn 8 0 pt (0 : Int32)).2, (lp_X4_cf1_35 w_there w_near xu xn 8 0 pt (0 : Int32)).1))
set_option maxHeartbeats 4000000 in
set_option maxRecDepth 100000 in
theorem c_X4_cf1 (l : Launch) (D : va_G) (cI cJ cZ : ClassId) (w : Nat) (w_points_a : Nat) (w_tired_a : Nat) (w_near_a : Nat) (w_there : Int32) (w_free : Int32) (w_held : Int32) (w_wind : Int32) (w_oil : Int32) (w_hour : Int32) (w_sights : Int32) (w_agreedTo : Int32) (w_refused : Int32) (w_near : Nat → Int32) (pt_a : Nat) (pt : Nat → Int32) (xu : Int32) (xn : Int32) : RW l yX4_countFrom wsX4_countFrom ({ frames := 8, cells := 0, slots := 0, locals := 203 }) [.ref w, .ref pt_a, .int (1 : Int32), .int xu, .int xn] D cI cJ cZ [(w, .inr (7, [.ref w_points_a, .ref w_tired_a, .ref w_near_a, .int w_there, .int w_free, .int w_held, .int w_wind, .int w_oil, .int w_hour, .int w_sights, .int w_agreedTo, .int w_refused])), (w_near_a, .inl (cI, 7, .inl w_near)), (pt_a, .inl (cI, 8, .inl pt))] (some (.int ((f_X4_cf1 w_there w_near pt xu xn).1))) [(w, .inr (7, [.ref w_points_a, .ref w_tired_a, .ref w_near_a, .int w_there, .int w_free, .int w_held, .int w_wind, .int w_oil, .int w_hour, .int w_sights, .int w_agreedTo, .int w_refused])), (w_near_a, .inl (cI, 7, .inl w_near)), (pt_a, .inl (cI, 8, .inl ((f_X4_cf1 w_there w_near pt xu xn).2)))] := by
  obtain ⟨R0, R1, hR⟩ := prodE2 (f_X4_cf1 w_there w_near pt xu xn)
  rw [hR]
  dsimp only
  refine rw_start (cc := cX4_countFrom) (maxL := 8) (ret := (some .int)) (by decide) rfl (Nat.le_of_ble_eq_true rfl) ?_
  intro p e s m args below meth c hx hb hr hml hown hts hlocks hP hD hS hK ls hl
  have hown : s.vm.findClass RX4 = some m.cls := hown
  have hl : lv_has ls 8 [(0, .ref w), (1, .ref pt_a), (2, .int (1 : Int32)), (3, .int xu), (4, .int xn)] := hl
  have hq0 := hts (.initialized RX8) (by decide +kernel)
  have hq1 := hts (.static yX8_isParish) (by decide +kernel)
  have hq2 := hts (.static yX8_withBit) (by decide +kernel)
  have hq3 := hts (.methodLink RX4 43 Lib.Math.max.name) (by decide +kernel)
  have hq4 := hts (.static Lib.Math.max.name) (by decide +kernel)
  have hq5 := hts (.initialized "java/lang/Math") (by decide +kernel)
  have hq6 := hts (.code Lib.Math.max.name Lib.Math.max.code 2 (some .int)) (by decide +kernel)
  rw [f_X4_cf1] at hR
  refine lv_iload_n hx hb dX4_countFrom_0 rfl (lv_at hl 2 rfl) ?_
  refine ro_SN (As := [.int (1 : Int32)]) (rest := []) ⟨hx, hb, hml, hown, hts⟩ hK (c_X8_isParish l D cI cJ cZ (1 : Int32)) va_P_nil (va_cnB 1 hts gX4_countFrom_X8_isParish_n29 rfl rfl rfl (hK.2 _ gN_45) hq0 hd_X8_isParish ⟨(Nat.le_of_ble_eq_true rfl), (Nat.le_of_ble_eq_true rfl)⟩) hq1 rfl hl.1 rfl (Nat.le_of_ble_eq_true rfl) dX4_countFrom_1 (Nat.zero_le _) (Nat.zero_le _) ?_
  refine lv_if_ne (tgt := 9) hx hb dX4_countFrom_4 (by decide) (fun _ => ?_) (fun h => absurd h (by decide))
  refine lv_aload_n hx hb dX4_countFrom_9 rfl (lv_at hl 0 rfl) ?_
  refine lv_iload_n hx hb dX4_countFrom_10 rfl (lv_at hl 2 rfl) ?_
  refine ro_V (As := [.int (1 : Int32)]) (rest := []) ⟨hx, hb, hml, hown, hts⟩ hK (c_X7_isThere l D cI cJ cZ w w_points_a w_tired_a w_near_a w_there w_free w_held w_wind w_oil w_hour w_sights w_agreedTo w_refused (1 : Int32)) hP 0 rfl rfl (rw_sub hP [0] rfl) (cwV 1 hts gX4_countFrom_X7_isThere rfl rfl rfl ⟨rfl, hd_X7_isThere⟩ ⟨(Nat.le_of_ble_eq_true rfl), (Nat.le_of_ble_eq_true rfl)⟩) rfl hl.1 rfl (Nat.le_of_ble_eq_true rfl) dX4_countFrom_11 (Nat.zero_le _) (Nat.zero_le _) ?_
  refine lv_if_ne (tgt := 29) hx hb dX4_countFrom_14 (by decide) (fun c14 => ?_) (fun c14 => ?_)
  · rw [if_neg c14] at hR
    refine lv_iconst (v := (0 : Int32)) hx hb dX4_countFrom_29 (by decide) ?_
    refine lv_istore (lv' := [(5, .int (0 : Int32)), (0, .ref w), (1, .ref pt_a), (2, .int (1 : Int32)), (3, .int xu), (4, .int xn)]) hx hb dX4_countFrom_30 hl (by decide) rfl (fun ls hl => ?_)
    refine lv_iconst (v := (0 : Int32)) hx hb dX4_countFrom_32 (by decide) ?_
    refine lv_istore (lv' := [(6, .int (0 : Int32)), (5, .int (0 : Int32)), (0, .ref w), (1, .ref pt_a), (2, .int (1 : Int32)), (3, .int xu), (4, .int xn)]) hx hb dX4_countFrom_33 hl (by decide) rfl (fun ls hl => ?_)
    obtain ⟨F35_1, hF35_1⟩ : ∃ x, (lp_X4_cf1_35 w_there w_near xu xn 8 0 pt (0 : Int32)) = x := ⟨_, rfl⟩
    try rw [hF35_1] at hR
    have hexit35 : ∀ (H : Heap) (locs : List Loc), va_P D vwCl [(w, .inr (7, [.ref w_points_a, .ref w_tired_a, .ref w_near_a, .int w_there, .int w_free, .int w_held, .int w_wind, .int w_oil, .int w_hour, .int w_sights, .int w_agreedTo, .int w_refused])), (w_near_a, .inl (cI, 7, .inl w_near)), (pt_a, .inl (cI, 8, .inl F35_1.1))] H → va_D (va_In [(w, .inr (7, [.ref w_points_a, .ref w_tired_a, .ref w_near_a, .int w_there, .int w_free, .int w_held, .int w_wind, .int w_oil, .int w_hour, .int w_sights, .int w_agreedTo, .int w_refused])), (w_near_a, .inl (cI, 7, .inl w_near)), (pt_a, .inl (cI, 8, .inl pt))]) [(w, .inr (7, [.ref w_points_a, .ref w_tired_a, .ref w_near_a, .int w_there, .int w_free, .int w_held, .int w_wind, .int w_oil, .int w_hour, .int w_sights, .int w_agreedTo, .int w_refused])), (w_near_a, .inl (cI, 7, .inl w_near)), (pt_a, .inl (cI, 8, .inl F35_1.1))] → va_S (va_In [(w, .inr (7, [.ref w_points_a, .ref w_tired_a, .ref w_near_a, .int w_there, .int w_free, .int w_held, .int w_wind, .int w_oil, .int w_hour, .int w_sights, .int w_agreedTo, .int w_refused])), (w_near_a, .inl (cI, 7, .inl w_near)), (pt_a, .inl (cI, 8, .inl pt))]) s.heap H locs → ∀ (ls : Array Slot), lv_has ls 8 [(5, .int F35_1.2), (0, .ref w), (1, .ref pt_a), (2, .int (1 : Int32)), (3, .int xu), (4, .int xn)] → W p l e ({ frames := 8, cells := 0, slots := 0, locals := 203 }) s m args below meth c H locs 0 0 (MQ below (rw_Q D (some (.int R0)) [(w, .inr (7, [.ref w_points_a, .ref w_tired_a, .ref w_near_a, .int w_there, .int w_free, .int w_held, .int w_wind, .int w_oil, .int w_hour, .int w_sights, .int w_agreedTo, .int w_refused])), (w_near_a, .inl (cI, 7, .inl w_near)), (pt_a, .inl (cI, 8, .inl pt))] [(w, .inr (7, [.ref w_points_a, .ref w_tired_a, .ref w_near_a, .int w_there, .int w_free, .int w_held, .int w_wind, .int w_oil, .int w_hour, .int w_sights, .int w_agreedTo, .int w_refused])), (w_near_a, .inl (cI, 7, .inl w_near)), (pt_a, .inl (cI, 8, .inl R1))]) args s 0 0 (va_In [(w, .inr (7, [.ref w_points_a, .ref w_tired_a, .ref w_near_a, .int w_there, .int w_free, .int w_held, .int w_wind, .int w_oil, .int w_hour, .int w_sights, .int w_agreedTo, .int w_refused])), (w_near_a, .inl (cI, 7, .inl w_near)), (pt_a, .inl (cI, 8, .inl pt))])) (F0 m 147 ls []) := by
      intro H locs hP hD hS ls hl
      refine lv_iload hx hb dX4_countFrom_147 (lv_at hl 0 rfl) ?_
      obtain ⟨rfl, rfl⟩ := prodI2 hR
      exact rw_iret hx hb hr hlocks hP hS dX4_countFrom_149
    have hloop35 : ∀ (k35 i35 : Nat) (r2_35 : Nat → Int32) (v5_35 : Int32), i35 + k35 = 8 → ∀ (H : Heap) (locs : List Loc), va_P D vwCl [(w, .inr (7, [.ref w_points_a, .ref w_tired_a, .ref w_near_a, .int w_there, .int w_free, .int w_held, .int w_wind, .int w_oil, .int w_hour, .int w_sights, .int w_agreedTo, .int w_refused])), (w_near_a, .inl (cI, 7, .inl w_near)), (pt_a, .inl (cI, 8, .inl r2_35))] H → va_D (va_In [(w, .inr (7, [.ref w_points_a, .ref w_tired_a, .ref w_near_a, .int w_there, .int w_free, .int w_held, .int w_wind, .int w_oil, .int w_hour, .int w_sights, .int w_agreedTo, .int w_refused])), (w_near_a, .inl (cI, 7, .inl w_near)), (pt_a, .inl (cI, 8, .inl pt))]) [(w, .inr (7, [.ref w_points_a, .ref w_tired_a, .ref w_near_a, .int w_there, .int w_free, .int w_held, .int w_wind, .int w_oil, .int w_hour, .int w_sights, .int w_agreedTo, .int w_refused])), (w_near_a, .inl (cI, 7, .inl w_near)), (pt_a, .inl (cI, 8, .inl r2_35))] → va_S (va_In [(w, .inr (7, [.ref w_points_a, .ref w_tired_a, .ref w_near_a, .int w_there, .int w_free, .int w_held, .int w_wind, .int w_oil, .int w_hour, .int w_sights, .int w_agreedTo, .int w_refused])), (w_near_a, .inl (cI, 7, .inl w_near)), (pt_a, .inl (cI, 8, .inl pt))]) s.heap H locs → ∀ (ls : Array Slot), lv_has ls 8 [(6, .int (nI i35)), (5, .int v5_35), (0, .ref w), (1, .ref pt_a), (2, .int (1 : Int32)), (3, .int xu), (4, .int xn)] → lp_X4_cf1_35 w_there w_near xu xn k35 i35 r2_35 v5_35 = F35_1 → W p l e ({ frames := 8, cells := 0, slots := 0, locals := 203 }) s m args below meth c H locs 0 0 (MQ below (rw_Q D (some (.int R0)) [(w, .inr (7, [.ref w_points_a, .ref w_tired_a, .ref w_near_a, .int w_there, .int w_free, .int w_held, .int w_wind, .int w_oil, .int w_hour, .int w_sights, .int w_agreedTo, .int w_refused])), (w_near_a, .inl (cI, 7, .inl w_near)), (pt_a, .inl (cI, 8, .inl pt))] [(w, .inr (7, [.ref w_points_a, .ref w_tired_a, .ref w_near_a, .int w_there, .int w_free, .int w_held, .int w_wind, .int w_oil, .int w_hour, .int w_sights, .int w_agreedTo, .int w_refused])), (w_near_a, .inl (cI, 7, .inl w_near)), (pt_a, .inl (cI, 8, .inl R1))]) args s 0 0 (va_In [(w, .inr (7, [.ref w_points_a, .ref w_tired_a, .ref w_near_a, .int w_there, .int w_free, .int w_held, .int w_wind, .int w_oil, .int w_hour, .int w_sights, .int w_agreedTo, .int w_refused])), (w_near_a, .inl (cI, 7, .inl w_near)), (pt_a, .inl (cI, 8, .inl pt))])) (F0 m 35 ls []) := by
      intro k35
      induction k35 with
      | zero =>
        intro i35 r2_35 v5_35 h35  H locs hP hD hS ls hl hR
        obtain rfl : 8 = i35 := by omega
        rw [lp_X4_cf1_35] at hR
        refine lv_iload hx hb dX4_countFrom_35 (lv_at hl 0 rfl) ?_
        refine lv_iload_n hx hb dX4_countFrom_37 rfl (lv_at hl 5 rfl) ?_
        refine lv_icmp_gt (tgt := 147) hx hb dX4_countFrom_38 (by decide) (fun c38 => ?_) (fun c38 => ?_)
        · subst hR
          exact hexit35 _ _ hP hD hS _ (lv_sub hl [1, 2, 3, 4, 5, 6] rfl)
        · refine lv_iload hx hb dX4_countFrom_41 (lv_at hl 0 rfl) ?_
          refine lv_iload hx hb dX4_countFrom_43 (lv_at hl 6 rfl) ?_
          refine lv_icmp_ge (tgt := 147) hx hb dX4_countFrom_45 (by decide) (fun c45 => ?_) (fun c45 => ?_)
          · subst hR
            exact hexit35 _ _ hP hD hS _ (lv_sub hl [1, 2, 3, 4, 5, 6] rfl)
          · refine lv_iload hx hb dX4_countFrom_48 (lv_at hl 0 rfl) ?_
            refine lv_bipush (v := (8 : Int32)) hx hb dX4_countFrom_50 (by decide +kernel) ?_
            refine lv_icmp_ge (tgt := 147) hx hb dX4_countFrom_52 (by decide) (fun _ => ?_) (fun h => absurd (cle_t (a := 8) (b := 8) rfl rfl (by omega) (by omega)) h)
            subst hR
            exact hexit35 _ _ hP hD hS _ (lv_sub hl [1, 2, 3, 4, 5, 6] rfl)
      | succ k35 ih35 =>
        intro i35 r2_35 v5_35 h35  H locs hP hD hS ls hl hR
        rw [lp_X4_cf1_35] at hR
        refine lv_iload hx hb dX4_countFrom_35 (lv_at hl 0 rfl) ?_
        refine lv_iload_n hx hb dX4_countFrom_37 rfl (lv_at hl 5 rfl) ?_
        refine lv_icmp_gt (tgt := 147) hx hb dX4_countFrom_38 (by decide) (fun c38 => ?_) (fun c38 => ?_)
        · rw [if_pos c38] at hR
          subst hR
          exact hexit35 _ _ hP hD hS _ (lv_sub hl [1, 2, 3, 4, 5, 6] rfl)
        · rw [if_neg c38] at hR
          refine lv_iload hx hb dX4_countFrom_41 (lv_at hl 0 rfl) ?_
          refine lv_iload hx hb dX4_countFrom_43 (lv_at hl 6 rfl) ?_
          refine lv_icmp_ge (tgt := 147) hx hb dX4_countFrom_45 (by decide) (fun c45 => ?_) (fun c45 => ?_)
          · rw [if_pos c45] at hR
            subst hR
            exact hexit35 _ _ hP hD hS _ (lv_sub hl [1, 2, 3, 4, 5, 6] rfl)
          · rw [if_neg c45] at hR
            refine lv_iload hx hb dX4_countFrom_48 (lv_at hl 0 rfl) ?_
            refine lv_bipush (v := (8 : Int32)) hx hb dX4_countFrom_50 (by decide +kernel) ?_
            refine lv_icmp_ge (tgt := 147) hx hb dX4_countFrom_52 (by decide) (fun h => absurd h (cle_f (a := 8) (b := i35) rfl rfl (by omega) (by omega))) (fun _ => ?_)
            refine lv_aload_n hx hb dX4_countFrom_55 rfl (lv_at hl 3 rfl) ?_
            refine lv_iload hx hb dX4_countFrom_56 (lv_at hl 0 rfl) ?_
            refine ia_ld hx hb hK hP 2 rfl (i := i35) (by omega) (by decide) dX4_countFrom_58 ?_
            refine lv_aload_n hx hb dX4_countFrom_59 rfl (lv_at hl 2 rfl) ?_
            refine va_getN (D := D) (ci := 7) (v := .ref w_near_a) (C := RX7) (T := TX7) (N := 12) hx hb hts in_X4_countFrom_X7 hown hK.1 hP 0 rfl rfl 2 (by decide) (va_Nw.use rfl (hK.2 _ gN_3)) (fun _ h9 => h9) rfl dX4_countFrom_60 ?_
            refine lv_iload_n hx hb dX4_countFrom_63 rfl (lv_at hl 4 rfl) ?_
            refine ia_ld hx hb hK hP 1 rfl (i := 1) (by omega) (by decide) dX4_countFrom_64 ?_
            refine lv_iand hx hb dX4_countFrom_65 ?_
            refine lv_if_eq (tgt := 72) hx hb dX4_countFrom_66 (by decide) (fun c66 => ?_) (fun c66 => ?_)
            · rw [if_pos c66] at hR
              refine lv_aload_n hx hb dX4_countFrom_72 rfl (lv_at hl 3 rfl) ?_
              refine lv_iload hx hb dX4_countFrom_73 (lv_at hl 0 rfl) ?_
              refine lv_aload_n hx hb dX4_countFrom_75 rfl (lv_at hl 3 rfl) ?_
              refine lv_iload hx hb dX4_countFrom_76 (lv_at hl 0 rfl) ?_
              refine ia_ld hx hb hK hP 2 rfl (i := i35) (by omega) (by decide) dX4_countFrom_78 ?_
              refine lv_iload_n hx hb dX4_countFrom_79 rfl (lv_at hl 4 rfl) ?_
              refine lv_iconst (v := (1 : Int32)) hx hb dX4_countFrom_80 (by decide) ?_
              refine ro_SN (As := [.int (r2_35 i35), .int (1 : Int32), .int (1 : Int32)]) (rest := [.int (nI i35), .ref pt_a]) ⟨hx, hb, hml, hown, hts⟩ hK (c_X8_withBit l D cI cJ cZ (r2_35 i35) (1 : Int32) (1 : Int32)) va_P_nil (va_cnB 3 hts gX4_countFrom_X8_withBit_n39 rfl rfl rfl (hK.2 _ gN_46) hq0 hd_X8_withBit ⟨(Nat.le_of_ble_eq_true rfl), (Nat.le_of_ble_eq_true rfl)⟩) hq2 rfl hl.1 rfl (Nat.le_of_ble_eq_true rfl) dX4_countFrom_81 (Nat.zero_le _) (Nat.zero_le _) ?_
              refine ia_st hx hb hK hP hD hS 2 rfl (i := i35) (by omega) (by decide) dX4_countFrom_84 (fun H locs hP hD hS => ?_)
              have hP : va_P D vwCl [(w, .inr (7, [.ref w_points_a, .ref w_tired_a, .ref w_near_a, .int w_there, .int w_free, .int w_held, .int w_wind, .int w_oil, .int w_hour, .int w_sights, .int w_agreedTo, .int w_refused])), (w_near_a, .inl (cI, 7, .inl w_near)), (pt_a, .inl (cI, 8, .inl (upd r2_35 i35 (f_X8_withBit (r2_35 i35) (1 : Int32) (1 : Int32)))))] H := hP
              have hD : va_D _ [(w, .inr (7, [.ref w_points_a, .ref w_tired_a, .ref w_near_a, .int w_there, .int w_free, .int w_held, .int w_wind, .int w_oil, .int w_hour, .int w_sights, .int w_agreedTo, .int w_refused])), (w_near_a, .inl (cI, 7, .inl w_near)), (pt_a, .inl (cI, 8, .inl (upd r2_35 i35 (f_X8_withBit (r2_35 i35) (1 : Int32) (1 : Int32)))))] := hD
              refine lv_aload_n hx hb dX4_countFrom_85 rfl (lv_at hl 2 rfl) ?_
              refine lv_aload_n hx hb dX4_countFrom_86 rfl (lv_at hl 3 rfl) ?_
              refine lv_iload_n hx hb dX4_countFrom_87 rfl (lv_at hl 4 rfl) ?_
              refine lv_iconst (v := (1 : Int32)) hx hb dX4_countFrom_88 (by decide) ?_
              refine lv_iadd hx hb dX4_countFrom_89 ?_
              rw [show ((1 : Int32) + (1 : Int32)) = (2 : Int32) from nI_add 1 1]
              refine lv_iload_n hx hb dX4_countFrom_90 rfl (lv_at hl 5 rfl) ?_
              refine lv_iload hx hb dX4_countFrom_91 (lv_at hl 0 rfl) ?_
              refine lv_iconst (v := (1 : Int32)) hx hb dX4_countFrom_93 (by decide) ?_
              refine lv_iadd hx hb dX4_countFrom_94 ?_
              rw [show ((nI i35) + (1 : Int32)) = (nI (i35 + 1)) from nI_add i35 1]
              refine va_mmax (rest := [.int (2 : Int32), .ref pt_a, .ref w]) hx hb (hml.trans hl.1.symm) hown hq3 hq4 hq5 hq6 (Nat.le_of_ble_eq_true rfl) (Nat.le_of_ble_eq_true rfl) (Nat.zero_le _) (Nat.zero_le _) dX4_countFrom_95 ?_
              refine lv_iload hx hb dX4_countFrom_98 (lv_at hl 6 rfl) ?_
              refine rw_S (As := [.ref w, .ref pt_a, .int (2 : Int32), .int (if xu < (nI (i35 + 1)) then (nI (i35 + 1)) else xu), .int xn]) (rest := []) (wr := []) (ws2 := [(w, .inr (7, [.ref w_points_a, .ref w_tired_a, .ref w_near_a, .int w_there, .int w_free, .int w_held, .int w_wind, .int w_oil, .int w_hour, .int w_sights, .int w_agreedTo, .int w_refused])), (w_near_a, .inl (cI, 7, .inl w_near)), (pt_a, .inl (cI, 8, .inl ((f_X4_cf2 w_there w_near (upd r2_35 i35 (f_X8_withBit (r2_35 i35) (1 : Int32) (1 : Int32))) (if xu < (nI (i35 + 1)) then (nI (i35 + 1)) else xu) xn).2)))]) (st1 := [.int ((f_X4_cf2 w_there w_near (upd r2_35 i35 (f_X8_withBit (r2_35 i35) (1 : Int32) (1 : Int32))) (if xu < (nI (i35 + 1)) then (nI (i35 + 1)) else xu) xn).1)]) ⟨hx, hb, hml, hown, hts⟩ hK hP hD hS (c_X4_cf2 l D cI cJ cZ w w_points_a w_tired_a w_near_a w_there w_free w_held w_wind w_oil w_hour w_sights w_agreedTo w_refused w_near pt_a (upd r2_35 i35 (f_X8_withBit (r2_35 i35) (1 : Int32) (1 : Int32))) (if xu < (nI (i35 + 1)) then (nI (i35 + 1)) else xu) xn) [0, 1, 2] [] [0, 1, 2] rfl rfl (by decide) (by decide) rfl rfl rfl (va_cwS 5 hts gX4_countFrom_X4_countFrom rfl rfl rfl hd_X4_countFrom ⟨(Nat.le_of_ble_eq_true rfl), (Nat.le_of_ble_eq_true rfl)⟩) rfl hl.1 rfl (Nat.le_of_ble_eq_true rfl) dX4_countFrom_100 (Nat.zero_le _) (Nat.zero_le _) (fun H locs hP hD hS => ?_)
              refine lv_istore (lv' := [(7, .int ((f_X4_cf2 w_there w_near (upd r2_35 i35 (f_X8_withBit (r2_35 i35) (1 : Int32) (1 : Int32))) (if xu < (nI (i35 + 1)) then (nI (i35 + 1)) else xu) xn).1)), (6, .int (nI i35)), (5, .int v5_35), (0, .ref w), (1, .ref pt_a), (2, .int (1 : Int32)), (3, .int xu), (4, .int xn)]) hx hb dX4_countFrom_103 hl (by decide) rfl (fun ls hl => ?_)
              refine lv_aload_n hx hb dX4_countFrom_105 rfl (lv_at hl 4 rfl) ?_
              refine lv_iload hx hb dX4_countFrom_106 (lv_at hl 1 rfl) ?_
              refine lv_aload_n hx hb dX4_countFrom_108 rfl (lv_at hl 4 rfl) ?_
              refine lv_iload hx hb dX4_countFrom_109 (lv_at hl 1 rfl) ?_
              refine ia_ld hx hb hK hP 2 rfl (i := i35) (by omega) (by decide) dX4_countFrom_111 ?_
              refine lv_iload_n hx hb dX4_countFrom_112 rfl (lv_at hl 5 rfl) ?_
              refine lv_iconst (v := (0 : Int32)) hx hb dX4_countFrom_113 (by decide) ?_
              refine ro_SN (As := [.int (((f_X4_cf2 w_there w_near (upd r2_35 i35 (f_X8_withBit (r2_35 i35) (1 : Int32) (1 : Int32))) (if xu < (nI (i35 + 1)) then (nI (i35 + 1)) else xu) xn).2) i35), .int (1 : Int32), .int (0 : Int32)]) (rest := [.int (nI i35), .ref pt_a]) ⟨hx, hb, hml, hown, hts⟩ hK (c_X8_withBit l D cI cJ cZ (((f_X4_cf2 w_there w_near (upd r2_35 i35 (f_X8_withBit (r2_35 i35) (1 : Int32) (1 : Int32))) (if xu < (nI (i35 + 1)) then (nI (i35 + 1)) else xu) xn).2) i35) (1 : Int32) (0 : Int32)) va_P_nil (va_cnB 3 hts gX4_countFrom_X8_withBit_n39 rfl rfl rfl (hK.2 _ gN_46) hq0 hd_X8_withBit ⟨(Nat.le_of_ble_eq_true rfl), (Nat.le_of_ble_eq_true rfl)⟩) hq2 rfl hl.1 rfl (Nat.le_of_ble_eq_true rfl) dX4_countFrom_114 (Nat.zero_le _) (Nat.zero_le _) ?_
              refine ia_st hx hb hK hP hD hS 2 rfl (i := i35) (by omega) (by decide) dX4_countFrom_117 (fun H locs hP hD hS => ?_)
              have hP : va_P D vwCl [(w, .inr (7, [.ref w_points_a, .ref w_tired_a, .ref w_near_a, .int w_there, .int w_free, .int w_held, .int w_wind, .int w_oil, .int w_hour, .int w_sights, .int w_agreedTo, .int w_refused])), (w_near_a, .inl (cI, 7, .inl w_near)), (pt_a, .inl (cI, 8, .inl (upd ((f_X4_cf2 w_there w_near (upd r2_35 i35 (f_X8_withBit (r2_35 i35) (1 : Int32) (1 : Int32))) (if xu < (nI (i35 + 1)) then (nI (i35 + 1)) else xu) xn).2) i35 (f_X8_withBit (((f_X4_cf2 w_there w_near (upd r2_35 i35 (f_X8_withBit (r2_35 i35) (1 : Int32) (1 : Int32))) (if xu < (nI (i35 + 1)) then (nI (i35 + 1)) else xu) xn).2) i35) (1 : Int32) (0 : Int32)))))] H := hP
              have hD : va_D _ [(w, .inr (7, [.ref w_points_a, .ref w_tired_a, .ref w_near_a, .int w_there, .int w_free, .int w_held, .int w_wind, .int w_oil, .int w_hour, .int w_sights, .int w_agreedTo, .int w_refused])), (w_near_a, .inl (cI, 7, .inl w_near)), (pt_a, .inl (cI, 8, .inl (upd ((f_X4_cf2 w_there w_near (upd r2_35 i35 (f_X8_withBit (r2_35 i35) (1 : Int32) (1 : Int32))) (if xu < (nI (i35 + 1)) then (nI (i35 + 1)) else xu) xn).2) i35 (f_X8_withBit (((f_X4_cf2 w_there w_near (upd r2_35 i35 (f_X8_withBit (r2_35 i35) (1 : Int32) (1 : Int32))) (if xu < (nI (i35 + 1)) then (nI (i35 + 1)) else xu) xn).2) i35) (1 : Int32) (0 : Int32)))))] := hD
              refine lv_iload hx hb dX4_countFrom_118 (lv_at hl 2 rfl) ?_
              refine lv_iload hx hb dX4_countFrom_120 (lv_at hl 1 rfl) ?_
              refine lv_iload_n hx hb dX4_countFrom_122 rfl (lv_at hl 6 rfl) ?_
              refine lv_icmp_ne (tgt := 136) hx hb dX4_countFrom_123 (by decide) (fun c123 => ?_) (fun c123 => ?_)
              · rw [if_neg c123] at hR
                refine lv_iload hx hb dX4_countFrom_136 (lv_at hl 0 rfl) ?_
                refine lv_iadd hx hb dX4_countFrom_138 ?_
                refine lv_istore (lv' := [(5, .int (v5_35 + ((f_X4_cf2 w_there w_near (upd r2_35 i35 (f_X8_withBit (r2_35 i35) (1 : Int32) (1 : Int32))) (if xu < (nI (i35 + 1)) then (nI (i35 + 1)) else xu) xn).1))), (7, .int ((f_X4_cf2 w_there w_near (upd r2_35 i35 (f_X8_withBit (r2_35 i35) (1 : Int32) (1 : Int32))) (if xu < (nI (i35 + 1)) then (nI (i35 + 1)) else xu) xn).1)), (6, .int (nI i35)), (0, .ref w), (1, .ref pt_a), (2, .int (1 : Int32)), (3, .int xu), (4, .int xn)]) hx hb dX4_countFrom_139 hl (by decide) rfl (fun ls hl => ?_)
                refine lv_iinc (v := (nI (i35 + 1))) (lv' := [(6, .int (nI (i35 + 1))), (5, .int (v5_35 + ((f_X4_cf2 w_there w_near (upd r2_35 i35 (f_X8_withBit (r2_35 i35) (1 : Int32) (1 : Int32))) (if xu < (nI (i35 + 1)) then (nI (i35 + 1)) else xu) xn).1))), (7, .int ((f_X4_cf2 w_there w_near (upd r2_35 i35 (f_X8_withBit (r2_35 i35) (1 : Int32) (1 : Int32))) (if xu < (nI (i35 + 1)) then (nI (i35 + 1)) else xu) xn).1)), (0, .ref w), (1, .ref pt_a), (2, .int (1 : Int32)), (3, .int xu), (4, .int xn)]) hx hb dX4_countFrom_141 hl (k := 2) rfl (by exact nI_add i35 1) (by decide) rfl (fun ls hl => ?_)
                refine lv_goto (tgt := 35) hx hb dX4_countFrom_144 (by decide) ?_
                exact ih35 _ _ _ (by omega) _ _ hP hD hS _ (lv_sub hl [0, 1, 3, 4, 5, 6, 7] rfl) hR
              · rw [if_pos c123] at hR
                refine lv_iload hx hb dX4_countFrom_126 (lv_at hl 7 rfl) ?_
                refine lv_iload_n hx hb dX4_countFrom_128 rfl (lv_at hl 6 rfl) ?_
                refine lv_isub hx hb dX4_countFrom_129 ?_
                refine lv_iload hx hb dX4_countFrom_130 (lv_at hl 0 rfl) ?_
                refine lv_imul hx hb dX4_countFrom_132 ?_
                refine lv_goto (tgt := 138) hx hb dX4_countFrom_133 (by decide) ?_
                refine lv_iadd hx hb dX4_countFrom_138 ?_
                refine lv_istore (lv' := [(5, .int (v5_35 + ((xn - xu) * ((f_X4_cf2 w_there w_near (upd r2_35 i35 (f_X8_withBit (r2_35 i35) (1 : Int32) (1 : Int32))) (if xu < (nI (i35 + 1)) then (nI (i35 + 1)) else xu) xn).1)))), (7, .int ((f_X4_cf2 w_there w_near (upd r2_35 i35 (f_X8_withBit (r2_35 i35) (1 : Int32) (1 : Int32))) (if xu < (nI (i35 + 1)) then (nI (i35 + 1)) else xu) xn).1)), (6, .int (nI i35)), (0, .ref w), (1, .ref pt_a), (2, .int (1 : Int32)), (3, .int xu), (4, .int xn)]) hx hb dX4_countFrom_139 hl (by decide) rfl (fun ls hl => ?_)
                refine lv_iinc (v := (nI (i35 + 1))) (lv' := [(6, .int (nI (i35 + 1))), (5, .int (v5_35 + ((xn - xu) * ((f_X4_cf2 w_there w_near (upd r2_35 i35 (f_X8_withBit (r2_35 i35) (1 : Int32) (1 : Int32))) (if xu < (nI (i35 + 1)) then (nI (i35 + 1)) else xu) xn).1)))), (7, .int ((f_X4_cf2 w_there w_near (upd r2_35 i35 (f_X8_withBit (r2_35 i35) (1 : Int32) (1 : Int32))) (if xu < (nI (i35 + 1)) then (nI (i35 + 1)) else xu) xn).1)), (0, .ref w), (1, .ref pt_a), (2, .int (1 : Int32)), (3, .int xu), (4, .int xn)]) hx hb dX4_countFrom_141 hl (k := 2) rfl (by exact nI_add i35 1) (by decide) rfl (fun ls hl => ?_)
                refine lv_goto (tgt := 35) hx hb dX4_countFrom_144 (by decide) ?_
                exact ih35 _ _ _ (by omega) _ _ hP hD hS _ (lv_sub hl [0, 1, 3, 4, 5, 6, 7] rfl) hR
            · rw [if_neg c66] at hR
              refine lv_goto (tgt := 141) hx hb dX4_countFrom_69 (by decide) ?_
              refine lv_iinc (v := (nI (i35 + 1))) (lv' := [(6, .int (nI (i35 + 1))), (5, .int v5_35), (0, .ref w), (1, .ref pt_a), (2, .int (1 : Int32)), (3, .int xu), (4, .int xn)]) hx hb dX4_countFrom_141 hl (k := 0) rfl (by exact nI_add i35 1) (by decide) rfl (fun ls hl => ?_)
              refine lv_goto (tgt := 35) hx hb dX4_countFrom_144 (by decide) ?_
              exact ih35 _ _ _ (by omega) _ _ hP hD hS _ (lv_sub hl [0, 1, 2, 3, 4, 5, 6] rfl) hR
    exact hloop35 8 0 _ _ (by omega) _ _ hP hD hS _ hl hF35_1
  · rw [if_pos c14] at hR
    refine lv_aload_n hx hb dX4_countFrom_17 rfl (lv_at hl 0 rfl) ?_
    refine lv_aload_n hx hb dX4_countFrom_18 rfl (lv_at hl 1 rfl) ?_
    refine lv_iload_n hx hb dX4_countFrom_19 rfl (lv_at hl 2 rfl) ?_
    refine lv_iconst (v := (1 : Int32)) hx hb dX4_countFrom_20 (by decide) ?_
    refine lv_iadd hx hb dX4_countFrom_21 ?_
    rw [show ((1 : Int32) + (1 : Int32)) = (2 : Int32) from nI_add 1 1]
    refine lv_iload_n hx hb dX4_countFrom_22 rfl (lv_at hl 3 rfl) ?_
    refine lv_iload hx hb dX4_countFrom_23 (lv_at hl 4 rfl) ?_
    refine rw_S (As := [.ref w, .ref pt_a, .int (2 : Int32), .int xu, .int xn]) (rest := []) (wr := []) (ws2 := [(w, .inr (7, [.ref w_points_a, .ref w_tired_a, .ref w_near_a, .int w_there, .int w_free, .int w_held, .int w_wind, .int w_oil, .int w_hour, .int w_sights, .int w_agreedTo, .int w_refused])), (w_near_a, .inl (cI, 7, .inl w_near)), (pt_a, .inl (cI, 8, .inl ((f_X4_cf2 w_there w_near pt xu xn).2)))]) (st1 := [.int ((f_X4_cf2 w_there w_near pt xu xn).1)]) ⟨hx, hb, hml, hown, hts⟩ hK hP hD hS (c_X4_cf2 l D cI cJ cZ w w_points_a w_tired_a w_near_a w_there w_free w_held w_wind w_oil w_hour w_sights w_agreedTo w_refused w_near pt_a pt xu xn) [0, 1, 2] [] [0, 1, 2] rfl rfl (by decide) (by decide) rfl rfl rfl (va_cwS 5 hts gX4_countFrom_X4_countFrom rfl rfl rfl hd_X4_countFrom ⟨(Nat.le_of_ble_eq_true rfl), (Nat.le_of_ble_eq_true rfl)⟩) rfl hl.1 rfl (Nat.le_of_ble_eq_true rfl) dX4_countFrom_25 (Nat.zero_le _) (Nat.zero_le _) (fun H locs hP hD hS => ?_)
    obtain ⟨rfl, rfl⟩ := prodI2 hR
    exact rw_iret hx hb hr hlocks hP hS dX4_countFrom_28


def lp_X4_cf0_35 (w_there : Int32) (w_near : Nat → Int32) (xu : Int32) (xn : Int32) : Nat → Nat → (Nat → Int32) → Int32 → (Nat → Int32) × Int32
  | 0, _, r2_35, v5_35 => (r2_35, v5_35)
  | k35 + 1, i35, r2_35, v5_35 => (if (xu < (nI i35)) then (r2_35, v5_35) else (if (xn ≤ (nI i35)) then (r2_35, v5_35) else (if (((r2_35 i35) &&& (w_near 0)) = 0) then (if ((nI i35) = xu) then (lp_X4_cf0_35 w_there w_near xu xn k35 (i35 + 1) (upd ((f_X4_cf1 w_there w_near (upd r2_35 i35 (f_X8_withBit (r2_35 i35) (0 : Int32) (1 : Int32))) (if xu < (nI (i35 + 1)) then (nI (i35 + 1)) else xu) xn).2) i35 (f_X8_withBit (((f_X4_cf1 w_there w_near (upd r2_35 i35 (f_X8_withBit (r2_35 i35) (0 : Int32) (1 : Int32))) (if xu < (nI (i35 + 1)) then (nI (i35 + 1)) else xu) xn).2) i35) (0 : Int32) (0 : Int32))) (v5_35 + ((xn - xu) * ((f_X4_cf1 w_there w_near (upd r2_35 i35 (f_X8_withBit (r2_35 i35) (0 : Int32) (1 : Int32))) (if xu < (nI (i35 + 1)) then (nI (i35 + 1)) else xu) xn).1)))) else (lp_X4_cf0_35 w_there w_near xu xn k35 (i35 + 1) (upd ((f_X4_cf1 w_there w_near (upd r2_35 i35 (f_X8_withBit (r2_35 i35) (0 : Int32) (1 : Int32))) (if xu < (nI (i35 + 1)) then (nI (i35 + 1)) else xu) xn).2) i35 (f_X8_withBit (((f_X4_cf1 w_there w_near (upd r2_35 i35 (f_X8_withBit (r2_35 i35) (0 : Int32) (1 : Int32))) (if xu < (nI (i35 + 1)) then (nI (i35 + 1)) else xu) xn).2) i35) (0 : Int32) (0 : Int32))) (v5_35 + ((f_X4_cf1 w_there w_near (upd r2_35 i35 (f_X8_withBit (r2_35 i35) (0 : Int32) (1 : Int32))) (if xu < (nI (i35 + 1)) then (nI (i35 + 1)) else xu) xn).1)))) else (lp_X4_cf0_35 w_there w_near xu xn k35 (i35 + 1) r2_35 v5_35))))
def f_X4_cf0 (w_there : Int32) (w_near : Nat → Int32) (pt : Nat → Int32) (xu : Int32) (xn : Int32) : Int32 × (Nat → Int32) :=
  (if ((f_X7_isThere w_there (0 : Int32)) = 0) then (((f_X4_cf1 w_there w_near pt xu xn).1), ((f_X4_cf1 w_there w_near pt xu xn).2)) else ((lp_X4_cf0_35 w_there w_near xu xn 8 0 pt (0 : Int32)).2, (lp_X4_cf0_35 w_there w_near xu xn 8 0 pt (0 : Int32)).1))
set_option maxHeartbeats 4000000 in
set_option maxRecDepth 100000 in
theorem c_X4_cf0 (l : Launch) (D : va_G) (cI cJ cZ : ClassId) (w : Nat) (w_points_a : Nat) (w_tired_a : Nat) (w_near_a : Nat) (w_there : Int32) (w_free : Int32) (w_held : Int32) (w_wind : Int32) (w_oil : Int32) (w_hour : Int32) (w_sights : Int32) (w_agreedTo : Int32) (w_refused : Int32) (w_near : Nat → Int32) (pt_a : Nat) (pt : Nat → Int32) (xu : Int32) (xn : Int32) : RW l yX4_countFrom wsX4_countFrom ({ frames := 9, cells := 0, slots := 0, locals := 230 }) [.ref w, .ref pt_a, .int (0 : Int32), .int xu, .int xn] D cI cJ cZ [(w, .inr (7, [.ref w_points_a, .ref w_tired_a, .ref w_near_a, .int w_there, .int w_free, .int w_held, .int w_wind, .int w_oil, .int w_hour, .int w_sights, .int w_agreedTo, .int w_refused])), (w_near_a, .inl (cI, 7, .inl w_near)), (pt_a, .inl (cI, 8, .inl pt))] (some (.int ((f_X4_cf0 w_there w_near pt xu xn).1))) [(w, .inr (7, [.ref w_points_a, .ref w_tired_a, .ref w_near_a, .int w_there, .int w_free, .int w_held, .int w_wind, .int w_oil, .int w_hour, .int w_sights, .int w_agreedTo, .int w_refused])), (w_near_a, .inl (cI, 7, .inl w_near)), (pt_a, .inl (cI, 8, .inl ((f_X4_cf0 w_there w_near pt xu xn).2)))] := by
  obtain ⟨R0, R1, hR⟩ := prodE2 (f_X4_cf0 w_there w_near pt xu xn)
  rw [hR]
  dsimp only
  refine rw_start (cc := cX4_countFrom) (maxL := 8) (ret := (some .int)) (by decide) rfl (Nat.le_of_ble_eq_true rfl) ?_
  intro p e s m args below meth c hx hb hr hml hown hts hlocks hP hD hS hK ls hl
  have hown : s.vm.findClass RX4 = some m.cls := hown
  have hl : lv_has ls 8 [(0, .ref w), (1, .ref pt_a), (2, .int (0 : Int32)), (3, .int xu), (4, .int xn)] := hl
  have hq0 := hts (.initialized RX8) (by decide +kernel)
  have hq1 := hts (.static yX8_isParish) (by decide +kernel)
  have hq2 := hts (.static yX8_withBit) (by decide +kernel)
  have hq3 := hts (.methodLink RX4 43 Lib.Math.max.name) (by decide +kernel)
  have hq4 := hts (.static Lib.Math.max.name) (by decide +kernel)
  have hq5 := hts (.initialized "java/lang/Math") (by decide +kernel)
  have hq6 := hts (.code Lib.Math.max.name Lib.Math.max.code 2 (some .int)) (by decide +kernel)
  rw [f_X4_cf0] at hR
  refine lv_iload_n hx hb dX4_countFrom_0 rfl (lv_at hl 2 rfl) ?_
  refine ro_SN (As := [.int (0 : Int32)]) (rest := []) ⟨hx, hb, hml, hown, hts⟩ hK (c_X8_isParish l D cI cJ cZ (0 : Int32)) va_P_nil (va_cnB 1 hts gX4_countFrom_X8_isParish_n29 rfl rfl rfl (hK.2 _ gN_45) hq0 hd_X8_isParish ⟨(Nat.le_of_ble_eq_true rfl), (Nat.le_of_ble_eq_true rfl)⟩) hq1 rfl hl.1 rfl (Nat.le_of_ble_eq_true rfl) dX4_countFrom_1 (Nat.zero_le _) (Nat.zero_le _) ?_
  refine lv_if_ne (tgt := 9) hx hb dX4_countFrom_4 (by decide) (fun _ => ?_) (fun h => absurd h (by decide))
  refine lv_aload_n hx hb dX4_countFrom_9 rfl (lv_at hl 0 rfl) ?_
  refine lv_iload_n hx hb dX4_countFrom_10 rfl (lv_at hl 2 rfl) ?_
  refine ro_V (As := [.int (0 : Int32)]) (rest := []) ⟨hx, hb, hml, hown, hts⟩ hK (c_X7_isThere l D cI cJ cZ w w_points_a w_tired_a w_near_a w_there w_free w_held w_wind w_oil w_hour w_sights w_agreedTo w_refused (0 : Int32)) hP 0 rfl rfl (rw_sub hP [0] rfl) (cwV 1 hts gX4_countFrom_X7_isThere rfl rfl rfl ⟨rfl, hd_X7_isThere⟩ ⟨(Nat.le_of_ble_eq_true rfl), (Nat.le_of_ble_eq_true rfl)⟩) rfl hl.1 rfl (Nat.le_of_ble_eq_true rfl) dX4_countFrom_11 (Nat.zero_le _) (Nat.zero_le _) ?_
  refine lv_if_ne (tgt := 29) hx hb dX4_countFrom_14 (by decide) (fun c14 => ?_) (fun c14 => ?_)
  · rw [if_neg c14] at hR
    refine lv_iconst (v := (0 : Int32)) hx hb dX4_countFrom_29 (by decide) ?_
    refine lv_istore (lv' := [(5, .int (0 : Int32)), (0, .ref w), (1, .ref pt_a), (2, .int (0 : Int32)), (3, .int xu), (4, .int xn)]) hx hb dX4_countFrom_30 hl (by decide) rfl (fun ls hl => ?_)
    refine lv_iconst (v := (0 : Int32)) hx hb dX4_countFrom_32 (by decide) ?_
    refine lv_istore (lv' := [(6, .int (0 : Int32)), (5, .int (0 : Int32)), (0, .ref w), (1, .ref pt_a), (2, .int (0 : Int32)), (3, .int xu), (4, .int xn)]) hx hb dX4_countFrom_33 hl (by decide) rfl (fun ls hl => ?_)
    obtain ⟨F35_1, hF35_1⟩ : ∃ x, (lp_X4_cf0_35 w_there w_near xu xn 8 0 pt (0 : Int32)) = x := ⟨_, rfl⟩
    try rw [hF35_1] at hR
    have hexit35 : ∀ (H : Heap) (locs : List Loc), va_P D vwCl [(w, .inr (7, [.ref w_points_a, .ref w_tired_a, .ref w_near_a, .int w_there, .int w_free, .int w_held, .int w_wind, .int w_oil, .int w_hour, .int w_sights, .int w_agreedTo, .int w_refused])), (w_near_a, .inl (cI, 7, .inl w_near)), (pt_a, .inl (cI, 8, .inl F35_1.1))] H → va_D (va_In [(w, .inr (7, [.ref w_points_a, .ref w_tired_a, .ref w_near_a, .int w_there, .int w_free, .int w_held, .int w_wind, .int w_oil, .int w_hour, .int w_sights, .int w_agreedTo, .int w_refused])), (w_near_a, .inl (cI, 7, .inl w_near)), (pt_a, .inl (cI, 8, .inl pt))]) [(w, .inr (7, [.ref w_points_a, .ref w_tired_a, .ref w_near_a, .int w_there, .int w_free, .int w_held, .int w_wind, .int w_oil, .int w_hour, .int w_sights, .int w_agreedTo, .int w_refused])), (w_near_a, .inl (cI, 7, .inl w_near)), (pt_a, .inl (cI, 8, .inl F35_1.1))] → va_S (va_In [(w, .inr (7, [.ref w_points_a, .ref w_tired_a, .ref w_near_a, .int w_there, .int w_free, .int w_held, .int w_wind, .int w_oil, .int w_hour, .int w_sights, .int w_agreedTo, .int w_refused])), (w_near_a, .inl (cI, 7, .inl w_near)), (pt_a, .inl (cI, 8, .inl pt))]) s.heap H locs → ∀ (ls : Array Slot), lv_has ls 8 [(5, .int F35_1.2), (0, .ref w), (1, .ref pt_a), (2, .int (0 : Int32)), (3, .int xu), (4, .int xn)] → W p l e ({ frames := 9, cells := 0, slots := 0, locals := 230 }) s m args below meth c H locs 0 0 (MQ below (rw_Q D (some (.int R0)) [(w, .inr (7, [.ref w_points_a, .ref w_tired_a, .ref w_near_a, .int w_there, .int w_free, .int w_held, .int w_wind, .int w_oil, .int w_hour, .int w_sights, .int w_agreedTo, .int w_refused])), (w_near_a, .inl (cI, 7, .inl w_near)), (pt_a, .inl (cI, 8, .inl pt))] [(w, .inr (7, [.ref w_points_a, .ref w_tired_a, .ref w_near_a, .int w_there, .int w_free, .int w_held, .int w_wind, .int w_oil, .int w_hour, .int w_sights, .int w_agreedTo, .int w_refused])), (w_near_a, .inl (cI, 7, .inl w_near)), (pt_a, .inl (cI, 8, .inl R1))]) args s 0 0 (va_In [(w, .inr (7, [.ref w_points_a, .ref w_tired_a, .ref w_near_a, .int w_there, .int w_free, .int w_held, .int w_wind, .int w_oil, .int w_hour, .int w_sights, .int w_agreedTo, .int w_refused])), (w_near_a, .inl (cI, 7, .inl w_near)), (pt_a, .inl (cI, 8, .inl pt))])) (F0 m 147 ls []) := by
      intro H locs hP hD hS ls hl
      refine lv_iload hx hb dX4_countFrom_147 (lv_at hl 0 rfl) ?_
      obtain ⟨rfl, rfl⟩ := prodI2 hR
      exact rw_iret hx hb hr hlocks hP hS dX4_countFrom_149
    have hloop35 : ∀ (k35 i35 : Nat) (r2_35 : Nat → Int32) (v5_35 : Int32), i35 + k35 = 8 → ∀ (H : Heap) (locs : List Loc), va_P D vwCl [(w, .inr (7, [.ref w_points_a, .ref w_tired_a, .ref w_near_a, .int w_there, .int w_free, .int w_held, .int w_wind, .int w_oil, .int w_hour, .int w_sights, .int w_agreedTo, .int w_refused])), (w_near_a, .inl (cI, 7, .inl w_near)), (pt_a, .inl (cI, 8, .inl r2_35))] H → va_D (va_In [(w, .inr (7, [.ref w_points_a, .ref w_tired_a, .ref w_near_a, .int w_there, .int w_free, .int w_held, .int w_wind, .int w_oil, .int w_hour, .int w_sights, .int w_agreedTo, .int w_refused])), (w_near_a, .inl (cI, 7, .inl w_near)), (pt_a, .inl (cI, 8, .inl pt))]) [(w, .inr (7, [.ref w_points_a, .ref w_tired_a, .ref w_near_a, .int w_there, .int w_free, .int w_held, .int w_wind, .int w_oil, .int w_hour, .int w_sights, .int w_agreedTo, .int w_refused])), (w_near_a, .inl (cI, 7, .inl w_near)), (pt_a, .inl (cI, 8, .inl r2_35))] → va_S (va_In [(w, .inr (7, [.ref w_points_a, .ref w_tired_a, .ref w_near_a, .int w_there, .int w_free, .int w_held, .int w_wind, .int w_oil, .int w_hour, .int w_sights, .int w_agreedTo, .int w_refused])), (w_near_a, .inl (cI, 7, .inl w_near)), (pt_a, .inl (cI, 8, .inl pt))]) s.heap H locs → ∀ (ls : Array Slot), lv_has ls 8 [(6, .int (nI i35)), (5, .int v5_35), (0, .ref w), (1, .ref pt_a), (2, .int (0 : Int32)), (3, .int xu), (4, .int xn)] → lp_X4_cf0_35 w_there w_near xu xn k35 i35 r2_35 v5_35 = F35_1 → W p l e ({ frames := 9, cells := 0, slots := 0, locals := 230 }) s m args below meth c H locs 0 0 (MQ below (rw_Q D (some (.int R0)) [(w, .inr (7, [.ref w_points_a, .ref w_tired_a, .ref w_near_a, .int w_there, .int w_free, .int w_held, .int w_wind, .int w_oil, .int w_hour, .int w_sights, .int w_agreedTo, .int w_refused])), (w_near_a, .inl (cI, 7, .inl w_near)), (pt_a, .inl (cI, 8, .inl pt))] [(w, .inr (7, [.ref w_points_a, .ref w_tired_a, .ref w_near_a, .int w_there, .int w_free, .int w_held, .int w_wind, .int w_oil, .int w_hour, .int w_sights, .int w_agreedTo, .int w_refused])), (w_near_a, .inl (cI, 7, .inl w_near)), (pt_a, .inl (cI, 8, .inl R1))]) args s 0 0 (va_In [(w, .inr (7, [.ref w_points_a, .ref w_tired_a, .ref w_near_a, .int w_there, .int w_free, .int w_held, .int w_wind, .int w_oil, .int w_hour, .int w_sights, .int w_agreedTo, .int w_refused])), (w_near_a, .inl (cI, 7, .inl w_near)), (pt_a, .inl (cI, 8, .inl pt))])) (F0 m 35 ls []) := by
      intro k35
      induction k35 with
      | zero =>
        intro i35 r2_35 v5_35 h35  H locs hP hD hS ls hl hR
        obtain rfl : 8 = i35 := by omega
        rw [lp_X4_cf0_35] at hR
        refine lv_iload hx hb dX4_countFrom_35 (lv_at hl 0 rfl) ?_
        refine lv_iload_n hx hb dX4_countFrom_37 rfl (lv_at hl 5 rfl) ?_
        refine lv_icmp_gt (tgt := 147) hx hb dX4_countFrom_38 (by decide) (fun c38 => ?_) (fun c38 => ?_)
        · subst hR
          exact hexit35 _ _ hP hD hS _ (lv_sub hl [1, 2, 3, 4, 5, 6] rfl)
        · refine lv_iload hx hb dX4_countFrom_41 (lv_at hl 0 rfl) ?_
          refine lv_iload hx hb dX4_countFrom_43 (lv_at hl 6 rfl) ?_
          refine lv_icmp_ge (tgt := 147) hx hb dX4_countFrom_45 (by decide) (fun c45 => ?_) (fun c45 => ?_)
          · subst hR
            exact hexit35 _ _ hP hD hS _ (lv_sub hl [1, 2, 3, 4, 5, 6] rfl)
          · refine lv_iload hx hb dX4_countFrom_48 (lv_at hl 0 rfl) ?_
            refine lv_bipush (v := (8 : Int32)) hx hb dX4_countFrom_50 (by decide +kernel) ?_
            refine lv_icmp_ge (tgt := 147) hx hb dX4_countFrom_52 (by decide) (fun _ => ?_) (fun h => absurd (cle_t (a := 8) (b := 8) rfl rfl (by omega) (by omega)) h)
            subst hR
            exact hexit35 _ _ hP hD hS _ (lv_sub hl [1, 2, 3, 4, 5, 6] rfl)
      | succ k35 ih35 =>
        intro i35 r2_35 v5_35 h35  H locs hP hD hS ls hl hR
        rw [lp_X4_cf0_35] at hR
        refine lv_iload hx hb dX4_countFrom_35 (lv_at hl 0 rfl) ?_
        refine lv_iload_n hx hb dX4_countFrom_37 rfl (lv_at hl 5 rfl) ?_
        refine lv_icmp_gt (tgt := 147) hx hb dX4_countFrom_38 (by decide) (fun c38 => ?_) (fun c38 => ?_)
        · rw [if_pos c38] at hR
          subst hR
          exact hexit35 _ _ hP hD hS _ (lv_sub hl [1, 2, 3, 4, 5, 6] rfl)
        · rw [if_neg c38] at hR
          refine lv_iload hx hb dX4_countFrom_41 (lv_at hl 0 rfl) ?_
          refine lv_iload hx hb dX4_countFrom_43 (lv_at hl 6 rfl) ?_
          refine lv_icmp_ge (tgt := 147) hx hb dX4_countFrom_45 (by decide) (fun c45 => ?_) (fun c45 => ?_)
          · rw [if_pos c45] at hR
            subst hR
            exact hexit35 _ _ hP hD hS _ (lv_sub hl [1, 2, 3, 4, 5, 6] rfl)
          · rw [if_neg c45] at hR
            refine lv_iload hx hb dX4_countFrom_48 (lv_at hl 0 rfl) ?_
            refine lv_bipush (v := (8 : Int32)) hx hb dX4_countFrom_50 (by decide +kernel) ?_
            refine lv_icmp_ge (tgt := 147) hx hb dX4_countFrom_52 (by decide) (fun h => absurd h (cle_f (a := 8) (b := i35) rfl rfl (by omega) (by omega))) (fun _ => ?_)
            refine lv_aload_n hx hb dX4_countFrom_55 rfl (lv_at hl 3 rfl) ?_
            refine lv_iload hx hb dX4_countFrom_56 (lv_at hl 0 rfl) ?_
            refine ia_ld hx hb hK hP 2 rfl (i := i35) (by omega) (by decide) dX4_countFrom_58 ?_
            refine lv_aload_n hx hb dX4_countFrom_59 rfl (lv_at hl 2 rfl) ?_
            refine va_getN (D := D) (ci := 7) (v := .ref w_near_a) (C := RX7) (T := TX7) (N := 12) hx hb hts in_X4_countFrom_X7 hown hK.1 hP 0 rfl rfl 2 (by decide) (va_Nw.use rfl (hK.2 _ gN_3)) (fun _ h9 => h9) rfl dX4_countFrom_60 ?_
            refine lv_iload_n hx hb dX4_countFrom_63 rfl (lv_at hl 4 rfl) ?_
            refine ia_ld hx hb hK hP 1 rfl (i := 0) (by omega) (by decide) dX4_countFrom_64 ?_
            refine lv_iand hx hb dX4_countFrom_65 ?_
            refine lv_if_eq (tgt := 72) hx hb dX4_countFrom_66 (by decide) (fun c66 => ?_) (fun c66 => ?_)
            · rw [if_pos c66] at hR
              refine lv_aload_n hx hb dX4_countFrom_72 rfl (lv_at hl 3 rfl) ?_
              refine lv_iload hx hb dX4_countFrom_73 (lv_at hl 0 rfl) ?_
              refine lv_aload_n hx hb dX4_countFrom_75 rfl (lv_at hl 3 rfl) ?_
              refine lv_iload hx hb dX4_countFrom_76 (lv_at hl 0 rfl) ?_
              refine ia_ld hx hb hK hP 2 rfl (i := i35) (by omega) (by decide) dX4_countFrom_78 ?_
              refine lv_iload_n hx hb dX4_countFrom_79 rfl (lv_at hl 4 rfl) ?_
              refine lv_iconst (v := (1 : Int32)) hx hb dX4_countFrom_80 (by decide) ?_
              refine ro_SN (As := [.int (r2_35 i35), .int (0 : Int32), .int (1 : Int32)]) (rest := [.int (nI i35), .ref pt_a]) ⟨hx, hb, hml, hown, hts⟩ hK (c_X8_withBit l D cI cJ cZ (r2_35 i35) (0 : Int32) (1 : Int32)) va_P_nil (va_cnB 3 hts gX4_countFrom_X8_withBit_n39 rfl rfl rfl (hK.2 _ gN_46) hq0 hd_X8_withBit ⟨(Nat.le_of_ble_eq_true rfl), (Nat.le_of_ble_eq_true rfl)⟩) hq2 rfl hl.1 rfl (Nat.le_of_ble_eq_true rfl) dX4_countFrom_81 (Nat.zero_le _) (Nat.zero_le _) ?_
              refine ia_st hx hb hK hP hD hS 2 rfl (i := i35) (by omega) (by decide) dX4_countFrom_84 (fun H locs hP hD hS => ?_)
              have hP : va_P D vwCl [(w, .inr (7, [.ref w_points_a, .ref w_tired_a, .ref w_near_a, .int w_there, .int w_free, .int w_held, .int w_wind, .int w_oil, .int w_hour, .int w_sights, .int w_agreedTo, .int w_refused])), (w_near_a, .inl (cI, 7, .inl w_near)), (pt_a, .inl (cI, 8, .inl (upd r2_35 i35 (f_X8_withBit (r2_35 i35) (0 : Int32) (1 : Int32)))))] H := hP
              have hD : va_D _ [(w, .inr (7, [.ref w_points_a, .ref w_tired_a, .ref w_near_a, .int w_there, .int w_free, .int w_held, .int w_wind, .int w_oil, .int w_hour, .int w_sights, .int w_agreedTo, .int w_refused])), (w_near_a, .inl (cI, 7, .inl w_near)), (pt_a, .inl (cI, 8, .inl (upd r2_35 i35 (f_X8_withBit (r2_35 i35) (0 : Int32) (1 : Int32)))))] := hD
              refine lv_aload_n hx hb dX4_countFrom_85 rfl (lv_at hl 2 rfl) ?_
              refine lv_aload_n hx hb dX4_countFrom_86 rfl (lv_at hl 3 rfl) ?_
              refine lv_iload_n hx hb dX4_countFrom_87 rfl (lv_at hl 4 rfl) ?_
              refine lv_iconst (v := (1 : Int32)) hx hb dX4_countFrom_88 (by decide) ?_
              refine lv_iadd hx hb dX4_countFrom_89 ?_
              rw [show ((0 : Int32) + (1 : Int32)) = (1 : Int32) from nI_add 0 1]
              refine lv_iload_n hx hb dX4_countFrom_90 rfl (lv_at hl 5 rfl) ?_
              refine lv_iload hx hb dX4_countFrom_91 (lv_at hl 0 rfl) ?_
              refine lv_iconst (v := (1 : Int32)) hx hb dX4_countFrom_93 (by decide) ?_
              refine lv_iadd hx hb dX4_countFrom_94 ?_
              rw [show ((nI i35) + (1 : Int32)) = (nI (i35 + 1)) from nI_add i35 1]
              refine va_mmax (rest := [.int (1 : Int32), .ref pt_a, .ref w]) hx hb (hml.trans hl.1.symm) hown hq3 hq4 hq5 hq6 (Nat.le_of_ble_eq_true rfl) (Nat.le_of_ble_eq_true rfl) (Nat.zero_le _) (Nat.zero_le _) dX4_countFrom_95 ?_
              refine lv_iload hx hb dX4_countFrom_98 (lv_at hl 6 rfl) ?_
              refine rw_S (As := [.ref w, .ref pt_a, .int (1 : Int32), .int (if xu < (nI (i35 + 1)) then (nI (i35 + 1)) else xu), .int xn]) (rest := []) (wr := []) (ws2 := [(w, .inr (7, [.ref w_points_a, .ref w_tired_a, .ref w_near_a, .int w_there, .int w_free, .int w_held, .int w_wind, .int w_oil, .int w_hour, .int w_sights, .int w_agreedTo, .int w_refused])), (w_near_a, .inl (cI, 7, .inl w_near)), (pt_a, .inl (cI, 8, .inl ((f_X4_cf1 w_there w_near (upd r2_35 i35 (f_X8_withBit (r2_35 i35) (0 : Int32) (1 : Int32))) (if xu < (nI (i35 + 1)) then (nI (i35 + 1)) else xu) xn).2)))]) (st1 := [.int ((f_X4_cf1 w_there w_near (upd r2_35 i35 (f_X8_withBit (r2_35 i35) (0 : Int32) (1 : Int32))) (if xu < (nI (i35 + 1)) then (nI (i35 + 1)) else xu) xn).1)]) ⟨hx, hb, hml, hown, hts⟩ hK hP hD hS (c_X4_cf1 l D cI cJ cZ w w_points_a w_tired_a w_near_a w_there w_free w_held w_wind w_oil w_hour w_sights w_agreedTo w_refused w_near pt_a (upd r2_35 i35 (f_X8_withBit (r2_35 i35) (0 : Int32) (1 : Int32))) (if xu < (nI (i35 + 1)) then (nI (i35 + 1)) else xu) xn) [0, 1, 2] [] [0, 1, 2] rfl rfl (by decide) (by decide) rfl rfl rfl (va_cwS 5 hts gX4_countFrom_X4_countFrom rfl rfl rfl hd_X4_countFrom ⟨(Nat.le_of_ble_eq_true rfl), (Nat.le_of_ble_eq_true rfl)⟩) rfl hl.1 rfl (Nat.le_of_ble_eq_true rfl) dX4_countFrom_100 (Nat.zero_le _) (Nat.zero_le _) (fun H locs hP hD hS => ?_)
              refine lv_istore (lv' := [(7, .int ((f_X4_cf1 w_there w_near (upd r2_35 i35 (f_X8_withBit (r2_35 i35) (0 : Int32) (1 : Int32))) (if xu < (nI (i35 + 1)) then (nI (i35 + 1)) else xu) xn).1)), (6, .int (nI i35)), (5, .int v5_35), (0, .ref w), (1, .ref pt_a), (2, .int (0 : Int32)), (3, .int xu), (4, .int xn)]) hx hb dX4_countFrom_103 hl (by decide) rfl (fun ls hl => ?_)
              refine lv_aload_n hx hb dX4_countFrom_105 rfl (lv_at hl 4 rfl) ?_
              refine lv_iload hx hb dX4_countFrom_106 (lv_at hl 1 rfl) ?_
              refine lv_aload_n hx hb dX4_countFrom_108 rfl (lv_at hl 4 rfl) ?_
              refine lv_iload hx hb dX4_countFrom_109 (lv_at hl 1 rfl) ?_
              refine ia_ld hx hb hK hP 2 rfl (i := i35) (by omega) (by decide) dX4_countFrom_111 ?_
              refine lv_iload_n hx hb dX4_countFrom_112 rfl (lv_at hl 5 rfl) ?_
              refine lv_iconst (v := (0 : Int32)) hx hb dX4_countFrom_113 (by decide) ?_
              refine ro_SN (As := [.int (((f_X4_cf1 w_there w_near (upd r2_35 i35 (f_X8_withBit (r2_35 i35) (0 : Int32) (1 : Int32))) (if xu < (nI (i35 + 1)) then (nI (i35 + 1)) else xu) xn).2) i35), .int (0 : Int32), .int (0 : Int32)]) (rest := [.int (nI i35), .ref pt_a]) ⟨hx, hb, hml, hown, hts⟩ hK (c_X8_withBit l D cI cJ cZ (((f_X4_cf1 w_there w_near (upd r2_35 i35 (f_X8_withBit (r2_35 i35) (0 : Int32) (1 : Int32))) (if xu < (nI (i35 + 1)) then (nI (i35 + 1)) else xu) xn).2) i35) (0 : Int32) (0 : Int32)) va_P_nil (va_cnB 3 hts gX4_countFrom_X8_withBit_n39 rfl rfl rfl (hK.2 _ gN_46) hq0 hd_X8_withBit ⟨(Nat.le_of_ble_eq_true rfl), (Nat.le_of_ble_eq_true rfl)⟩) hq2 rfl hl.1 rfl (Nat.le_of_ble_eq_true rfl) dX4_countFrom_114 (Nat.zero_le _) (Nat.zero_le _) ?_
              refine ia_st hx hb hK hP hD hS 2 rfl (i := i35) (by omega) (by decide) dX4_countFrom_117 (fun H locs hP hD hS => ?_)
              have hP : va_P D vwCl [(w, .inr (7, [.ref w_points_a, .ref w_tired_a, .ref w_near_a, .int w_there, .int w_free, .int w_held, .int w_wind, .int w_oil, .int w_hour, .int w_sights, .int w_agreedTo, .int w_refused])), (w_near_a, .inl (cI, 7, .inl w_near)), (pt_a, .inl (cI, 8, .inl (upd ((f_X4_cf1 w_there w_near (upd r2_35 i35 (f_X8_withBit (r2_35 i35) (0 : Int32) (1 : Int32))) (if xu < (nI (i35 + 1)) then (nI (i35 + 1)) else xu) xn).2) i35 (f_X8_withBit (((f_X4_cf1 w_there w_near (upd r2_35 i35 (f_X8_withBit (r2_35 i35) (0 : Int32) (1 : Int32))) (if xu < (nI (i35 + 1)) then (nI (i35 + 1)) else xu) xn).2) i35) (0 : Int32) (0 : Int32)))))] H := hP
              have hD : va_D _ [(w, .inr (7, [.ref w_points_a, .ref w_tired_a, .ref w_near_a, .int w_there, .int w_free, .int w_held, .int w_wind, .int w_oil, .int w_hour, .int w_sights, .int w_agreedTo, .int w_refused])), (w_near_a, .inl (cI, 7, .inl w_near)), (pt_a, .inl (cI, 8, .inl (upd ((f_X4_cf1 w_there w_near (upd r2_35 i35 (f_X8_withBit (r2_35 i35) (0 : Int32) (1 : Int32))) (if xu < (nI (i35 + 1)) then (nI (i35 + 1)) else xu) xn).2) i35 (f_X8_withBit (((f_X4_cf1 w_there w_near (upd r2_35 i35 (f_X8_withBit (r2_35 i35) (0 : Int32) (1 : Int32))) (if xu < (nI (i35 + 1)) then (nI (i35 + 1)) else xu) xn).2) i35) (0 : Int32) (0 : Int32)))))] := hD
              refine lv_iload hx hb dX4_countFrom_118 (lv_at hl 2 rfl) ?_
              refine lv_iload hx hb dX4_countFrom_120 (lv_at hl 1 rfl) ?_
              refine lv_iload_n hx hb dX4_countFrom_122 rfl (lv_at hl 6 rfl) ?_
              refine lv_icmp_ne (tgt := 136) hx hb dX4_countFrom_123 (by decide) (fun c123 => ?_) (fun c123 => ?_)
              · rw [if_neg c123] at hR
                refine lv_iload hx hb dX4_countFrom_136 (lv_at hl 0 rfl) ?_
                refine lv_iadd hx hb dX4_countFrom_138 ?_
                refine lv_istore (lv' := [(5, .int (v5_35 + ((f_X4_cf1 w_there w_near (upd r2_35 i35 (f_X8_withBit (r2_35 i35) (0 : Int32) (1 : Int32))) (if xu < (nI (i35 + 1)) then (nI (i35 + 1)) else xu) xn).1))), (7, .int ((f_X4_cf1 w_there w_near (upd r2_35 i35 (f_X8_withBit (r2_35 i35) (0 : Int32) (1 : Int32))) (if xu < (nI (i35 + 1)) then (nI (i35 + 1)) else xu) xn).1)), (6, .int (nI i35)), (0, .ref w), (1, .ref pt_a), (2, .int (0 : Int32)), (3, .int xu), (4, .int xn)]) hx hb dX4_countFrom_139 hl (by decide) rfl (fun ls hl => ?_)
                refine lv_iinc (v := (nI (i35 + 1))) (lv' := [(6, .int (nI (i35 + 1))), (5, .int (v5_35 + ((f_X4_cf1 w_there w_near (upd r2_35 i35 (f_X8_withBit (r2_35 i35) (0 : Int32) (1 : Int32))) (if xu < (nI (i35 + 1)) then (nI (i35 + 1)) else xu) xn).1))), (7, .int ((f_X4_cf1 w_there w_near (upd r2_35 i35 (f_X8_withBit (r2_35 i35) (0 : Int32) (1 : Int32))) (if xu < (nI (i35 + 1)) then (nI (i35 + 1)) else xu) xn).1)), (0, .ref w), (1, .ref pt_a), (2, .int (0 : Int32)), (3, .int xu), (4, .int xn)]) hx hb dX4_countFrom_141 hl (k := 2) rfl (by exact nI_add i35 1) (by decide) rfl (fun ls hl => ?_)
                refine lv_goto (tgt := 35) hx hb dX4_countFrom_144 (by decide) ?_
                exact ih35 _ _ _ (by omega) _ _ hP hD hS _ (lv_sub hl [0, 1, 3, 4, 5, 6, 7] rfl) hR
              · rw [if_pos c123] at hR
                refine lv_iload hx hb dX4_countFrom_126 (lv_at hl 7 rfl) ?_
                refine lv_iload_n hx hb dX4_countFrom_128 rfl (lv_at hl 6 rfl) ?_
                refine lv_isub hx hb dX4_countFrom_129 ?_
                refine lv_iload hx hb dX4_countFrom_130 (lv_at hl 0 rfl) ?_
                refine lv_imul hx hb dX4_countFrom_132 ?_
                refine lv_goto (tgt := 138) hx hb dX4_countFrom_133 (by decide) ?_
                refine lv_iadd hx hb dX4_countFrom_138 ?_
                refine lv_istore (lv' := [(5, .int (v5_35 + ((xn - xu) * ((f_X4_cf1 w_there w_near (upd r2_35 i35 (f_X8_withBit (r2_35 i35) (0 : Int32) (1 : Int32))) (if xu < (nI (i35 + 1)) then (nI (i35 + 1)) else xu) xn).1)))), (7, .int ((f_X4_cf1 w_there w_near (upd r2_35 i35 (f_X8_withBit (r2_35 i35) (0 : Int32) (1 : Int32))) (if xu < (nI (i35 + 1)) then (nI (i35 + 1)) else xu) xn).1)), (6, .int (nI i35)), (0, .ref w), (1, .ref pt_a), (2, .int (0 : Int32)), (3, .int xu), (4, .int xn)]) hx hb dX4_countFrom_139 hl (by decide) rfl (fun ls hl => ?_)
                refine lv_iinc (v := (nI (i35 + 1))) (lv' := [(6, .int (nI (i35 + 1))), (5, .int (v5_35 + ((xn - xu) * ((f_X4_cf1 w_there w_near (upd r2_35 i35 (f_X8_withBit (r2_35 i35) (0 : Int32) (1 : Int32))) (if xu < (nI (i35 + 1)) then (nI (i35 + 1)) else xu) xn).1)))), (7, .int ((f_X4_cf1 w_there w_near (upd r2_35 i35 (f_X8_withBit (r2_35 i35) (0 : Int32) (1 : Int32))) (if xu < (nI (i35 + 1)) then (nI (i35 + 1)) else xu) xn).1)), (0, .ref w), (1, .ref pt_a), (2, .int (0 : Int32)), (3, .int xu), (4, .int xn)]) hx hb dX4_countFrom_141 hl (k := 2) rfl (by exact nI_add i35 1) (by decide) rfl (fun ls hl => ?_)
                refine lv_goto (tgt := 35) hx hb dX4_countFrom_144 (by decide) ?_
                exact ih35 _ _ _ (by omega) _ _ hP hD hS _ (lv_sub hl [0, 1, 3, 4, 5, 6, 7] rfl) hR
            · rw [if_neg c66] at hR
              refine lv_goto (tgt := 141) hx hb dX4_countFrom_69 (by decide) ?_
              refine lv_iinc (v := (nI (i35 + 1))) (lv' := [(6, .int (nI (i35 + 1))), (5, .int v5_35), (0, .ref w), (1, .ref pt_a), (2, .int (0 : Int32)), (3, .int xu), (4, .int xn)]) hx hb dX4_countFrom_141 hl (k := 0) rfl (by exact nI_add i35 1) (by decide) rfl (fun ls hl => ?_)
              refine lv_goto (tgt := 35) hx hb dX4_countFrom_144 (by decide) ?_
              exact ih35 _ _ _ (by omega) _ _ hP hD hS _ (lv_sub hl [0, 1, 2, 3, 4, 5, 6] rfl) hR
    exact hloop35 8 0 _ _ (by omega) _ _ hP hD hS _ hl hF35_1
  · rw [if_pos c14] at hR
    refine lv_aload_n hx hb dX4_countFrom_17 rfl (lv_at hl 0 rfl) ?_
    refine lv_aload_n hx hb dX4_countFrom_18 rfl (lv_at hl 1 rfl) ?_
    refine lv_iload_n hx hb dX4_countFrom_19 rfl (lv_at hl 2 rfl) ?_
    refine lv_iconst (v := (1 : Int32)) hx hb dX4_countFrom_20 (by decide) ?_
    refine lv_iadd hx hb dX4_countFrom_21 ?_
    rw [show ((0 : Int32) + (1 : Int32)) = (1 : Int32) from nI_add 0 1]
    refine lv_iload_n hx hb dX4_countFrom_22 rfl (lv_at hl 3 rfl) ?_
    refine lv_iload hx hb dX4_countFrom_23 (lv_at hl 4 rfl) ?_
    refine rw_S (As := [.ref w, .ref pt_a, .int (1 : Int32), .int xu, .int xn]) (rest := []) (wr := []) (ws2 := [(w, .inr (7, [.ref w_points_a, .ref w_tired_a, .ref w_near_a, .int w_there, .int w_free, .int w_held, .int w_wind, .int w_oil, .int w_hour, .int w_sights, .int w_agreedTo, .int w_refused])), (w_near_a, .inl (cI, 7, .inl w_near)), (pt_a, .inl (cI, 8, .inl ((f_X4_cf1 w_there w_near pt xu xn).2)))]) (st1 := [.int ((f_X4_cf1 w_there w_near pt xu xn).1)]) ⟨hx, hb, hml, hown, hts⟩ hK hP hD hS (c_X4_cf1 l D cI cJ cZ w w_points_a w_tired_a w_near_a w_there w_free w_held w_wind w_oil w_hour w_sights w_agreedTo w_refused w_near pt_a pt xu xn) [0, 1, 2] [] [0, 1, 2] rfl rfl (by decide) (by decide) rfl rfl rfl (va_cwS 5 hts gX4_countFrom_X4_countFrom rfl rfl rfl hd_X4_countFrom ⟨(Nat.le_of_ble_eq_true rfl), (Nat.le_of_ble_eq_true rfl)⟩) rfl hl.1 rfl (Nat.le_of_ble_eq_true rfl) dX4_countFrom_25 (Nat.zero_le _) (Nat.zero_le _) (fun H locs hP hD hS => ?_)
    obtain ⟨rfl, rfl⟩ := prodI2 hR
    exact rw_iret hx hb hr hlocks hP hS dX4_countFrom_28


theorem in_X4_count_X4 : ∀ w ∈ u_ws RX4 TX4 1, w ∈ wsX4_count := by decide +kernel
def f_X4_count (pp_pointing : Nat → Int32) (w_there : Int32) (w_near : Nat → Int32) (xn : Int32) : Int32 × (Nat → Int32) :=
  (((f_X4_cf0 w_there w_near pp_pointing (0 : Int32) xn).1), ((f_X4_cf0 w_there w_near pp_pointing (0 : Int32) xn).2))
set_option maxHeartbeats 4000000 in
set_option maxRecDepth 100000 in
theorem c_X4_count (l : Launch) (D : va_G) (cI cJ cZ : ClassId) (pp : Nat) (pp_pointing_a : Nat) (pp_pointing : Nat → Int32) (w : Nat) (w_points_a : Nat) (w_tired_a : Nat) (w_near_a : Nat) (w_there : Int32) (w_free : Int32) (w_held : Int32) (w_wind : Int32) (w_oil : Int32) (w_hour : Int32) (w_sights : Int32) (w_agreedTo : Int32) (w_refused : Int32) (w_near : Nat → Int32) (xn : Int32) : RW l yX4_count wsX4_count ({ frames := 10, cells := 0, slots := 0, locals := 257 }) [.ref pp, .ref w, .int xn] D cI cJ cZ [(pp, .inr (4, [.ref pp_pointing_a])), (pp_pointing_a, .inl (cI, 8, .inl pp_pointing)), (w, .inr (7, [.ref w_points_a, .ref w_tired_a, .ref w_near_a, .int w_there, .int w_free, .int w_held, .int w_wind, .int w_oil, .int w_hour, .int w_sights, .int w_agreedTo, .int w_refused])), (w_near_a, .inl (cI, 7, .inl w_near))] (some (.int ((f_X4_count pp_pointing w_there w_near xn).1))) [(pp, .inr (4, [.ref pp_pointing_a])), (pp_pointing_a, .inl (cI, 8, .inl ((f_X4_count pp_pointing w_there w_near xn).2))), (w, .inr (7, [.ref w_points_a, .ref w_tired_a, .ref w_near_a, .int w_there, .int w_free, .int w_held, .int w_wind, .int w_oil, .int w_hour, .int w_sights, .int w_agreedTo, .int w_refused])), (w_near_a, .inl (cI, 7, .inl w_near))] := by
  obtain ⟨R0, R1, hR⟩ := prodE2 (f_X4_count pp_pointing w_there w_near xn)
  rw [hR]
  dsimp only
  refine rw_start (cc := cX4_count) (maxL := 3) (ret := (some .int)) (by decide) rfl (Nat.le_of_ble_eq_true rfl) ?_
  intro p e s m args below meth c hx hb hr hml hown hts hlocks hP hD hS hK ls hl
  have hown : s.vm.findClass RX4 = some m.cls := hown
  have hl : lv_has ls 3 [(0, .ref pp), (1, .ref w), (2, .int xn)] := hl
  have hq0 := hts (.fieldLink RX4 9 "StuckVanes$Pointings" "pointing" "[I") (by decide +kernel)
  rw [f_X4_count] at hR
  refine lv_aload_n hx hb dX4_count_0 rfl (lv_at hl 1 rfl) ?_
  refine lv_aload_n hx hb dX4_count_1 rfl (lv_at hl 0 rfl) ?_
  refine va_get (D := D) (ci := 4) (v := .ref pp_pointing_a) (C := RX4) (T := TX4) (N := 1) hx hb hts in_X4_count_X4 hown hK.1 hP 0 rfl rfl 0 (by decide) hq0 (fun _ h9 => h9) rfl dX4_count_2 ?_
  refine lv_iconst (v := (0 : Int32)) hx hb dX4_count_5 (by decide) ?_
  refine lv_iconst (v := (0 : Int32)) hx hb dX4_count_6 (by decide) ?_
  refine lv_iload_n hx hb dX4_count_7 rfl (lv_at hl 2 rfl) ?_
  refine rw_S (As := [.ref w, .ref pp_pointing_a, .int (0 : Int32), .int (0 : Int32), .int xn]) (rest := []) (wr := [(pp, .inr (4, [.ref pp_pointing_a]))]) (ws2 := [(pp, .inr (4, [.ref pp_pointing_a])), (pp_pointing_a, .inl (cI, 8, .inl ((f_X4_cf0 w_there w_near pp_pointing (0 : Int32) xn).2))), (w, .inr (7, [.ref w_points_a, .ref w_tired_a, .ref w_near_a, .int w_there, .int w_free, .int w_held, .int w_wind, .int w_oil, .int w_hour, .int w_sights, .int w_agreedTo, .int w_refused])), (w_near_a, .inl (cI, 7, .inl w_near))]) (st1 := [.int ((f_X4_cf0 w_there w_near pp_pointing (0 : Int32) xn).1)]) ⟨hx, hb, hml, hown, hts⟩ hK hP hD hS (c_X4_cf0 l D cI cJ cZ w w_points_a w_tired_a w_near_a w_there w_free w_held w_wind w_oil w_hour w_sights w_agreedTo w_refused w_near pp_pointing_a pp_pointing (0 : Int32) xn) [2, 3, 1] [0] [0, 3, 1, 2] rfl rfl (by decide) (by decide) rfl rfl rfl (va_cwS 5 hts gX4_count_X4_countFrom rfl rfl rfl hd_X4_countFrom ⟨(Nat.le_of_ble_eq_true rfl), (Nat.le_of_ble_eq_true rfl)⟩) rfl hl.1 rfl (Nat.le_of_ble_eq_true rfl) dX4_count_8 (Nat.zero_le _) (Nat.zero_le _) (fun H locs hP hD hS => ?_)
  obtain ⟨rfl, rfl⟩ := prodI2 hR
  exact rw_iret hx hb hr hlocks hP hS dX4_count_11


theorem in_X4_fewest_X7 : ∀ w ∈ u_ws RX7 TX7 12, w ∈ wsX4_fewest := by decide +kernel
theorem hd_X4_count : yX4_count.cls ≠ "java/lang/invoke/MethodHandle" ∧ yX4_count.cls ≠ "java/lang/invoke/VarHandle" ∧ (parseMethodDescriptor yX4_count.desc).map (fun d => d.parameters.length) = some 2 := by decide +kernel
def lp_X4_fewest_13 (w_there : Int32) (w_near : Nat → Int32) : Nat → Nat → (Nat → Int32) → Int32 × (Nat → Int32)
  | 0, _, r1_13 => ((nI 7), r1_13)
  | k13 + 1, i13, r1_13 => (if (((f_X4_count r1_13 w_there w_near (nI i13)).1) = 0) then (lp_X4_fewest_13 w_there w_near k13 (i13 + 1) ((f_X4_count r1_13 w_there w_near (nI i13)).2)) else ((nI i13), ((f_X4_count r1_13 w_there w_near (nI i13)).2)))
def f_X4_fewest (pp_pointing : Nat → Int32) (w_there : Int32) (w_near : Nat → Int32) : Int32 × (Nat → Int32) :=
  (if (w_there = 0) then (lp_X4_fewest_13 w_there w_near 7 0 pp_pointing) else (lp_X4_fewest_13 w_there w_near 6 1 pp_pointing))
set_option maxHeartbeats 4000000 in
set_option maxRecDepth 100000 in
theorem c_X4_fewest (l : Launch) (D : va_G) (cI cJ cZ : ClassId) (pp : Nat) (pp_pointing_a : Nat) (pp_pointing : Nat → Int32) (w : Nat) (w_points_a : Nat) (w_tired_a : Nat) (w_near_a : Nat) (w_there : Int32) (w_free : Int32) (w_held : Int32) (w_wind : Int32) (w_oil : Int32) (w_hour : Int32) (w_sights : Int32) (w_agreedTo : Int32) (w_refused : Int32) (w_near : Nat → Int32) : RW l yX4_fewest wsX4_fewest ({ frames := 11, cells := 0, slots := 0, locals := 279 }) [.ref pp, .ref w] D cI cJ cZ [(pp, .inr (4, [.ref pp_pointing_a])), (pp_pointing_a, .inl (cI, 8, .inl pp_pointing)), (w, .inr (7, [.ref w_points_a, .ref w_tired_a, .ref w_near_a, .int w_there, .int w_free, .int w_held, .int w_wind, .int w_oil, .int w_hour, .int w_sights, .int w_agreedTo, .int w_refused])), (w_near_a, .inl (cI, 7, .inl w_near))] (some (.int ((f_X4_fewest pp_pointing w_there w_near).1))) [(pp, .inr (4, [.ref pp_pointing_a])), (pp_pointing_a, .inl (cI, 8, .inl ((f_X4_fewest pp_pointing w_there w_near).2))), (w, .inr (7, [.ref w_points_a, .ref w_tired_a, .ref w_near_a, .int w_there, .int w_free, .int w_held, .int w_wind, .int w_oil, .int w_hour, .int w_sights, .int w_agreedTo, .int w_refused])), (w_near_a, .inl (cI, 7, .inl w_near))] := by
  obtain ⟨R0, R1, hR⟩ := prodE2 (f_X4_fewest pp_pointing w_there w_near)
  rw [hR]
  dsimp only
  refine rw_start (cc := cX4_fewest) (maxL := 3) (ret := (some .int)) (by decide) rfl (Nat.le_of_ble_eq_true rfl) ?_
  intro p e s m args below meth c hx hb hr hml hown hts hlocks hP hD hS hK ls hl
  have hown : s.vm.findClass RX4 = some m.cls := hown
  have hl : lv_has ls 3 [(0, .ref pp), (1, .ref w)] := hl
  rw [f_X4_fewest] at hR
  refine lv_aload_n hx hb dX4_fewest_0 rfl (lv_at hl 1 rfl) ?_
  refine va_getN (D := D) (ci := 7) (v := .int w_there) (C := RX7) (T := TX7) (N := 12) hx hb hts in_X4_fewest_X7 hown hK.1 hP 2 rfl rfl 3 (by decide) (va_Nw.use rfl (hK.2 _ gN_4)) (fun _ h9 => h9) rfl dX4_fewest_1 ?_
  refine lv_if_ne (tgt := 11) hx hb dX4_fewest_4 (by decide) (fun c4 => ?_) (fun c4 => ?_)
  · rw [if_neg c4] at hR
    refine lv_iconst (v := (1 : Int32)) hx hb dX4_fewest_11 (by decide) ?_
    refine lv_istore_n (lv' := [(2, .int (1 : Int32)), (0, .ref pp), (1, .ref w)]) hx hb dX4_fewest_12 rfl hl (by decide) rfl (fun ls hl => ?_)
    have hloop13 : ∀ (k13 i13 : Nat) (r1_13 : Nat → Int32), i13 + k13 = 7 → 1 ≤ i13 → ∀ (H : Heap) (locs : List Loc), va_P D vwCl [(pp, .inr (4, [.ref pp_pointing_a])), (pp_pointing_a, .inl (cI, 8, .inl r1_13)), (w, .inr (7, [.ref w_points_a, .ref w_tired_a, .ref w_near_a, .int w_there, .int w_free, .int w_held, .int w_wind, .int w_oil, .int w_hour, .int w_sights, .int w_agreedTo, .int w_refused])), (w_near_a, .inl (cI, 7, .inl w_near))] H → va_D (va_In [(pp, .inr (4, [.ref pp_pointing_a])), (pp_pointing_a, .inl (cI, 8, .inl pp_pointing)), (w, .inr (7, [.ref w_points_a, .ref w_tired_a, .ref w_near_a, .int w_there, .int w_free, .int w_held, .int w_wind, .int w_oil, .int w_hour, .int w_sights, .int w_agreedTo, .int w_refused])), (w_near_a, .inl (cI, 7, .inl w_near))]) [(pp, .inr (4, [.ref pp_pointing_a])), (pp_pointing_a, .inl (cI, 8, .inl r1_13)), (w, .inr (7, [.ref w_points_a, .ref w_tired_a, .ref w_near_a, .int w_there, .int w_free, .int w_held, .int w_wind, .int w_oil, .int w_hour, .int w_sights, .int w_agreedTo, .int w_refused])), (w_near_a, .inl (cI, 7, .inl w_near))] → va_S (va_In [(pp, .inr (4, [.ref pp_pointing_a])), (pp_pointing_a, .inl (cI, 8, .inl pp_pointing)), (w, .inr (7, [.ref w_points_a, .ref w_tired_a, .ref w_near_a, .int w_there, .int w_free, .int w_held, .int w_wind, .int w_oil, .int w_hour, .int w_sights, .int w_agreedTo, .int w_refused])), (w_near_a, .inl (cI, 7, .inl w_near))]) s.heap H locs → ∀ (ls : Array Slot), lv_has ls 3 [(2, .int (nI i13)), (0, .ref pp), (1, .ref w)] → lp_X4_fewest_13 w_there w_near k13 i13 r1_13 = (R0, R1) → W p l e ({ frames := 11, cells := 0, slots := 0, locals := 279 }) s m args below meth c H locs 0 0 (MQ below (rw_Q D (some (.int R0)) [(pp, .inr (4, [.ref pp_pointing_a])), (pp_pointing_a, .inl (cI, 8, .inl pp_pointing)), (w, .inr (7, [.ref w_points_a, .ref w_tired_a, .ref w_near_a, .int w_there, .int w_free, .int w_held, .int w_wind, .int w_oil, .int w_hour, .int w_sights, .int w_agreedTo, .int w_refused])), (w_near_a, .inl (cI, 7, .inl w_near))] [(pp, .inr (4, [.ref pp_pointing_a])), (pp_pointing_a, .inl (cI, 8, .inl R1)), (w, .inr (7, [.ref w_points_a, .ref w_tired_a, .ref w_near_a, .int w_there, .int w_free, .int w_held, .int w_wind, .int w_oil, .int w_hour, .int w_sights, .int w_agreedTo, .int w_refused])), (w_near_a, .inl (cI, 7, .inl w_near))]) args s 0 0 (va_In [(pp, .inr (4, [.ref pp_pointing_a])), (pp_pointing_a, .inl (cI, 8, .inl pp_pointing)), (w, .inr (7, [.ref w_points_a, .ref w_tired_a, .ref w_near_a, .int w_there, .int w_free, .int w_held, .int w_wind, .int w_oil, .int w_hour, .int w_sights, .int w_agreedTo, .int w_refused])), (w_near_a, .inl (cI, 7, .inl w_near))])) (F0 m 13 ls []) := by
      intro k13
      induction k13 with
      | zero =>
        intro i13 r1_13 h13 hs13  H locs hP hD hS ls hl hR
        obtain rfl : 7 = i13 := by omega
        rw [lp_X4_fewest_13] at hR
        refine lv_iload_n hx hb dX4_fewest_13 rfl (lv_at hl 0 rfl) ?_
        refine lv_bipush (v := (7 : Int32)) hx hb dX4_fewest_14 (by decide +kernel) ?_
        refine lv_icmp_ge (tgt := 34) hx hb dX4_fewest_16 (by decide) (fun _ => ?_) (fun h => absurd (cle_t (a := 7) (b := 7) rfl rfl (by omega) (by omega)) h)
        refine lv_iload_n hx hb dX4_fewest_34 rfl (lv_at hl 0 rfl) ?_
        obtain ⟨rfl, rfl⟩ := prodI2 hR
        exact rw_iret hx hb hr hlocks hP hS dX4_fewest_35
      | succ k13 ih13 =>
        intro i13 r1_13 h13 hs13  H locs hP hD hS ls hl hR
        rw [lp_X4_fewest_13] at hR
        refine lv_iload_n hx hb dX4_fewest_13 rfl (lv_at hl 0 rfl) ?_
        refine lv_bipush (v := (7 : Int32)) hx hb dX4_fewest_14 (by decide +kernel) ?_
        refine lv_icmp_ge (tgt := 34) hx hb dX4_fewest_16 (by decide) (fun h => absurd h (cle_f (a := 7) (b := i13) rfl rfl (by omega) (by omega))) (fun _ => ?_)
        refine lv_aload_n hx hb dX4_fewest_19 rfl (lv_at hl 1 rfl) ?_
        refine lv_aload_n hx hb dX4_fewest_20 rfl (lv_at hl 2 rfl) ?_
        refine lv_iload_n hx hb dX4_fewest_21 rfl (lv_at hl 0 rfl) ?_
        refine rw_V (As := [.ref w, .int (nI i13)]) (rest := []) (wr := []) (ws2 := [(pp, .inr (4, [.ref pp_pointing_a])), (pp_pointing_a, .inl (cI, 8, .inl ((f_X4_count r1_13 w_there w_near (nI i13)).2))), (w, .inr (7, [.ref w_points_a, .ref w_tired_a, .ref w_near_a, .int w_there, .int w_free, .int w_held, .int w_wind, .int w_oil, .int w_hour, .int w_sights, .int w_agreedTo, .int w_refused])), (w_near_a, .inl (cI, 7, .inl w_near))]) (st1 := [.int ((f_X4_count r1_13 w_there w_near (nI i13)).1)]) ⟨hx, hb, hml, hown, hts⟩ hK hP hD hS (c_X4_count l D cI cJ cZ pp pp_pointing_a r1_13 w w_points_a w_tired_a w_near_a w_there w_free w_held w_wind w_oil w_hour w_sights w_agreedTo w_refused w_near (nI i13)) 0 rfl rfl [0, 1, 2, 3] [] [0, 1, 2, 3] rfl rfl (by decide) (by decide) rfl rfl rfl (cwV 2 hts gX4_fewest_X4_count rfl rfl rfl ⟨rfl, hd_X4_count⟩ ⟨(Nat.le_of_ble_eq_true rfl), (Nat.le_of_ble_eq_true rfl)⟩) rfl hl.1 rfl (Nat.le_of_ble_eq_true rfl) dX4_fewest_22 (Nat.zero_le _) (Nat.zero_le _) (fun H locs hP hD hS => ?_)
        refine lv_if_ne (tgt := 34) hx hb dX4_fewest_25 (by decide) (fun c25 => ?_) (fun c25 => ?_)
        · rw [if_neg c25] at hR
          refine lv_iload_n hx hb dX4_fewest_34 rfl (lv_at hl 0 rfl) ?_
          obtain ⟨rfl, rfl⟩ := prodI2 hR
          exact rw_iret hx hb hr hlocks hP hS dX4_fewest_35
        · rw [if_pos c25] at hR
          refine lv_iinc (v := (nI (i13 + 1))) (lv' := [(2, .int (nI (i13 + 1))), (0, .ref pp), (1, .ref w)]) hx hb dX4_fewest_28 hl (k := 0) rfl (by exact nI_add i13 1) (by decide) rfl (fun ls hl => ?_)
          refine lv_goto (tgt := 13) hx hb dX4_fewest_31 (by decide) ?_
          exact ih13 _ _ (by omega) (by omega) _ _ hP hD hS _ (lv_sub hl [0, 1, 2] rfl) hR
    exact hloop13 6 1 _ (by omega) (Nat.le_refl _) _ _ hP hD hS _ hl hR
  · rw [if_pos c4] at hR
    refine lv_iconst (v := (0 : Int32)) hx hb dX4_fewest_7 (by decide) ?_
    refine lv_goto (tgt := 12) hx hb dX4_fewest_8 (by decide) ?_
    refine lv_istore_n (lv' := [(2, .int (0 : Int32)), (0, .ref pp), (1, .ref w)]) hx hb dX4_fewest_12 rfl hl (by decide) rfl (fun ls hl => ?_)
    have hloop13 : ∀ (k13 i13 : Nat) (r1_13 : Nat → Int32), i13 + k13 = 7 → ∀ (H : Heap) (locs : List Loc), va_P D vwCl [(pp, .inr (4, [.ref pp_pointing_a])), (pp_pointing_a, .inl (cI, 8, .inl r1_13)), (w, .inr (7, [.ref w_points_a, .ref w_tired_a, .ref w_near_a, .int w_there, .int w_free, .int w_held, .int w_wind, .int w_oil, .int w_hour, .int w_sights, .int w_agreedTo, .int w_refused])), (w_near_a, .inl (cI, 7, .inl w_near))] H → va_D (va_In [(pp, .inr (4, [.ref pp_pointing_a])), (pp_pointing_a, .inl (cI, 8, .inl pp_pointing)), (w, .inr (7, [.ref w_points_a, .ref w_tired_a, .ref w_near_a, .int w_there, .int w_free, .int w_held, .int w_wind, .int w_oil, .int w_hour, .int w_sights, .int w_agreedTo, .int w_refused])), (w_near_a, .inl (cI, 7, .inl w_near))]) [(pp, .inr (4, [.ref pp_pointing_a])), (pp_pointing_a, .inl (cI, 8, .inl r1_13)), (w, .inr (7, [.ref w_points_a, .ref w_tired_a, .ref w_near_a, .int w_there, .int w_free, .int w_held, .int w_wind, .int w_oil, .int w_hour, .int w_sights, .int w_agreedTo, .int w_refused])), (w_near_a, .inl (cI, 7, .inl w_near))] → va_S (va_In [(pp, .inr (4, [.ref pp_pointing_a])), (pp_pointing_a, .inl (cI, 8, .inl pp_pointing)), (w, .inr (7, [.ref w_points_a, .ref w_tired_a, .ref w_near_a, .int w_there, .int w_free, .int w_held, .int w_wind, .int w_oil, .int w_hour, .int w_sights, .int w_agreedTo, .int w_refused])), (w_near_a, .inl (cI, 7, .inl w_near))]) s.heap H locs → ∀ (ls : Array Slot), lv_has ls 3 [(2, .int (nI i13)), (0, .ref pp), (1, .ref w)] → lp_X4_fewest_13 w_there w_near k13 i13 r1_13 = (R0, R1) → W p l e ({ frames := 11, cells := 0, slots := 0, locals := 279 }) s m args below meth c H locs 0 0 (MQ below (rw_Q D (some (.int R0)) [(pp, .inr (4, [.ref pp_pointing_a])), (pp_pointing_a, .inl (cI, 8, .inl pp_pointing)), (w, .inr (7, [.ref w_points_a, .ref w_tired_a, .ref w_near_a, .int w_there, .int w_free, .int w_held, .int w_wind, .int w_oil, .int w_hour, .int w_sights, .int w_agreedTo, .int w_refused])), (w_near_a, .inl (cI, 7, .inl w_near))] [(pp, .inr (4, [.ref pp_pointing_a])), (pp_pointing_a, .inl (cI, 8, .inl R1)), (w, .inr (7, [.ref w_points_a, .ref w_tired_a, .ref w_near_a, .int w_there, .int w_free, .int w_held, .int w_wind, .int w_oil, .int w_hour, .int w_sights, .int w_agreedTo, .int w_refused])), (w_near_a, .inl (cI, 7, .inl w_near))]) args s 0 0 (va_In [(pp, .inr (4, [.ref pp_pointing_a])), (pp_pointing_a, .inl (cI, 8, .inl pp_pointing)), (w, .inr (7, [.ref w_points_a, .ref w_tired_a, .ref w_near_a, .int w_there, .int w_free, .int w_held, .int w_wind, .int w_oil, .int w_hour, .int w_sights, .int w_agreedTo, .int w_refused])), (w_near_a, .inl (cI, 7, .inl w_near))])) (F0 m 13 ls []) := by
      intro k13
      induction k13 with
      | zero =>
        intro i13 r1_13 h13  H locs hP hD hS ls hl hR
        obtain rfl : 7 = i13 := by omega
        rw [lp_X4_fewest_13] at hR
        refine lv_iload_n hx hb dX4_fewest_13 rfl (lv_at hl 0 rfl) ?_
        refine lv_bipush (v := (7 : Int32)) hx hb dX4_fewest_14 (by decide +kernel) ?_
        refine lv_icmp_ge (tgt := 34) hx hb dX4_fewest_16 (by decide) (fun _ => ?_) (fun h => absurd (cle_t (a := 7) (b := 7) rfl rfl (by omega) (by omega)) h)
        refine lv_iload_n hx hb dX4_fewest_34 rfl (lv_at hl 0 rfl) ?_
        obtain ⟨rfl, rfl⟩ := prodI2 hR
        exact rw_iret hx hb hr hlocks hP hS dX4_fewest_35
      | succ k13 ih13 =>
        intro i13 r1_13 h13  H locs hP hD hS ls hl hR
        rw [lp_X4_fewest_13] at hR
        refine lv_iload_n hx hb dX4_fewest_13 rfl (lv_at hl 0 rfl) ?_
        refine lv_bipush (v := (7 : Int32)) hx hb dX4_fewest_14 (by decide +kernel) ?_
        refine lv_icmp_ge (tgt := 34) hx hb dX4_fewest_16 (by decide) (fun h => absurd h (cle_f (a := 7) (b := i13) rfl rfl (by omega) (by omega))) (fun _ => ?_)
        refine lv_aload_n hx hb dX4_fewest_19 rfl (lv_at hl 1 rfl) ?_
        refine lv_aload_n hx hb dX4_fewest_20 rfl (lv_at hl 2 rfl) ?_
        refine lv_iload_n hx hb dX4_fewest_21 rfl (lv_at hl 0 rfl) ?_
        refine rw_V (As := [.ref w, .int (nI i13)]) (rest := []) (wr := []) (ws2 := [(pp, .inr (4, [.ref pp_pointing_a])), (pp_pointing_a, .inl (cI, 8, .inl ((f_X4_count r1_13 w_there w_near (nI i13)).2))), (w, .inr (7, [.ref w_points_a, .ref w_tired_a, .ref w_near_a, .int w_there, .int w_free, .int w_held, .int w_wind, .int w_oil, .int w_hour, .int w_sights, .int w_agreedTo, .int w_refused])), (w_near_a, .inl (cI, 7, .inl w_near))]) (st1 := [.int ((f_X4_count r1_13 w_there w_near (nI i13)).1)]) ⟨hx, hb, hml, hown, hts⟩ hK hP hD hS (c_X4_count l D cI cJ cZ pp pp_pointing_a r1_13 w w_points_a w_tired_a w_near_a w_there w_free w_held w_wind w_oil w_hour w_sights w_agreedTo w_refused w_near (nI i13)) 0 rfl rfl [0, 1, 2, 3] [] [0, 1, 2, 3] rfl rfl (by decide) (by decide) rfl rfl rfl (cwV 2 hts gX4_fewest_X4_count rfl rfl rfl ⟨rfl, hd_X4_count⟩ ⟨(Nat.le_of_ble_eq_true rfl), (Nat.le_of_ble_eq_true rfl)⟩) rfl hl.1 rfl (Nat.le_of_ble_eq_true rfl) dX4_fewest_22 (Nat.zero_le _) (Nat.zero_le _) (fun H locs hP hD hS => ?_)
        refine lv_if_ne (tgt := 34) hx hb dX4_fewest_25 (by decide) (fun c25 => ?_) (fun c25 => ?_)
        · rw [if_neg c25] at hR
          refine lv_iload_n hx hb dX4_fewest_34 rfl (lv_at hl 0 rfl) ?_
          obtain ⟨rfl, rfl⟩ := prodI2 hR
          exact rw_iret hx hb hr hlocks hP hS dX4_fewest_35
        · rw [if_pos c25] at hR
          refine lv_iinc (v := (nI (i13 + 1))) (lv' := [(2, .int (nI (i13 + 1))), (0, .ref pp), (1, .ref w)]) hx hb dX4_fewest_28 hl (k := 0) rfl (by exact nI_add i13 1) (by decide) rfl (fun ls hl => ?_)
          refine lv_goto (tgt := 13) hx hb dX4_fewest_31 (by decide) ?_
          exact ih13 _ _ (by omega) _ _ hP hD hS _ (lv_sub hl [0, 1, 2] rfl) hR
    exact hloop13 7 0 _ (by omega) _ _ hP hD hS _ hl hR

