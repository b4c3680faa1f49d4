theorem rng2 {x : Int32} {a b : Nat} (ha : a < 2 ^ 31) (hb : b < 2 ^ 31) (h0 : ¬ x < nI a) (h1 : ¬ nI b < x) : x = nI x.toNatClampNeg ∧ a ≤ x.toNatClampNeg ∧ x.toNatClampNeg ≤ b := by
  have hx : ¬ x < 0 := by
    intro q
    apply h0
    rw [Int32.lt_iff_toInt_lt] at q ⊢
    rw [nI_toInt ha]
    rw [Int32.toInt_zero] at q
    omega
  obtain ⟨j, hj, rfl⟩ := nI_of hx
  rw [nI_clamp hj]
  exact ⟨rfl, of_nlt hj ha h0, of_nlt hb hj h1⟩

theorem in_X8_parish_X8 : ∀ w ∈ u_ws RX8 TX8 11, w ∈ wsX8_parish := by decide +kernel
theorem hd_X7_settle : yX7_settle.cls ≠ "java/lang/invoke/MethodHandle" ∧ yX7_settle.cls ≠ "java/lang/invoke/VarHandle" ∧ (parseMethodDescriptor yX7_settle.desc).map (fun d => d.parameters.length) = some 4 := by decide +kernel
def f_X8_parish (nw_there : Int32) (nw_free : Int32) (nw_points : Nat → Int32) (nw_tired : Nat → Int32) (xp : Int32) (xw : Int32) (xf : Int32) (xt : Int32) : Int32 × Int32 × Int32 × (Nat → Int32) × (Nat → Int32) :=
  (if ((f_X8_isParish xp) = 0) then ((-1 : Int32), nw_there, nw_free, nw_points, nw_tired) else (if ((f_X8_isWay xw) = 0) then ((-2 : Int32), nw_there, nw_free, nw_points, nw_tired) else (if ((f_X8_isUpTo xt (9 : Int32)) = 0) then ((-2 : Int32), nw_there, nw_free, nw_points, nw_tired) else ((f_X7_parishesThere ((f_X7_settle nw_there nw_free nw_points nw_tired xp xw xf xt).1)), ((f_X7_settle nw_there nw_free nw_points nw_tired xp xw xf xt).1), ((f_X7_settle nw_there nw_free nw_points nw_tired xp xw xf xt).2.1), ((f_X7_settle nw_there nw_free nw_points nw_tired xp xw xf xt).2.2.1), ((f_X7_settle nw_there nw_free nw_points nw_tired xp xw xf xt).2.2.2)))))
set_option maxHeartbeats 4000000 in
set_option maxRecDepth 100000 in
theorem c_X8_parish (l : Launch) (D : va_G) (cI cJ cZ : ClassId) (x : Nat) (x_now : Nat) (x_image0 : Nat) (x_image1 : Nat) (x_kept : Int32) (x_pad : Nat) (x_weeks : Nat) (x_agendas : Nat) (x_pointings : Nat) (x_guesses : Nat) (x_squares : Nat) (x_chances : Nat) (nw_points_a : Nat) (nw_tired_a : Nat) (nw_near_a : Nat) (nw_there : Int32) (nw_free : Int32) (nw_held : Int32) (nw_wind : Int32) (nw_oil : Int32) (nw_hour : Int32) (nw_sights : Int32) (nw_agreedTo : Int32) (nw_refused : Int32) (nw_points : Nat → Int32) (nw_tired : Nat → Int32) (nw_near : Nat → Int32) (xp : Int32) (xw : Int32) (xf : Int32) (xt : Int32) : RW l yX8_parish wsX8_parish ({ frames := 3, cells := 0, slots := 0, locals := 65 }) [.ref x, .int xp, .int xw, .int xf, .int xt] D cI cJ cZ [(x, .inr (8, [.ref x_now, .ref x_image0, .ref x_image1, .int x_kept, .ref x_pad, .ref x_weeks, .ref x_agendas, .ref x_pointings, .ref x_guesses, .ref x_squares, .ref x_chances])), (x_now, .inr (7, [.ref nw_points_a, .ref nw_tired_a, .ref nw_near_a, .int nw_there, .int nw_free, .int nw_held, .int nw_wind, .int nw_oil, .int nw_hour, .int nw_sights, .int nw_agreedTo, .int nw_refused])), (nw_points_a, .inl (cI, 7, .inl nw_points)), (nw_tired_a, .inl (cI, 7, .inl nw_tired)), (nw_near_a, .inl (cI, 7, .inl nw_near))] (some (.int ((f_X8_parish nw_there nw_free nw_points nw_tired xp xw xf xt).1))) [(x, .inr (8, [.ref x_now, .ref x_image0, .ref x_image1, .int x_kept, .ref x_pad, .ref x_weeks, .ref x_agendas, .ref x_pointings, .ref x_guesses, .ref x_squares, .ref x_chances])), (x_now, .inr (7, [.ref nw_points_a, .ref nw_tired_a, .ref nw_near_a, .int ((f_X8_parish nw_there nw_free nw_points nw_tired xp xw xf xt).2.1), .int ((f_X8_parish nw_there nw_free nw_points nw_tired xp xw xf xt).2.2.1), .int nw_held, .int nw_wind, .int nw_oil, .int nw_hour, .int nw_sights, .int nw_agreedTo, .int nw_refused])), (nw_points_a, .inl (cI, 7, .inl ((f_X8_parish nw_there nw_free nw_points nw_tired xp xw xf xt).2.2.2.1))), (nw_tired_a, .inl (cI, 7, .inl ((f_X8_parish nw_there nw_free nw_points nw_tired xp xw xf xt).2.2.2.2))), (nw_near_a, .inl (cI, 7, .inl nw_near))] := by
  obtain ⟨R0, R1, R2, R3, R4, hR⟩ := prodE5 (f_X8_parish nw_there nw_free nw_points nw_tired xp xw xf xt)
  rw [hR]
  dsimp only
  refine rw_start (cc := cX8_parish) (maxL := 5) (ret := (some .int)) (by decide) rfl (Nat.le_of_ble_eq_true rfl) ?_
  intro p e s m args below meth c hx hb hr hml hown hts hlocks hP hD hS hK ls hl
  have hown : s.vm.findClass RX8 = some m.cls := hown
  have hl : lv_has ls 5 [(0, .ref x), (1, .int xp), (2, .int xw), (3, .int xf), (4, .int xt)] := hl
  have hq0 := hts (.fieldLink RX8 10 "StuckVanes" "now" "LStuckVanes$World;") (by decide +kernel)
  rw [f_X8_parish] at hR
  refine lv_iload_n hx hb dX8_parish_0 rfl (lv_at hl 1 rfl) ?_
  refine ro_S (As := [.int xp]) (rest := []) ⟨hx, hb, hml, hown, hts⟩ hK (c_X8_isParish l D cI cJ cZ xp) va_P_nil (va_cwS 1 hts gX8_parish_X8_isParish rfl rfl rfl hd_X8_isParish ⟨(Nat.le_of_ble_eq_true rfl), (Nat.le_of_ble_eq_true rfl)⟩) rfl hl.1 rfl (Nat.le_of_ble_eq_true rfl) dX8_parish_1 (Nat.zero_le _) (Nat.zero_le _) ?_
  refine lv_if_ne (tgt := 9) hx hb dX8_parish_4 (by decide) (fun c4 => ?_) (fun c4 => ?_)
  · rw [if_neg c4] at hR
    refine lv_iload_n hx hb dX8_parish_9 rfl (lv_at hl 2 rfl) ?_
    refine ro_S (As := [.int xw]) (rest := []) ⟨hx, hb, hml, hown, hts⟩ hK (c_X8_isWay l D cI cJ cZ xw) va_P_nil (va_cwS 1 hts gX8_parish_X8_isWay rfl rfl rfl hd_X8_isWay ⟨(Nat.le_of_ble_eq_true rfl), (Nat.le_of_ble_eq_true rfl)⟩) rfl hl.1 rfl (Nat.le_of_ble_eq_true rfl) dX8_parish_10 (Nat.zero_le _) (Nat.zero_le _) ?_
    refine lv_if_eq (tgt := 26) hx hb dX8_parish_13 (by decide) (fun c13 => ?_) (fun c13 => ?_)
    · rw [if_pos c13] at hR
      refine lv_bipush (v := (-2 : Int32)) hx hb dX8_parish_26 (by decide +kernel) ?_
      obtain ⟨rfl, rfl, rfl, rfl, rfl⟩ := prodI5 hR
      exact rw_iret hx hb hr hlocks hP hS dX8_parish_28
    · rw [if_neg c13] at hR
      refine lv_iload hx hb dX8_parish_16 (lv_at hl 4 rfl) ?_
      refine lv_bipush (v := (9 : Int32)) hx hb dX8_parish_18 (by decide +kernel) ?_
      refine ro_S (As := [.int xt, .int (9 : Int32)]) (rest := []) ⟨hx, hb, hml, hown, hts⟩ hK (c_X8_isUpTo l D cI cJ cZ xt (9 : Int32)) va_P_nil (va_cwS 2 hts gX8_parish_X8_isUpTo rfl rfl rfl hd_X8_isUpTo ⟨(Nat.le_of_ble_eq_true rfl), (Nat.le_of_ble_eq_true rfl)⟩) rfl hl.1 rfl (Nat.le_of_ble_eq_true rfl) dX8_parish_20 (Nat.zero_le _) (Nat.zero_le _) ?_
      refine lv_if_ne (tgt := 29) hx hb dX8_parish_23 (by decide) (fun c23 => ?_) (fun c23 => ?_)
      · rw [if_neg c23] at hR
        refine lv_aload_n hx hb dX8_parish_29 rfl (lv_at hl 0 rfl) ?_
        refine va_get (D := D) (ci := 8) (v := .ref x_now) (C := RX8) (T := TX8) (N := 11) hx hb hts in_X8_parish_X8 hown hK.1 hP 0 rfl rfl 0 (by decide) hq0 (fun _ h9 => h9) rfl dX8_parish_30 ?_
        refine lv_iload_n hx hb dX8_parish_33 rfl (lv_at hl 1 rfl) ?_
        refine lv_iload_n hx hb dX8_parish_34 rfl (lv_at hl 2 rfl) ?_
        refine lv_iload_n hx hb dX8_parish_35 rfl (lv_at hl 3 rfl) ?_
        refine lv_iload hx hb dX8_parish_36 (lv_at hl 4 rfl) ?_
        refine rw_V (As := [.int xp, .int xw, .int xf, .int xt]) (rest := []) (wr := [(x, .inr (8, [.ref x_now, .ref x_image0, .ref x_image1, .int x_kept, .ref x_pad, .ref x_weeks, .ref x_agendas, .ref x_pointings, .ref x_guesses, .ref x_squares, .ref x_chances])), (nw_near_a, .inl (cI, 7, .inl nw_near))]) (ws2 := [(x, .inr (8, [.ref x_now, .ref x_image0, .ref x_image1, .int x_kept, .ref x_pad, .ref x_weeks, .ref x_agendas, .ref x_pointings, .ref x_guesses, .ref x_squares, .ref x_chances])), (x_now, .inr (7, [.ref nw_points_a, .ref nw_tired_a, .ref nw_near_a, .int ((f_X7_settle nw_there nw_free nw_points nw_tired xp xw xf xt).1), .int ((f_X7_settle nw_there nw_free nw_points nw_tired xp xw xf xt).2.1), .int nw_held, .int nw_wind, .int nw_oil, .int nw_hour, .int nw_sights, .int nw_agreedTo, .int nw_refused])), (nw_points_a, .inl (cI, 7, .inl ((f_X7_settle nw_there nw_free nw_points nw_tired xp xw xf xt).2.2.1))), (nw_tired_a, .inl (cI, 7, .inl ((f_X7_settle nw_there nw_free nw_points nw_tired xp xw xf xt).2.2.2))), (nw_near_a, .inl (cI, 7, .inl nw_near))]) (st1 := []) ⟨hx, hb, hml, hown, hts⟩ hK hP hD hS (c_X7_settle l D cI cJ cZ x_now nw_points_a nw_tired_a nw_near_a nw_there nw_free nw_held nw_wind nw_oil nw_hour nw_sights nw_agreedTo nw_refused nw_points nw_tired xp xw xf xt) 1 rfl rfl [1, 2, 3] [0, 4] [0, 2, 3, 4, 1] rfl rfl (by decide) (by decide) rfl rfl rfl (cwV 4 hts gX8_parish_X7_settle rfl rfl rfl ⟨rfl, hd_X7_settle⟩ ⟨(Nat.le_of_ble_eq_true rfl), (Nat.le_of_ble_eq_true rfl)⟩) rfl hl.1 rfl (Nat.le_of_ble_eq_true rfl) dX8_parish_38 (Nat.zero_le _) (Nat.zero_le _) (fun H locs hP hD hS => ?_)
        refine lv_aload_n hx hb dX8_parish_41 rfl (lv_at hl 0 rfl) ?_
        refine va_get (D := D) (ci := 8) (v := .ref x_now) (C := RX8) (T := TX8) (N := 11) hx hb hts in_X8_parish_X8 hown hK.1 hP 0 rfl rfl 0 (by decide) hq0 (fun _ h9 => h9) rfl dX8_parish_42 ?_
        refine ro_V (As := []) (rest := []) ⟨hx, hb, hml, hown, hts⟩ hK (c_X7_parishesThere l D cI cJ cZ x_now nw_points_a nw_tired_a nw_near_a ((f_X7_settle nw_there nw_free nw_points nw_tired xp xw xf xt).1) ((f_X7_settle nw_there nw_free nw_points nw_tired xp xw xf xt).2.1) nw_held nw_wind nw_oil nw_hour nw_sights nw_agreedTo nw_refused) hP 1 rfl rfl (rw_sub hP [1] rfl) (cwV 0 hts gX8_parish_X7_parishesThere rfl rfl rfl ⟨rfl, hd_X7_parishesThere⟩ ⟨(Nat.le_of_ble_eq_true rfl), (Nat.le_of_ble_eq_true rfl)⟩) rfl hl.1 rfl (Nat.le_of_ble_eq_true rfl) dX8_parish_45 (Nat.zero_le _) (Nat.zero_le _) ?_
        obtain ⟨rfl, rfl, rfl, rfl, rfl⟩ := prodI5 hR
        exact rw_iret hx hb hr hlocks hP hS dX8_parish_48
      · rw [if_pos c23] at hR
        refine lv_bipush (v := (-2 : Int32)) hx hb dX8_parish_26 (by decide +kernel) ?_
        obtain ⟨rfl, rfl, rfl, rfl, rfl⟩ := prodI5 hR
        exact rw_iret hx hb hr hlocks hP hS dX8_parish_28
  · rw [if_pos c4] at hR
    refine lv_iconst (v := (-1 : Int32)) hx hb dX8_parish_7 (by decide) ?_
    obtain ⟨rfl, rfl, rfl, rfl, rfl⟩ := prodI5 hR
    exact rw_iret hx hb hr hlocks hP hS dX8_parish_8


theorem in_X8_neighbours_X7 : ∀ w ∈ u_ws RX7 TX7 12, w ∈ wsX8_neighbours := by decide +kernel
theorem in_X8_neighbours_X8 : ∀ w ∈ u_ws RX8 TX8 11, w ∈ wsX8_neighbours := by decide +kernel
theorem hd_X7_pairsOfNeighbours : yX7_pairsOfNeighbours.cls ≠ "java/lang/invoke/MethodHandle" ∧ yX7_pairsOfNeighbours.cls ≠ "java/lang/invoke/VarHandle" ∧ (parseMethodDescriptor yX7_pairsOfNeighbours.desc).map (fun d => d.parameters.length) = some 0 := by decide +kernel
def f_X8_neighbours (nw_near : Nat → Int32) (xa : Int32) (xb : Int32) (xi : Int32) : Int32 × (Nat → Int32) :=
  (if ((f_X8_isParish xa) = 0) then ((-1 : Int32), nw_near) else (if ((f_X8_isParish xb) = 0) then ((-1 : Int32), nw_near) else (if (xa = xb) then ((-1 : Int32), nw_near) else ((f_X7_pairsOfNeighbours (upd (upd nw_near xa.toNatClampNeg (f_X8_withBit (nw_near xa.toNatClampNeg) xb xi)) xb.toNatClampNeg (f_X8_withBit ((upd nw_near xa.toNatClampNeg (f_X8_withBit (nw_near xa.toNatClampNeg) xb xi)) xb.toNatClampNeg) xa xi))), (upd (upd nw_near xa.toNatClampNeg (f_X8_withBit (nw_near xa.toNatClampNeg) xb xi)) xb.toNatClampNeg (f_X8_withBit ((upd nw_near xa.toNatClampNeg (f_X8_withBit (nw_near xa.toNatClampNeg) xb xi)) xb.toNatClampNeg) xa xi))))))
set_option maxHeartbeats 4000000 in
set_option maxRecDepth 100000 in
theorem c_X8_neighbours (l : Launch) (D : va_G) (cI cJ cZ : ClassId) (x : Nat) (x_now : Nat) (x_image0 : Nat) (x_image1 : Nat) (x_kept : Int32) (x_pad : Nat) (x_weeks : Nat) (x_agendas : Nat) (x_pointings : Nat) (x_guesses : Nat) (x_squares : Nat) (x_chances : Nat) (nw_points_a : Nat) (nw_tired_a : Nat) (nw_near_a : Nat) (nw_there : Int32) (nw_free : Int32) (nw_held : Int32) (nw_wind : Int32) (nw_oil : Int32) (nw_hour : Int32) (nw_sights : Int32) (nw_agreedTo : Int32) (nw_refused : Int32) (nw_points : Nat → Int32) (nw_tired : Nat → Int32) (nw_near : Nat → Int32) (xa : Int32) (xb : Int32) (xi : Int32) : RW l yX8_neighbours wsX8_neighbours ({ frames := 2, cells := 0, slots := 0, locals := 42 }) [.ref x, .int xa, .int xb, .int xi] D cI cJ cZ [(x, .inr (8, [.ref x_now, .ref x_image0, .ref x_image1, .int x_kept, .ref x_pad, .ref x_weeks, .ref x_agendas, .ref x_pointings, .ref x_guesses, .ref x_squares, .ref x_chances])), (x_now, .inr (7, [.ref nw_points_a, .ref nw_tired_a, .ref nw_near_a, .int nw_there, .int nw_free, .int nw_held, .int nw_wind, .int nw_oil, .int nw_hour, .int nw_sights, .int nw_agreedTo, .int nw_refused])), (nw_points_a, .inl (cI, 7, .inl nw_points)), (nw_tired_a, .inl (cI, 7, .inl nw_tired)), (nw_near_a, .inl (cI, 7, .inl nw_near))] (some (.int ((f_X8_neighbours nw_near xa xb xi).1))) [(x, .inr (8, [.ref x_now, .ref x_image0, .ref x_image1, .int x_kept, .ref x_pad, .ref x_weeks, .ref x_agendas, .ref x_pointings, .ref x_guesses, .ref x_squares, .ref x_chances])), (x_now, .inr (7, [.ref nw_points_a, .ref nw_tired_a, .ref nw_near_a, .int nw_there, .int nw_free, .int nw_held, .int nw_wind, .int nw_oil, .int nw_hour, .int nw_sights, .int nw_agreedTo, .int nw_refused])), (nw_points_a, .inl (cI, 7, .inl nw_points)), (nw_tired_a, .inl (cI, 7, .inl nw_tired)), (nw_near_a, .inl (cI, 7, .inl ((f_X8_neighbours nw_near xa xb xi).2)))] := by
  obtain ⟨R0, R1, hR⟩ := prodE2 (f_X8_neighbours nw_near xa xb xi)
  rw [hR]
  dsimp only
  refine rw_start (cc := cX8_neighbours) (maxL := 4) (ret := (some .int)) (by decide) rfl (Nat.le_of_ble_eq_true rfl) ?_
  intro p e s m args below meth c hx hb hr hml hown hts hlocks hP hD hS hK ls hl
  have hown : s.vm.findClass RX8 = some m.cls := hown
  have hl : lv_has ls 4 [(0, .ref x), (1, .int xa), (2, .int xb), (3, .int xi)] := hl
  have hq0 := hts (.fieldLink RX8 10 "StuckVanes" "now" "LStuckVanes$World;") (by decide +kernel)
  rw [f_X8_neighbours] at hR
  refine lv_iload_n hx hb dX8_neighbours_0 rfl (lv_at hl 1 rfl) ?_
  refine ro_S (As := [.int xa]) (rest := []) ⟨hx, hb, hml, hown, hts⟩ hK (c_X8_isParish l D cI cJ cZ xa) va_P_nil (va_cwS 1 hts gX8_neighbours_X8_isParish rfl rfl rfl hd_X8_isParish ⟨(Nat.le_of_ble_eq_true rfl), (Nat.le_of_ble_eq_true rfl)⟩) rfl hl.1 rfl (Nat.le_of_ble_eq_true rfl) dX8_neighbours_1 (Nat.zero_le _) (Nat.zero_le _) ?_
  refine lv_if_eq (tgt := 19) hx hb dX8_neighbours_4 (by decide) (fun c4 => ?_) (fun c4 => ?_)
  · rw [if_pos c4] at hR
    refine lv_iconst (v := (-1 : Int32)) hx hb dX8_neighbours_19 (by decide) ?_
    obtain ⟨rfl, rfl⟩ := prodI2 hR
    exact rw_iret hx hb hr hlocks hP hS dX8_neighbours_20
  · rw [if_neg c4] at hR
    refine lv_iload_n hx hb dX8_neighbours_7 rfl (lv_at hl 2 rfl) ?_
    refine ro_S (As := [.int xb]) (rest := []) ⟨hx, hb, hml, hown, hts⟩ hK (c_X8_isParish l D cI cJ cZ xb) va_P_nil (va_cwS 1 hts gX8_neighbours_X8_isParish rfl rfl rfl hd_X8_isParish ⟨(Nat.le_of_ble_eq_true rfl), (Nat.le_of_ble_eq_true rfl)⟩) rfl hl.1 rfl (Nat.le_of_ble_eq_true rfl) dX8_neighbours_8 (Nat.zero_le _) (Nat.zero_le _) ?_
    refine lv_if_eq (tgt := 19) hx hb dX8_neighbours_11 (by decide) (fun c11 => ?_) (fun c11 => ?_)
    · rw [if_pos c11] at hR
      refine lv_iconst (v := (-1 : Int32)) hx hb dX8_neighbours_19 (by decide) ?_
      obtain ⟨rfl, rfl⟩ := prodI2 hR
      exact rw_iret hx hb hr hlocks hP hS dX8_neighbours_20
    · rw [if_neg c11] at hR
      refine lv_iload_n hx hb dX8_neighbours_14 rfl (lv_at hl 1 rfl) ?_
      refine lv_iload_n hx hb dX8_neighbours_15 rfl (lv_at hl 2 rfl) ?_
      refine lv_icmp_ne (tgt := 21) hx hb dX8_neighbours_16 (by decide) (fun c16 => ?_) (fun c16 => ?_)
      · rw [if_neg c16] at hR
        refine lv_aload_n hx hb dX8_neighbours_21 rfl (lv_at hl 0 rfl) ?_
        refine va_get (D := D) (ci := 8) (v := .ref x_now) (C := RX8) (T := TX8) (N := 11) hx hb hts in_X8_neighbours_X8 hown hK.1 hP 0 rfl rfl 0 (by decide) hq0 (fun _ h9 => h9) rfl dX8_neighbours_22 ?_
        refine va_getN (D := D) (ci := 7) (v := .ref nw_near_a) (C := RX7) (T := TX7) (N := 12) hx hb hts in_X8_neighbours_X7 hown hK.1 hP 1 rfl rfl 2 (by decide) (va_Nw.use rfl (hK.2 _ gN_2)) (fun _ h9 => h9) rfl dX8_neighbours_25 ?_
        refine lv_iload_n hx hb dX8_neighbours_28 rfl (lv_at hl 1 rfl) ?_
        refine lv_aload_n hx hb dX8_neighbours_29 rfl (lv_at hl 0 rfl) ?_
        refine va_get (D := D) (ci := 8) (v := .ref x_now) (C := RX8) (T := TX8) (N := 11) hx hb hts in_X8_neighbours_X8 hown hK.1 hP 0 rfl rfl 0 (by decide) hq0 (fun _ h9 => h9) rfl dX8_neighbours_30 ?_
        refine va_getN (D := D) (ci := 7) (v := .ref nw_near_a) (C := RX7) (T := TX7) (N := 12) hx hb hts in_X8_neighbours_X7 hown hK.1 hP 1 rfl rfl 2 (by decide) (va_Nw.use rfl (hK.2 _ gN_2)) (fun _ h9 => h9) rfl dX8_neighbours_33 ?_
        refine lv_iload_n hx hb dX8_neighbours_36 rfl (lv_at hl 1 rfl) ?_
        refine va_iald hx hb hK.1 hP 4 0 rfl rfl (vp_isParish c4) dX8_neighbours_37 ?_
        refine lv_iload_n hx hb dX8_neighbours_38 rfl (lv_at hl 2 rfl) ?_
        refine lv_iload_n hx hb dX8_neighbours_39 rfl (lv_at hl 3 rfl) ?_
        refine ro_S (As := [.int (nw_near xa.toNatClampNeg), .int xb, .int xi]) (rest := [.int xa, .ref nw_near_a]) ⟨hx, hb, hml, hown, hts⟩ hK (c_X8_withBit l D cI cJ cZ (nw_near xa.toNatClampNeg) xb xi) va_P_nil (va_cwS 3 hts gX8_neighbours_X8_withBit rfl rfl rfl hd_X8_withBit ⟨(Nat.le_of_ble_eq_true rfl), (Nat.le_of_ble_eq_true rfl)⟩) rfl hl.1 rfl (Nat.le_of_ble_eq_true rfl) dX8_neighbours_40 (Nat.zero_le _) (Nat.zero_le _) ?_
        refine va_iast hx hb hK.1 hP hD hS 4 0 rfl rfl (vp_isParish c4) dX8_neighbours_43 (fun H locs hP hD hS => ?_)
        have hP : va_P D vwCl [(x, .inr (8, [.ref x_now, .ref x_image0, .ref x_image1, .int x_kept, .ref x_pad, .ref x_weeks, .ref x_agendas, .ref x_pointings, .ref x_guesses, .ref x_squares, .ref x_chances])), (x_now, .inr (7, [.ref nw_points_a, .ref nw_tired_a, .ref nw_near_a, .int nw_there, .int nw_free, .int nw_held, .int nw_wind, .int nw_oil, .int nw_hour, .int nw_sights, .int nw_agreedTo, .int nw_refused])), (nw_points_a, .inl (cI, 7, .inl nw_points)), (nw_tired_a, .inl (cI, 7, .inl nw_tired)), (nw_near_a, .inl (cI, 7, .inl (upd nw_near xa.toNatClampNeg (f_X8_withBit (nw_near xa.toNatClampNeg) xb xi))))] H := hP
        have hD : va_D _ [(x, .inr (8, [.ref x_now, .ref x_image0, .ref x_image1, .int x_kept, .ref x_pad, .ref x_weeks, .ref x_agendas, .ref x_pointings, .ref x_guesses, .ref x_squares, .ref x_chances])), (x_now, .inr (7, [.ref nw_points_a, .ref nw_tired_a, .ref nw_near_a, .int nw_there, .int nw_free, .int nw_held, .int nw_wind, .int nw_oil, .int nw_hour, .int nw_sights, .int nw_agreedTo, .int nw_refused])), (nw_points_a, .inl (cI, 7, .inl nw_points)), (nw_tired_a, .inl (cI, 7, .inl nw_tired)), (nw_near_a, .inl (cI, 7, .inl (upd nw_near xa.toNatClampNeg (f_X8_withBit (nw_near xa.toNatClampNeg) xb xi))))] := hD
        refine lv_aload_n hx hb dX8_neighbours_44 rfl (lv_at hl 0 rfl) ?_
        refine va_get (D := D) (ci := 8) (v := .ref x_now) (C := RX8) (T := TX8) (N := 11) hx hb hts in_X8_neighbours_X8 hown hK.1 hP 0 rfl rfl 0 (by decide) hq0 (fun _ h9 => h9) rfl dX8_neighbours_45 ?_
        refine va_getN (D := D) (ci := 7) (v := .ref nw_near_a) (C := RX7) (T := TX7) (N := 12) hx hb hts in_X8_neighbours_X7 hown hK.1 hP 1 rfl rfl 2 (by decide) (va_Nw.use rfl (hK.2 _ gN_2)) (fun _ h9 => h9) rfl dX8_neighbours_48 ?_
        refine lv_iload_n hx hb dX8_neighbours_51 rfl (lv_at hl 2 rfl) ?_
        refine lv_aload_n hx hb dX8_neighbours_52 rfl (lv_at hl 0 rfl) ?_
        refine va_get (D := D) (ci := 8) (v := .ref x_now) (C := RX8) (T := TX8) (N := 11) hx hb hts in_X8_neighbours_X8 hown hK.1 hP 0 rfl rfl 0 (by decide) hq0 (fun _ h9 => h9) rfl dX8_neighbours_53 ?_
        refine va_getN (D := D) (ci := 7) (v := .ref nw_near_a) (C := RX7) (T := TX7) (N := 12) hx hb hts in_X8_neighbours_X7 hown hK.1 hP 1 rfl rfl 2 (by decide) (va_Nw.use rfl (hK.2 _ gN_2)) (fun _ h9 => h9) rfl dX8_neighbours_56 ?_
        refine lv_iload_n hx hb dX8_neighbours_59 rfl (lv_at hl 2 rfl) ?_
        refine va_iald hx hb hK.1 hP 4 0 rfl rfl (vp_isParish c11) dX8_neighbours_60 ?_
        refine lv_iload_n hx hb dX8_neighbours_61 rfl (lv_at hl 1 rfl) ?_
        refine lv_iload_n hx hb dX8_neighbours_62 rfl (lv_at hl 3 rfl) ?_
        refine ro_S (As := [.int ((upd nw_near xa.toNatClampNeg (f_X8_withBit (nw_near xa.toNatClampNeg) xb xi)) xb.toNatClampNeg), .int xa, .int xi]) (rest := [.int xb, .ref nw_near_a]) ⟨hx, hb, hml, hown, hts⟩ hK (c_X8_withBit l D cI cJ cZ ((upd nw_near xa.toNatClampNeg (f_X8_withBit (nw_near xa.toNatClampNeg) xb xi)) xb.toNatClampNeg) xa xi) va_P_nil (va_cwS 3 hts gX8_neighbours_X8_withBit rfl rfl rfl hd_X8_withBit ⟨(Nat.le_of_ble_eq_true rfl), (Nat.le_of_ble_eq_true rfl)⟩) rfl hl.1 rfl (Nat.le_of_ble_eq_true rfl) dX8_neighbours_63 (Nat.zero_le _) (Nat.zero_le _) ?_
        refine va_iast hx hb hK.1 hP hD hS 4 0 rfl rfl (vp_isParish c11) dX8_neighbours_66 (fun H locs hP hD hS => ?_)
        have hP : va_P D vwCl [(x, .inr (8, [.ref x_now, .ref x_image0, .ref x_image1, .int x_kept, .ref x_pad, .ref x_weeks, .ref x_agendas, .ref x_pointings, .ref x_guesses, .ref x_squares, .ref x_chances])), (x_now, .inr (7, [.ref nw_points_a, .ref nw_tired_a, .ref nw_near_a, .int nw_there, .int nw_free, .int nw_held, .int nw_wind, .int nw_oil, .int nw_hour, .int nw_sights, .int nw_agreedTo, .int nw_refused])), (nw_points_a, .inl (cI, 7, .inl nw_points)), (nw_tired_a, .inl (cI, 7, .inl nw_tired)), (nw_near_a, .inl (cI, 7, .inl (upd (upd nw_near xa.toNatClampNeg (f_X8_withBit (nw_near xa.toNatClampNeg) xb xi)) xb.toNatClampNeg (f_X8_withBit ((upd nw_near xa.toNatClampNeg (f_X8_withBit (nw_near xa.toNatClampNeg) xb xi)) xb.toNatClampNeg) xa xi))))] H := hP
        have hD : va_D _ [(x, .inr (8, [.ref x_now, .ref x_image0, .ref x_image1, .int x_kept, .ref x_pad, .ref x_weeks, .ref x_agendas, .ref x_pointings, .ref x_guesses, .ref x_squares, .ref x_chances])), (x_now, .inr (7, [.ref nw_points_a, .ref nw_tired_a, .ref nw_near_a, .int nw_there, .int nw_free, .int nw_held, .int nw_wind, .int nw_oil, .int nw_hour, .int nw_sights, .int nw_agreedTo, .int nw_refused])), (nw_points_a, .inl (cI, 7, .inl nw_points)), (nw_tired_a, .inl (cI, 7, .inl nw_tired)), (nw_near_a, .inl (cI, 7, .inl (upd (upd nw_near xa.toNatClampNeg (f_X8_withBit (nw_near xa.toNatClampNeg) xb xi)) xb.toNatClampNeg (f_X8_withBit ((upd nw_near xa.toNatClampNeg (f_X8_withBit (nw_near xa.toNatClampNeg) xb xi)) xb.toNatClampNeg) xa xi))))] := hD
        refine lv_aload_n hx hb dX8_neighbours_67 rfl (lv_at hl 0 rfl) ?_
        refine va_get (D := D) (ci := 8) (v := .ref x_now) (C := RX8) (T := TX8) (N := 11) hx hb hts in_X8_neighbours_X8 hown hK.1 hP 0 rfl rfl 0 (by decide) hq0 (fun _ h9 => h9) rfl dX8_neighbours_68 ?_
        refine ro_V (As := []) (rest := []) ⟨hx, hb, hml, hown, hts⟩ hK (c_X7_pairsOfNeighbours l D cI cJ cZ x_now nw_points_a nw_tired_a nw_near_a nw_there nw_free nw_held nw_wind nw_oil nw_hour nw_sights nw_agreedTo nw_refused (upd (upd nw_near xa.toNatClampNeg (f_X8_withBit (nw_near xa.toNatClampNeg) xb xi)) xb.toNatClampNeg (f_X8_withBit ((upd nw_near xa.toNatClampNeg (f_X8_withBit (nw_near xa.toNatClampNeg) xb xi)) xb.toNatClampNeg) xa xi))) hP 1 rfl rfl (rw_sub hP [1, 4] rfl) (cwV 0 hts gX8_neighbours_X7_pairsOfNeighbours rfl rfl rfl ⟨rfl, hd_X7_pairsOfNeighbours⟩ ⟨(Nat.le_of_ble_eq_true rfl), (Nat.le_of_ble_eq_true rfl)⟩) rfl hl.1 rfl (Nat.le_of_ble_eq_true rfl) dX8_neighbours_71 (Nat.zero_le _) (Nat.zero_le _) ?_
        obtain ⟨rfl, rfl⟩ := prodI2 hR
        exact rw_iret hx hb hr hlocks hP hS dX8_neighbours_74
      · rw [if_pos c16] at hR
        refine lv_iconst (v := (-1 : Int32)) hx hb dX8_neighbours_19 (by decide) ?_
        obtain ⟨rfl, rfl⟩ := prodI2 hR
        exact rw_iret hx hb hr hlocks hP hS dX8_neighbours_20


theorem in_X8_weather_X7 : ∀ w ∈ u_ws RX7 TX7 12, w ∈ wsX8_weather := by decide +kernel
theorem in_X8_weather_X8 : ∀ w ∈ u_ws RX8 TX8 11, w ∈ wsX8_weather := by decide +kernel
def f_X8_weather (nw_wind : Int32) (nw_oil : Int32) (xw : Int32) (xo : Int32) : Int32 × Int32 × Int32 :=
  (if ((f_X8_isWay xw) = 0) then ((-2 : Int32), nw_wind, nw_oil) else (if ((f_X8_isUpTo xo (9 : Int32)) = 0) then ((-2 : Int32), nw_wind, nw_oil) else ((((10 : Int32) * nw_wind) + nw_oil), xw, xo)))
set_option maxHeartbeats 4000000 in
set_option maxRecDepth 100000 in
theorem c_X8_weather (l : Launch) (D : va_G) (cI cJ cZ : ClassId) (x : Nat) (x_now : Nat) (x_image0 : Nat) (x_image1 : Nat) (x_kept : Int32) (x_pad : Nat) (x_weeks : Nat) (x_agendas : Nat) (x_pointings : Nat) (x_guesses : Nat) (x_squares : Nat) (x_chances : Nat) (nw_points_a : Nat) (nw_tired_a : Nat) (nw_near_a : Nat) (nw_there : Int32) (nw_free : Int32) (nw_held : Int32) (nw_wind : Int32) (nw_oil : Int32) (nw_hour : Int32) (nw_sights : Int32) (nw_agreedTo : Int32) (nw_refused : Int32) (nw_points : Nat → Int32) (nw_tired : Nat → Int32) (nw_near : Nat → Int32) (xw : Int32) (xo : Int32) : RW l yX8_weather wsX8_weather ({ frames := 2, cells := 0, slots := 0, locals := 41 }) [.ref x, .int xw, .int xo] D cI cJ cZ [(x, .inr (8, [.ref x_now, .ref x_image0, .ref x_image1, .int x_kept, .ref x_pad, .ref x_weeks, .ref x_agendas, .ref x_pointings, .ref x_guesses, .ref x_squares, .ref x_chances])), (x_now, .inr (7, [.ref nw_points_a, .ref nw_tired_a, .ref nw_near_a, .int nw_there, .int nw_free, .int nw_held, .int nw_wind, .int nw_oil, .int nw_hour, .int nw_sights, .int nw_agreedTo, .int nw_refused])), (nw_points_a, .inl (cI, 7, .inl nw_points)), (nw_tired_a, .inl (cI, 7, .inl nw_tired)), (nw_near_a, .inl (cI, 7, .inl nw_near))] (some (.int ((f_X8_weather nw_wind nw_oil xw xo).1))) [(x, .inr (8, [.ref x_now, .ref x_image0, .ref x_image1, .int x_kept, .ref x_pad, .ref x_weeks, .ref x_agendas, .ref x_pointings, .ref x_guesses, .ref x_squares, .ref x_chances])), (x_now, .inr (7, [.ref nw_points_a, .ref nw_tired_a, .ref nw_near_a, .int nw_there, .int nw_free, .int nw_held, .int ((f_X8_weather nw_wind nw_oil xw xo).2.1), .int ((f_X8_weather nw_wind nw_oil xw xo).2.2), .int nw_hour, .int nw_sights, .int nw_agreedTo, .int nw_refused])), (nw_points_a, .inl (cI, 7, .inl nw_points)), (nw_tired_a, .inl (cI, 7, .inl nw_tired)), (nw_near_a, .inl (cI, 7, .inl nw_near))] := by
  obtain ⟨R0, R1, R2, hR⟩ := prodE3 (f_X8_weather nw_wind nw_oil xw xo)
  rw [hR]
  dsimp only
  refine rw_start (cc := cX8_weather) (maxL := 4) (ret := (some .int)) (by decide) rfl (Nat.le_of_ble_eq_true rfl) ?_
  intro p e s m args below meth c hx hb hr hml hown hts hlocks hP hD hS hK ls hl
  have hown : s.vm.findClass RX8 = some m.cls := hown
  have hl : lv_has ls 4 [(0, .ref x), (1, .int xw), (2, .int xo)] := hl
  have hq0 := hts (.fieldLink RX8 10 "StuckVanes" "now" "LStuckVanes$World;") (by decide +kernel)
  rw [f_X8_weather] at hR
  refine lv_iload_n hx hb dX8_weather_0 rfl (lv_at hl 1 rfl) ?_
  refine ro_S (As := [.int xw]) (rest := []) ⟨hx, hb, hml, hown, hts⟩ hK (c_X8_isWay l D cI cJ cZ xw) va_P_nil (va_cwS 1 hts gX8_weather_X8_isWay rfl rfl rfl hd_X8_isWay ⟨(Nat.le_of_ble_eq_true rfl), (Nat.le_of_ble_eq_true rfl)⟩) rfl hl.1 rfl (Nat.le_of_ble_eq_true rfl) dX8_weather_1 (Nat.zero_le _) (Nat.zero_le _) ?_
  refine lv_if_eq (tgt := 16) hx hb dX8_weather_4 (by decide) (fun c4 => ?_) (fun c4 => ?_)
  · rw [if_pos c4] at hR
    refine lv_bipush (v := (-2 : Int32)) hx hb dX8_weather_16 (by decide +kernel) ?_
    obtain ⟨rfl, rfl, rfl⟩ := prodI3 hR
    exact rw_iret hx hb hr hlocks hP hS dX8_weather_18
  · rw [if_neg c4] at hR
    refine lv_iload_n hx hb dX8_weather_7 rfl (lv_at hl 2 rfl) ?_
    refine lv_bipush (v := (9 : Int32)) hx hb dX8_weather_8 (by decide +kernel) ?_
    refine ro_S (As := [.int xo, .int (9 : Int32)]) (rest := []) ⟨hx, hb, hml, hown, hts⟩ hK (c_X8_isUpTo l D cI cJ cZ xo (9 : Int32)) va_P_nil (va_cwS 2 hts gX8_weather_X8_isUpTo rfl rfl rfl hd_X8_isUpTo ⟨(Nat.le_of_ble_eq_true rfl), (Nat.le_of_ble_eq_true rfl)⟩) rfl hl.1 rfl (Nat.le_of_ble_eq_true rfl) dX8_weather_10 (Nat.zero_le _) (Nat.zero_le _) ?_
    refine lv_if_ne (tgt := 19) hx hb dX8_weather_13 (by decide) (fun c13 => ?_) (fun c13 => ?_)
    · rw [if_neg c13] at hR
      refine lv_bipush (v := (10 : Int32)) hx hb dX8_weather_19 (by decide +kernel) ?_
      refine lv_aload_n hx hb dX8_weather_21 rfl (lv_at hl 0 rfl) ?_
      refine va_get (D := D) (ci := 8) (v := .ref x_now) (C := RX8) (T := TX8) (N := 11) hx hb hts in_X8_weather_X8 hown hK.1 hP 0 rfl rfl 0 (by decide) hq0 (fun _ h9 => h9) rfl dX8_weather_22 ?_
      refine va_getN (D := D) (ci := 7) (v := .int nw_wind) (C := RX7) (T := TX7) (N := 12) hx hb hts in_X8_weather_X7 hown hK.1 hP 1 rfl rfl 6 (by decide) (va_Nw.use rfl (hK.2 _ gN_8)) (fun _ h9 => h9) rfl dX8_weather_25 ?_
      refine lv_imul hx hb dX8_weather_28 ?_
      refine lv_aload_n hx hb dX8_weather_29 rfl (lv_at hl 0 rfl) ?_
      refine va_get (D := D) (ci := 8) (v := .ref x_now) (C := RX8) (T := TX8) (N := 11) hx hb hts in_X8_weather_X8 hown hK.1 hP 0 rfl rfl 0 (by decide) hq0 (fun _ h9 => h9) rfl dX8_weather_30 ?_
      refine va_getN (D := D) (ci := 7) (v := .int nw_oil) (C := RX7) (T := TX7) (N := 12) hx hb hts in_X8_weather_X7 hown hK.1 hP 1 rfl rfl 7 (by decide) (va_Nw.use rfl (hK.2 _ gN_9)) (fun _ h9 => h9) rfl dX8_weather_33 ?_
      refine lv_iadd hx hb dX8_weather_36 ?_
      refine lv_istore_n (lv' := [(3, .int (((10 : Int32) * nw_wind) + nw_oil)), (0, .ref x), (1, .int xw), (2, .int xo)]) hx hb dX8_weather_37 rfl hl (by decide) rfl (fun ls hl => ?_)
      refine lv_aload_n hx hb dX8_weather_38 rfl (lv_at hl 1 rfl) ?_
      refine va_get (D := D) (ci := 8) (v := .ref x_now) (C := RX8) (T := TX8) (N := 11) hx hb hts in_X8_weather_X8 hown hK.1 hP 0 rfl rfl 0 (by decide) hq0 (fun _ h9 => h9) rfl dX8_weather_39 ?_
      refine lv_iload_n hx hb dX8_weather_42 rfl (lv_at hl 2 rfl) ?_
      refine va_putN (D := D) (ci := 7) (v := .int xw) (ty := .int) (C := RX7) (T := TX7) (N := 12) hx hb hts in_X8_weather_X7 tyX7 tyX7_ok nmX7 hown hK.1 hP hD hS 1 rfl rfl 6 (by decide) (va_Nw.use rfl (hK.2 _ gN_8)) (fun _ h9 => h9) rfl (by decide +kernel) rfl rfl (Nat.le_of_ble_eq_true rfl) dX8_weather_43 (fun H locs hP hD hS => ?_)
      have hP : va_P D vwCl [(x, .inr (8, [.ref x_now, .ref x_image0, .ref x_image1, .int x_kept, .ref x_pad, .ref x_weeks, .ref x_agendas, .ref x_pointings, .ref x_guesses, .ref x_squares, .ref x_chances])), (x_now, .inr (7, [.ref nw_points_a, .ref nw_tired_a, .ref nw_near_a, .int nw_there, .int nw_free, .int nw_held, .int xw, .int nw_oil, .int nw_hour, .int nw_sights, .int nw_agreedTo, .int nw_refused])), (nw_points_a, .inl (cI, 7, .inl nw_points)), (nw_tired_a, .inl (cI, 7, .inl nw_tired)), (nw_near_a, .inl (cI, 7, .inl nw_near))] H := hP
      have hD : va_D _ [(x, .inr (8, [.ref x_now, .ref x_image0, .ref x_image1, .int x_kept, .ref x_pad, .ref x_weeks, .ref x_agendas, .ref x_pointings, .ref x_guesses, .ref x_squares, .ref x_chances])), (x_now, .inr (7, [.ref nw_points_a, .ref nw_tired_a, .ref nw_near_a, .int nw_there, .int nw_free, .int nw_held, .int xw, .int nw_oil, .int nw_hour, .int nw_sights, .int nw_agreedTo, .int nw_refused])), (nw_points_a, .inl (cI, 7, .inl nw_points)), (nw_tired_a, .inl (cI, 7, .inl nw_tired)), (nw_near_a, .inl (cI, 7, .inl nw_near))] := hD
      refine lv_aload_n hx hb dX8_weather_46 rfl (lv_at hl 1 rfl) ?_
      refine va_get (D := D) (ci := 8) (v := .ref x_now) (C := RX8) (T := TX8) (N := 11) hx hb hts in_X8_weather_X8 hown hK.1 hP 0 rfl rfl 0 (by decide) hq0 (fun _ h9 => h9) rfl dX8_weather_47 ?_
      refine lv_iload_n hx hb dX8_weather_50 rfl (lv_at hl 3 rfl) ?_
      refine va_putN (D := D) (ci := 7) (v := .int xo) (ty := .int) (C := RX7) (T := TX7) (N := 12) hx hb hts in_X8_weather_X7 tyX7 tyX7_ok nmX7 hown hK.1 hP hD hS 1 rfl rfl 7 (by decide) (va_Nw.use rfl (hK.2 _ gN_9)) (fun _ h9 => h9) rfl (by decide +kernel) rfl rfl (Nat.le_of_ble_eq_true rfl) dX8_weather_51 (fun H locs hP hD hS => ?_)
      have hP : va_P D vwCl [(x, .inr (8, [.ref x_now, .ref x_image0, .ref x_image1, .int x_kept, .ref x_pad, .ref x_weeks, .ref x_agendas, .ref x_pointings, .ref x_guesses, .ref x_squares, .ref x_chances])), (x_now, .inr (7, [.ref nw_points_a, .ref nw_tired_a, .ref nw_near_a, .int nw_there, .int nw_free, .int nw_held, .int xw, .int xo, .int nw_hour, .int nw_sights, .int nw_agreedTo, .int nw_refused])), (nw_points_a, .inl (cI, 7, .inl nw_points)), (nw_tired_a, .inl (cI, 7, .inl nw_tired)), (nw_near_a, .inl (cI, 7, .inl nw_near))] H := hP
      have hD : va_D _ [(x, .inr (8, [.ref x_now, .ref x_image0, .ref x_image1, .int x_kept, .ref x_pad, .ref x_weeks, .ref x_agendas, .ref x_pointings, .ref x_guesses, .ref x_squares, .ref x_chances])), (x_now, .inr (7, [.ref nw_points_a, .ref nw_tired_a, .ref nw_near_a, .int nw_there, .int nw_free, .int nw_held, .int xw, .int xo, .int nw_hour, .int nw_sights, .int nw_agreedTo, .int nw_refused])), (nw_points_a, .inl (cI, 7, .inl nw_points)), (nw_tired_a, .inl (cI, 7, .inl nw_tired)), (nw_near_a, .inl (cI, 7, .inl nw_near))] := hD
      refine lv_iload_n hx hb dX8_weather_54 rfl (lv_at hl 0 rfl) ?_
      obtain ⟨rfl, rfl, rfl⟩ := prodI3 hR
      exact rw_iret hx hb hr hlocks hP hS dX8_weather_55
    · rw [if_pos c13] at hR
      refine lv_bipush (v := (-2 : Int32)) hx hb dX8_weather_16 (by decide +kernel) ?_
      obtain ⟨rfl, rfl, rfl⟩ := prodI3 hR
      exact rw_iret hx hb hr hlocks hP hS dX8_weather_18


theorem in_X8_creed_X7 : ∀ w ∈ u_ws RX7 TX7 12, w ∈ wsX8_creed := by decide +kernel
theorem in_X8_creed_X8 : ∀ w ∈ u_ws RX8 TX8 11, w ∈ wsX8_creed := by decide +kernel
def f_X8_creed (nw_held : Int32) (xt : Int32) : Int32 × Int32 :=
  (if ((f_X8_isUpTo xt (255 : Int32)) = 0) then ((-2 : Int32), nw_held) else (nw_held, xt))
set_option maxHeartbeats 4000000 in
set_option maxRecDepth 100000 in
theorem c_X8_creed (l : Launch) (D : va_G) (cI cJ cZ : ClassId) (x : Nat) (x_now : Nat) (x_image0 : Nat) (x_image1 : Nat) (x_kept : Int32) (x_pad : Nat) (x_weeks : Nat) (x_agendas : Nat) (x_pointings : Nat) (x_guesses : Nat) (x_squares : Nat) (x_chances : Nat) (nw_points_a : Nat) (nw_tired_a : Nat) (nw_near_a : Nat) (nw_there : Int32) (nw_free : Int32) (nw_held : Int32) (nw_wind : Int32) (nw_oil : Int32) (nw_hour : Int32) (nw_sights : Int32) (nw_agreedTo : Int32) (nw_refused : Int32) (nw_points : Nat → Int32) (nw_tired : Nat → Int32) (nw_near : Nat → Int32) (xt : Int32) : RW l yX8_creed wsX8_creed ({ frames := 1, cells := 0, slots := 0, locals := 21 }) [.ref x, .int xt] D cI cJ cZ [(x, .inr (8, [.ref x_now, .ref x_image0, .ref x_image1, .int x_kept, .ref x_pad, .ref x_weeks, .ref x_agendas, .ref x_pointings, .ref x_guesses, .ref x_squares, .ref x_chances])), (x_now, .inr (7, [.ref nw_points_a, .ref nw_tired_a, .ref nw_near_a, .int nw_there, .int nw_free, .int nw_held, .int nw_wind, .int nw_oil, .int nw_hour, .int nw_sights, .int nw_agreedTo, .int nw_refused])), (nw_points_a, .inl (cI, 7, .inl nw_points)), (nw_tired_a, .inl (cI, 7, .inl nw_tired)), (nw_near_a, .inl (cI, 7, .inl nw_near))] (some (.int ((f_X8_creed nw_held xt).1))) [(x, .inr (8, [.ref x_now, .ref x_image0, .ref x_image1, .int x_kept, .ref x_pad, .ref x_weeks, .ref x_agendas, .ref x_pointings, .ref x_guesses, .ref x_squares, .ref x_chances])), (x_now, .inr (7, [.ref nw_points_a, .ref nw_tired_a, .ref nw_near_a, .int nw_there, .int nw_free, .int ((f_X8_creed nw_held xt).2), .int nw_wind, .int nw_oil, .int nw_hour, .int nw_sights, .int nw_agreedTo, .int nw_refused])), (nw_points_a, .inl (cI, 7, .inl nw_points)), (nw_tired_a, .inl (cI, 7, .inl nw_tired)), (nw_near_a, .inl (cI, 7, .inl nw_near))] := by
  obtain ⟨R0, R1, hR⟩ := prodE2 (f_X8_creed nw_held xt)
  rw [hR]
  dsimp only
  refine rw_start (cc := cX8_creed) (maxL := 3) (ret := (some .int)) (by decide) rfl (Nat.le_of_ble_eq_true rfl) ?_
  intro p e s m args below meth c hx hb hr hml hown hts hlocks hP hD hS hK ls hl
  have hown : s.vm.findClass RX8 = some m.cls := hown
  have hl : lv_has ls 3 [(0, .ref x), (1, .int xt)] := hl
  have hq0 := hts (.fieldLink RX8 10 "StuckVanes" "now" "LStuckVanes$World;") (by decide +kernel)
  rw [f_X8_creed] at hR
  refine lv_iload_n hx hb dX8_creed_0 rfl (lv_at hl 1 rfl) ?_
  refine lv_sipush (v := (255 : Int32)) hx hb dX8_creed_1 (by decide +kernel) ?_
  refine ro_S (As := [.int xt, .int (255 : Int32)]) (rest := []) ⟨hx, hb, hml, hown, hts⟩ hK (c_X8_isUpTo l D cI cJ cZ xt (255 : Int32)) va_P_nil (va_cwS 2 hts gX8_creed_X8_isUpTo rfl rfl rfl hd_X8_isUpTo ⟨(Nat.le_of_ble_eq_true rfl), (Nat.le_of_ble_eq_true rfl)⟩) rfl hl.1 rfl (Nat.le_of_ble_eq_true rfl) dX8_creed_4 (Nat.zero_le _) (Nat.zero_le _) ?_
  refine lv_if_ne (tgt := 13) hx hb dX8_creed_7 (by decide) (fun c7 => ?_) (fun c7 => ?_)
  · rw [if_neg c7] at hR
    refine lv_aload_n hx hb dX8_creed_13 rfl (lv_at hl 0 rfl) ?_
    refine va_get (D := D) (ci := 8) (v := .ref x_now) (C := RX8) (T := TX8) (N := 11) hx hb hts in_X8_creed_X8 hown hK.1 hP 0 rfl rfl 0 (by decide) hq0 (fun _ h9 => h9) rfl dX8_creed_14 ?_
    refine va_getN (D := D) (ci := 7) (v := .int nw_held) (C := RX7) (T := TX7) (N := 12) hx hb hts in_X8_creed_X7 hown hK.1 hP 1 rfl rfl 5 (by decide) (va_Nw.use rfl (hK.2 _ gN_6)) (fun _ h9 => h9) rfl dX8_creed_17 ?_
    refine lv_istore_n (lv' := [(2, .int nw_held), (0, .ref x), (1, .int xt)]) hx hb dX8_creed_20 rfl hl (by decide) rfl (fun ls hl => ?_)
    refine lv_aload_n hx hb dX8_creed_21 rfl (lv_at hl 1 rfl) ?_
    refine va_get (D := D) (ci := 8) (v := .ref x_now) (C := RX8) (T := TX8) (N := 11) hx hb hts in_X8_creed_X8 hown hK.1 hP 0 rfl rfl 0 (by decide) hq0 (fun _ h9 => h9) rfl dX8_creed_22 ?_
    refine lv_iload_n hx hb dX8_creed_25 rfl (lv_at hl 2 rfl) ?_
    refine va_putN (D := D) (ci := 7) (v := .int xt) (ty := .int) (C := RX7) (T := TX7) (N := 12) hx hb hts in_X8_creed_X7 tyX7 tyX7_ok nmX7 hown hK.1 hP hD hS 1 rfl rfl 5 (by decide) (va_Nw.use rfl (hK.2 _ gN_6)) (fun _ h9 => h9) rfl (by decide +kernel) rfl rfl (Nat.le_of_ble_eq_true rfl) dX8_creed_26 (fun H locs hP hD hS => ?_)
    have hP : va_P D vwCl [(x, .inr (8, [.ref x_now, .ref x_image0, .ref x_image1, .int x_kept, .ref x_pad, .ref x_weeks, .ref x_agendas, .ref x_pointings, .ref x_guesses, .ref x_squares, .ref x_chances])), (x_now, .inr (7, [.ref nw_points_a, .ref nw_tired_a, .ref nw_near_a, .int nw_there, .int nw_free, .int xt, .int nw_wind, .int nw_oil, .int nw_hour, .int nw_sights, .int nw_agreedTo, .int nw_refused])), (nw_points_a, .inl (cI, 7, .inl nw_points)), (nw_tired_a, .inl (cI, 7, .inl nw_tired)), (nw_near_a, .inl (cI, 7, .inl nw_near))] H := hP
    have hD : va_D _ [(x, .inr (8, [.ref x_now, .ref x_image0, .ref x_image1, .int x_kept, .ref x_pad, .ref x_weeks, .ref x_agendas, .ref x_pointings, .ref x_guesses, .ref x_squares, .ref x_chances])), (x_now, .inr (7, [.ref nw_points_a, .ref nw_tired_a, .ref nw_near_a, .int nw_there, .int nw_free, .int xt, .int nw_wind, .int nw_oil, .int nw_hour, .int nw_sights, .int nw_agreedTo, .int nw_refused])), (nw_points_a, .inl (cI, 7, .inl nw_points)), (nw_tired_a, .inl (cI, 7, .inl nw_tired)), (nw_near_a, .inl (cI, 7, .inl nw_near))] := hD
    refine lv_iload_n hx hb dX8_creed_29 rfl (lv_at hl 0 rfl) ?_
    obtain ⟨rfl, rfl⟩ := prodI2 hR
    exact rw_iret hx hb hr hlocks hP hS dX8_creed_30
  · rw [if_pos c7] at hR
    refine lv_bipush (v := (-2 : Int32)) hx hb dX8_creed_10 (by decide +kernel) ?_
    obtain ⟨rfl, rfl⟩ := prodI2 hR
    exact rw_iret hx hb hr hlocks hP hS dX8_creed_12


theorem in_X8_say_X3 : ∀ w ∈ u_ws RX3 TX3 6, w ∈ wsX8_say := by decide +kernel
theorem in_X8_say_X8 : ∀ w ∈ u_ws RX8 TX8 11, w ∈ wsX8_say := by decide +kernel
theorem hd_X3_write : yX3_write.cls ≠ "java/lang/invoke/MethodHandle" ∧ yX3_write.cls ≠ "java/lang/invoke/VarHandle" ∧ (parseMethodDescriptor yX3_write.desc).map (fun d => d.parameters.length) = some 1 := by decide +kernel
def f_X8_say (pd_length : Nat) (pd_signs : Nat → Int32) (xs : Int32) : Int32 × Int32 × (Nat → Int32) :=
  (if (xs < (33 : Int32)) then ((-2 : Int32), (nI pd_length), pd_signs) else (if (xs ≤ (126 : Int32)) then (if (((f_X3_write pd_length pd_signs xs).1) = 0) then ((-4 : Int32), ((f_X3_write pd_length pd_signs xs).2.1), ((f_X3_write pd_length pd_signs xs).2.2)) else (((f_X3_write pd_length pd_signs xs).2.1), ((f_X3_write pd_length pd_signs xs).2.1), ((f_X3_write pd_length pd_signs xs).2.2))) else ((-2 : Int32), (nI pd_length), pd_signs)))
set_option maxHeartbeats 4000000 in
set_option maxRecDepth 100000 in
theorem c_X8_say (l : Launch) (D : va_G) (cI cJ cZ : ClassId) (x : Nat) (x_now : Nat) (x_image0 : Nat) (x_image1 : Nat) (x_kept : Int32) (x_pad : Nat) (x_weeks : Nat) (x_agendas : Nat) (x_pointings : Nat) (x_guesses : Nat) (x_squares : Nat) (x_chances : Nat) (pd_signs_a : Nat) (pd_length : Nat) (pd_kinds_a : Nat) (pd_parishes_a : Nat) (pd_numbers_a : Nat) (pd_acts : Int32) (pd_signs : Nat → Int32) (pd_kinds : Nat → Int32) (pd_parishes : Nat → Int32) (pd_numbers : Nat → Int32) (xs : Int32) (hln : pd_length ≤ 60) : RW l yX8_say wsX8_say ({ frames := 1, cells := 0, slots := 0, locals := 21 }) [.ref x, .int xs] D cI cJ cZ [(x, .inr (8, [.ref x_now, .ref x_image0, .ref x_image1, .int x_kept, .ref x_pad, .ref x_weeks, .ref x_agendas, .ref x_pointings, .ref x_guesses, .ref x_squares, .ref x_chances])), (x_pad, .inr (3, [.ref pd_signs_a, .int (nI pd_length), .ref pd_kinds_a, .ref pd_parishes_a, .ref pd_numbers_a, .int pd_acts])), (pd_signs_a, .inl (cI, 60, .inl pd_signs)), (pd_kinds_a, .inl (cI, 60, .inl pd_kinds)), (pd_parishes_a, .inl (cI, 60, .inl pd_parishes)), (pd_numbers_a, .inl (cI, 60, .inl pd_numbers))] (some (.int ((f_X8_say pd_length pd_signs xs).1))) [(x, .inr (8, [.ref x_now, .ref x_image0, .ref x_image1, .int x_kept, .ref x_pad, .ref x_weeks, .ref x_agendas, .ref x_pointings, .ref x_guesses, .ref x_squares, .ref x_chances])), (x_pad, .inr (3, [.ref pd_signs_a, .int ((f_X8_say pd_length pd_signs xs).2.1), .ref pd_kinds_a, .ref pd_parishes_a, .ref pd_numbers_a, .int pd_acts])), (pd_signs_a, .inl (cI, 60, .inl ((f_X8_say pd_length pd_signs xs).2.2))), (pd_kinds_a, .inl (cI, 60, .inl pd_kinds)), (pd_parishes_a, .inl (cI, 60, .inl pd_parishes)), (pd_numbers_a, .inl (cI, 60, .inl pd_numbers))] := by
  obtain ⟨R0, R1, R2, hR⟩ := prodE3 (f_X8_say pd_length pd_signs xs)
  rw [hR]
  dsimp only
  refine rw_start (cc := cX8_say) (maxL := 2) (ret := (some .int)) (by decide) rfl (Nat.le_of_ble_eq_true rfl) ?_
  intro p e s m args below meth c hx hb hr hml hown hts hlocks hP hD hS hK ls hl
  have hown : s.vm.findClass RX8 = some m.cls := hown
  have hl : lv_has ls 2 [(0, .ref x), (1, .int xs)] := hl
  have hq0 := hts (.fieldLink RX8 25 "StuckVanes" "pad" "LStuckVanes$Pad;") (by decide +kernel)
  rw [f_X8_say] at hR
  refine lv_iload_n hx hb dX8_say_0 rfl (lv_at hl 1 rfl) ?_
  refine lv_bipush (v := (33 : Int32)) hx hb dX8_say_1 (by decide +kernel) ?_
  refine lv_icmp_lt (tgt := 12) hx hb dX8_say_3 (by decide) (fun c3 => ?_) (fun c3 => ?_)
  · rw [if_pos c3] at hR
    refine lv_bipush (v := (-2 : Int32)) hx hb dX8_say_12 (by decide +kernel) ?_
    obtain ⟨rfl, rfl, rfl⟩ := prodI3 hR
    exact rw_iret hx hb hr hlocks hP hS dX8_say_14
  · rw [if_neg c3] at hR
    refine lv_iload_n hx hb dX8_say_6 rfl (lv_at hl 1 rfl) ?_
    refine lv_bipush (v := (126 : Int32)) hx hb dX8_say_7 (by decide +kernel) ?_
    refine lv_icmp_le (tgt := 15) hx hb dX8_say_9 (by decide) (fun c9 => ?_) (fun c9 => ?_)
    · rw [if_pos c9] at hR
      refine lv_aload_n hx hb dX8_say_15 rfl (lv_at hl 0 rfl) ?_
      refine va_get (D := D) (ci := 8) (v := .ref x_pad) (C := RX8) (T := TX8) (N := 11) hx hb hts in_X8_say_X8 hown hK.1 hP 0 rfl rfl 4 (by decide) hq0 (fun _ h9 => h9) rfl dX8_say_16 ?_
      refine lv_iload_n hx hb dX8_say_19 rfl (lv_at hl 1 rfl) ?_
      refine rw_V (As := [.int xs]) (rest := []) (wr := [(x, .inr (8, [.ref x_now, .ref x_image0, .ref x_image1, .int x_kept, .ref x_pad, .ref x_weeks, .ref x_agendas, .ref x_pointings, .ref x_guesses, .ref x_squares, .ref x_chances])), (pd_kinds_a, .inl (cI, 60, .inl pd_kinds)), (pd_parishes_a, .inl (cI, 60, .inl pd_parishes)), (pd_numbers_a, .inl (cI, 60, .inl pd_numbers))]) (ws2 := [(x, .inr (8, [.ref x_now, .ref x_image0, .ref x_image1, .int x_kept, .ref x_pad, .ref x_weeks, .ref x_agendas, .ref x_pointings, .ref x_guesses, .ref x_squares, .ref x_chances])), (x_pad, .inr (3, [.ref pd_signs_a, .int ((f_X3_write pd_length pd_signs xs).2.1), .ref pd_kinds_a, .ref pd_parishes_a, .ref pd_numbers_a, .int pd_acts])), (pd_signs_a, .inl (cI, 60, .inl ((f_X3_write pd_length pd_signs xs).2.2))), (pd_kinds_a, .inl (cI, 60, .inl pd_kinds)), (pd_parishes_a, .inl (cI, 60, .inl pd_parishes)), (pd_numbers_a, .inl (cI, 60, .inl pd_numbers))]) (st1 := [.int ((f_X3_write pd_length pd_signs xs).1)]) ⟨hx, hb, hml, hown, hts⟩ hK hP hD hS (c_X3_write l D cI cJ cZ x_pad pd_signs_a pd_length pd_kinds_a pd_parishes_a pd_numbers_a pd_acts pd_signs xs (by first | assumption | omega)) 1 rfl rfl [1, 2] [0, 3, 4, 5] [0, 4, 5, 1, 2, 3] rfl rfl (by decide) (by decide) rfl rfl rfl (cwV 1 hts gX8_say_X3_write rfl rfl rfl ⟨rfl, hd_X3_write⟩ ⟨(Nat.le_of_ble_eq_true rfl), (Nat.le_of_ble_eq_true rfl)⟩) rfl hl.1 rfl (Nat.le_of_ble_eq_true rfl) dX8_say_20 (Nat.zero_le _) (Nat.zero_le _) (fun H locs hP hD hS => ?_)
      refine lv_if_eq (tgt := 36) hx hb dX8_say_23 (by decide) (fun c23 => ?_) (fun c23 => ?_)
      · rw [if_pos c23] at hR
        refine lv_bipush (v := (-4 : Int32)) hx hb dX8_say_36 (by decide +kernel) ?_
        obtain ⟨rfl, rfl, rfl⟩ := prodI3 hR
        exact rw_iret hx hb hr hlocks hP hS dX8_say_38
      · rw [if_neg c23] at hR
        refine lv_aload_n hx hb dX8_say_26 rfl (lv_at hl 0 rfl) ?_
        refine va_get (D := D) (ci := 8) (v := .ref x_pad) (C := RX8) (T := TX8) (N := 11) hx hb hts in_X8_say_X8 hown hK.1 hP 0 rfl rfl 4 (by decide) hq0 (fun _ h9 => h9) rfl dX8_say_27 ?_
        refine va_getN (D := D) (ci := 3) (v := .int ((f_X3_write pd_length pd_signs xs).2.1)) (C := RX3) (T := TX3) (N := 6) hx hb hts in_X8_say_X3 hown hK.1 hP 1 rfl rfl 1 (by decide) (va_Nw.use rfl (hK.2 _ gN_17)) (fun _ h9 => h9) rfl dX8_say_30 ?_
        refine lv_goto (tgt := 38) hx hb dX8_say_33 (by decide) ?_
        obtain ⟨rfl, rfl, rfl⟩ := prodI3 hR
        exact rw_iret hx hb hr hlocks hP hS dX8_say_38
    · rw [if_neg c9] at hR
      refine lv_bipush (v := (-2 : Int32)) hx hb dX8_say_12 (by decide +kernel) ?_
      obtain ⟨rfl, rfl, rfl⟩ := prodI3 hR
      exact rw_iret hx hb hr hlocks hP hS dX8_say_14


theorem in_X8_wipe_X3 : ∀ w ∈ u_ws RX3 TX3 6, w ∈ wsX8_wipe := by decide +kernel
theorem in_X8_wipe_X8 : ∀ w ∈ u_ws RX8 TX8 11, w ∈ wsX8_wipe := by decide +kernel
def f_X8_wipe (pd_length : Nat) : Int32 × Int32 :=
  ((nI pd_length), (0 : Int32))
set_option maxHeartbeats 4000000 in
set_option maxRecDepth 100000 in
theorem c_X8_wipe (l : Launch) (D : va_G) (cI cJ cZ : ClassId) (x : Nat) (x_now : Nat) (x_image0 : Nat) (x_image1 : Nat) (x_kept : Int32) (x_pad : Nat) (x_weeks : Nat) (x_agendas : Nat) (x_pointings : Nat) (x_guesses : Nat) (x_squares : Nat) (x_chances : Nat) (pd_signs_a : Nat) (pd_length : Nat) (pd_kinds_a : Nat) (pd_parishes_a : Nat) (pd_numbers_a : Nat) (pd_acts : Int32) (pd_signs : Nat → Int32) (pd_kinds : Nat → Int32) (pd_parishes : Nat → Int32) (pd_numbers : Nat → Int32) : RW l yX8_wipe wsX8_wipe ({ frames := 0, cells := 0, slots := 0, locals := 0 }) [.ref x] D cI cJ cZ [(x, .inr (8, [.ref x_now, .ref x_image0, .ref x_image1, .int x_kept, .ref x_pad, .ref x_weeks, .ref x_agendas, .ref x_pointings, .ref x_guesses, .ref x_squares, .ref x_chances])), (x_pad, .inr (3, [.ref pd_signs_a, .int (nI pd_length), .ref pd_kinds_a, .ref pd_parishes_a, .ref pd_numbers_a, .int pd_acts])), (pd_signs_a, .inl (cI, 60, .inl pd_signs)), (pd_kinds_a, .inl (cI, 60, .inl pd_kinds)), (pd_parishes_a, .inl (cI, 60, .inl pd_parishes)), (pd_numbers_a, .inl (cI, 60, .inl pd_numbers))] (some (.int ((f_X8_wipe pd_length).1))) [(x, .inr (8, [.ref x_now, .ref x_image0, .ref x_image1, .int x_kept, .ref x_pad, .ref x_weeks, .ref x_agendas, .ref x_pointings, .ref x_guesses, .ref x_squares, .ref x_chances])), (x_pad, .inr (3, [.ref pd_signs_a, .int ((f_X8_wipe pd_length).2), .ref pd_kinds_a, .ref pd_parishes_a, .ref pd_numbers_a, .int pd_acts])), (pd_signs_a, .inl (cI, 60, .inl pd_signs)), (pd_kinds_a, .inl (cI, 60, .inl pd_kinds)), (pd_parishes_a, .inl (cI, 60, .inl pd_parishes)), (pd_numbers_a, .inl (cI, 60, .inl pd_numbers))] := by
  obtain ⟨R0, R1, hR⟩ := prodE2 (f_X8_wipe pd_length)
  rw [hR]
  dsimp only
  refine rw_start (cc := cX8_wipe) (maxL := 2) (ret := (some .int)) (by decide) rfl (Nat.le_of_ble_eq_true rfl) ?_
  intro p e s m args below meth c hx hb hr hml hown hts hlocks hP hD hS hK ls hl
  have hown : s.vm.findClass RX8 = some m.cls := hown
  have hl : lv_has ls 2 [(0, .ref x)] := hl
  have hq0 := hts (.fieldLink RX8 25 "StuckVanes" "pad" "LStuckVanes$Pad;") (by decide +kernel)
  rw [f_X8_wipe] at hR
  refine lv_aload_n hx hb dX8_wipe_0 rfl (lv_at hl 0 rfl) ?_
  refine va_get (D := D) (ci := 8) (v := .ref x_pad) (C := RX8) (T := TX8) (N := 11) hx hb hts in_X8_wipe_X8 hown hK.1 hP 0 rfl rfl 4 (by decide) hq0 (fun _ h9 => h9) rfl dX8_wipe_1 ?_
  refine va_getN (D := D) (ci := 3) (v := .int (nI pd_length)) (C := RX3) (T := TX3) (N := 6) hx hb hts in_X8_wipe_X3 hown hK.1 hP 1 rfl rfl 1 (by decide) (va_Nw.use rfl (hK.2 _ gN_17)) (fun _ h9 => h9) rfl dX8_wipe_4 ?_
  refine lv_istore_n (lv' := [(1, .int (nI pd_length)), (0, .ref x)]) hx hb dX8_wipe_7 rfl hl (by decide) rfl (fun ls hl => ?_)
  refine lv_aload_n hx hb dX8_wipe_8 rfl (lv_at hl 1 rfl) ?_
  refine va_get (D := D) (ci := 8) (v := .ref x_pad) (C := RX8) (T := TX8) (N := 11) hx hb hts in_X8_wipe_X8 hown hK.1 hP 0 rfl rfl 4 (by decide) hq0 (fun _ h9 => h9) rfl dX8_wipe_9 ?_
  refine lv_iconst (v := (0 : Int32)) hx hb dX8_wipe_12 (by decide) ?_
  refine va_putN (D := D) (ci := 3) (v := .int (0 : Int32)) (ty := .int) (C := RX3) (T := TX3) (N := 6) hx hb hts in_X8_wipe_X3 tyX3 tyX3_ok nmX3 hown hK.1 hP hD hS 1 rfl rfl 1 (by decide) (va_Nw.use rfl (hK.2 _ gN_17)) (fun _ h9 => h9) rfl (by decide +kernel) rfl rfl (Nat.le_of_ble_eq_true rfl) dX8_wipe_13 (fun H locs hP hD hS => ?_)
  have hP : va_P D vwCl [(x, .inr (8, [.ref x_now, .ref x_image0, .ref x_image1, .int x_kept, .ref x_pad, .ref x_weeks, .ref x_agendas, .ref x_pointings, .ref x_guesses, .ref x_squares, .ref x_chances])), (x_pad, .inr (3, [.ref pd_signs_a, .int (0 : Int32), .ref pd_kinds_a, .ref pd_parishes_a, .ref pd_numbers_a, .int pd_acts])), (pd_signs_a, .inl (cI, 60, .inl pd_signs)), (pd_kinds_a, .inl (cI, 60, .inl pd_kinds)), (pd_parishes_a, .inl (cI, 60, .inl pd_parishes)), (pd_numbers_a, .inl (cI, 60, .inl pd_numbers))] H := hP
  have hD : va_D _ [(x, .inr (8, [.ref x_now, .ref x_image0, .ref x_image1, .int x_kept, .ref x_pad, .ref x_weeks, .ref x_agendas, .ref x_pointings, .ref x_guesses, .ref x_squares, .ref x_chances])), (x_pad, .inr (3, [.ref pd_signs_a, .int (0 : Int32), .ref pd_kinds_a, .ref pd_parishes_a, .ref pd_numbers_a, .int pd_acts])), (pd_signs_a, .inl (cI, 60, .inl pd_signs)), (pd_kinds_a, .inl (cI, 60, .inl pd_kinds)), (pd_parishes_a, .inl (cI, 60, .inl pd_parishes)), (pd_numbers_a, .inl (cI, 60, .inl pd_numbers))] := hD
  refine lv_iload_n hx hb dX8_wipe_16 rfl (lv_at hl 0 rfl) ?_
  obtain ⟨rfl, rfl⟩ := prodI2 hR
  exact rw_iret hx hb hr hlocks hP hS dX8_wipe_17


theorem in_X8_fault_X8 : ∀ w ∈ u_ws RX8 TX8 11, w ∈ wsX8_fault := by decide +kernel
def f_X8_fault (pd_length : Nat) (pd_signs : Nat → Int32) (pd_kinds : Nat → Int32) (pd_parishes : Nat → Int32) (pd_numbers : Nat → Int32) : Int32 × Int32 × (Nat → Int32) × (Nat → Int32) × (Nat → Int32) :=
  (((f_X3_read pd_length pd_signs pd_kinds pd_parishes pd_numbers).1), ((f_X3_read pd_length pd_signs pd_kinds pd_parishes pd_numbers).2.1), ((f_X3_read pd_length pd_signs pd_kinds pd_parishes pd_numbers).2.2.1), ((f_X3_read pd_length pd_signs pd_kinds pd_parishes pd_numbers).2.2.2.1), ((f_X3_read pd_length pd_signs pd_kinds pd_parishes pd_numbers).2.2.2.2))
set_option maxHeartbeats 4000000 in
set_option maxRecDepth 100000 in
theorem c_X8_fault (l : Launch) (D : va_G) (cI cJ cZ : ClassId) (x : Nat) (x_now : Nat) (x_image0 : Nat) (x_image1 : Nat) (x_kept : Int32) (x_pad : Nat) (x_weeks : Nat) (x_agendas : Nat) (x_pointings : Nat) (x_guesses : Nat) (x_squares : Nat) (x_chances : Nat) (pd_signs_a : Nat) (pd_length : Nat) (pd_kinds_a : Nat) (pd_parishes_a : Nat) (pd_numbers_a : Nat) (pd_acts : Int32) (pd_signs : Nat → Int32) (pd_kinds : Nat → Int32) (pd_parishes : Nat → Int32) (pd_numbers : Nat → Int32) (hln : pd_length ≤ 60) : RW l yX8_fault wsX8_fault ({ frames := 4, cells := 0, slots := 0, locals := 87 }) [.ref x] D cI cJ cZ [(x, .inr (8, [.ref x_now, .ref x_image0, .ref x_image1, .int x_kept, .ref x_pad, .ref x_weeks, .ref x_agendas, .ref x_pointings, .ref x_guesses, .ref x_squares, .ref x_chances])), (x_pad, .inr (3, [.ref pd_signs_a, .int (nI pd_length), .ref pd_kinds_a, .ref pd_parishes_a, .ref pd_numbers_a, .int pd_acts])), (pd_signs_a, .inl (cI, 60, .inl pd_signs)), (pd_kinds_a, .inl (cI, 60, .inl pd_kinds)), (pd_parishes_a, .inl (cI, 60, .inl pd_parishes)), (pd_numbers_a, .inl (cI, 60, .inl pd_numbers))] (some (.int ((f_X8_fault pd_length pd_signs pd_kinds pd_parishes pd_numbers).1))) [(x, .inr (8, [.ref x_now, .ref x_image0, .ref x_image1, .int x_kept, .ref x_pad, .ref x_weeks, .ref x_agendas, .ref x_pointings, .ref x_guesses, .ref x_squares, .ref x_chances])), (x_pad, .inr (3, [.ref pd_signs_a, .int (nI pd_length), .ref pd_kinds_a, .ref pd_parishes_a, .ref pd_numbers_a, .int ((f_X8_fault pd_length pd_signs pd_kinds pd_parishes pd_numbers).2.1)])), (pd_signs_a, .inl (cI, 60, .inl pd_signs)), (pd_kinds_a, .inl (cI, 60, .inl ((f_X8_fault pd_length pd_signs pd_kinds pd_parishes pd_numbers).2.2.1))), (pd_parishes_a, .inl (cI, 60, .inl ((f_X8_fault pd_length pd_signs pd_kinds pd_parishes pd_numbers).2.2.2.1))), (pd_numbers_a, .inl (cI, 60, .inl ((f_X8_fault pd_length pd_signs pd_kinds pd_parishes pd_numbers).2.2.2.2)))] := by
  obtain ⟨R0, R1, R2, R3, R4, hR⟩ := prodE5 (f_X8_fault pd_length pd_signs pd_kinds pd_parishes pd_numbers)
  rw [hR]
  dsimp only
  refine rw_start (cc := cX8_fault) (maxL := 1) (ret := (some .int)) (by decide) rfl (Nat.le_of_ble_eq_true rfl) ?_
  intro p e s m args below meth c hx hb hr hml hown hts hlocks hP hD hS hK ls hl
  have hown : s.vm.findClass RX8 = some m.cls := hown
  have hl : lv_has ls 1 [(0, .ref x)] := hl
  have hq0 := hts (.fieldLink RX8 25 "StuckVanes" "pad" "LStuckVanes$Pad;") (by decide +kernel)
  rw [f_X8_fault] at hR
  refine lv_aload_n hx hb dX8_fault_0 rfl (lv_at hl 0 rfl) ?_
  refine va_get (D := D) (ci := 8) (v := .ref x_pad) (C := RX8) (T := TX8) (N := 11) hx hb hts in_X8_fault_X8 hown hK.1 hP 0 rfl rfl 4 (by decide) hq0 (fun _ h9 => h9) rfl dX8_fault_1 ?_
  refine rw_V (As := []) (rest := []) (wr := [(x, .inr (8, [.ref x_now, .ref x_image0, .ref x_image1, .int x_kept, .ref x_pad, .ref x_weeks, .ref x_agendas, .ref x_pointings, .ref x_guesses, .ref x_squares, .ref x_chances]))]) (ws2 := [(x, .inr (8, [.ref x_now, .ref x_image0, .ref x_image1, .int x_kept, .ref x_pad, .ref x_weeks, .ref x_agendas, .ref x_pointings, .ref x_guesses, .ref x_squares, .ref x_chances])), (x_pad, .inr (3, [.ref pd_signs_a, .int (nI pd_length), .ref pd_kinds_a, .ref pd_parishes_a, .ref pd_numbers_a, .int ((f_X3_read pd_length pd_signs pd_kinds pd_parishes pd_numbers).2.1)])), (pd_signs_a, .inl (cI, 60, .inl pd_signs)), (pd_kinds_a, .inl (cI, 60, .inl ((f_X3_read pd_length pd_signs pd_kinds pd_parishes pd_numbers).2.2.1))), (pd_parishes_a, .inl (cI, 60, .inl ((f_X3_read pd_length pd_signs pd_kinds pd_parishes pd_numbers).2.2.2.1))), (pd_numbers_a, .inl (cI, 60, .inl ((f_X3_read pd_length pd_signs pd_kinds pd_parishes pd_numbers).2.2.2.2)))]) (st1 := [.int ((f_X3_read pd_length pd_signs pd_kinds pd_parishes pd_numbers).1)]) ⟨hx, hb, hml, hown, hts⟩ hK hP hD hS (c_X3_read l D cI cJ cZ x_pad pd_signs_a pd_length pd_kinds_a pd_parishes_a pd_numbers_a pd_acts pd_signs pd_kinds pd_parishes pd_numbers (by first | assumption | omega)) 1 rfl rfl [1, 2, 3, 4, 5] [0] [0, 1, 2, 3, 4, 5] rfl rfl (by decide) (by decide) rfl rfl rfl (cwV 0 hts gX8_fault_X3_read rfl rfl rfl ⟨rfl, hd_X3_read⟩ ⟨(Nat.le_of_ble_eq_true rfl), (Nat.le_of_ble_eq_true rfl)⟩) rfl hl.1 rfl (Nat.le_of_ble_eq_true rfl) dX8_fault_4 (Nat.zero_le _) (Nat.zero_le _) (fun H locs hP hD hS => ?_)
  obtain ⟨rfl, rfl, rfl, rfl, rfl⟩ := prodI5 hR
  exact rw_iret hx hb hr hlocks hP hS dX8_fault_7


theorem in_X8_agrees_X8 : ∀ w ∈ u_ws RX8 TX8 11, w ∈ wsX8_agrees := by decide +kernel
def f_X8_agrees (nw_there : Int32) (nw_points : Nat → Int32) (xt : Int32) : Int32 :=
  (if ((f_X8_isWay xt) = 0) then (-1 : Int32) else (f_X7_agreeing nw_there nw_points xt))
set_option maxHeartbeats 4000000 in
set_option maxRecDepth 100000 in
theorem c_X8_agrees (l : Launch) (D : va_G) (cI cJ cZ : ClassId) (x : Nat) (x_now : Nat) (x_image0 : Nat) (x_image1 : Nat) (x_kept : Int32) (x_pad : Nat) (x_weeks : Nat) (x_agendas : Nat) (x_pointings : Nat) (x_guesses : Nat) (x_squares : Nat) (x_chances : Nat) (nw_points_a : Nat) (nw_tired_a : Nat) (nw_near_a : Nat) (nw_there : Int32) (nw_free : Int32) (nw_held : Int32) (nw_wind : Int32) (nw_oil : Int32) (nw_hour : Int32) (nw_sights : Int32) (nw_agreedTo : Int32) (nw_refused : Int32) (nw_points : Nat → Int32) (nw_tired : Nat → Int32) (nw_near : Nat → Int32) (xt : Int32) : RO l yX8_agrees wsX8_agrees ({ frames := 3, cells := 0, slots := 0, locals := 66 }) [.ref x, .int xt] D cI cJ cZ [(x, .inr (8, [.ref x_now, .ref x_image0, .ref x_image1, .int x_kept, .ref x_pad, .ref x_weeks, .ref x_agendas, .ref x_pointings, .ref x_guesses, .ref x_squares, .ref x_chances])), (x_now, .inr (7, [.ref nw_points_a, .ref nw_tired_a, .ref nw_near_a, .int nw_there, .int nw_free, .int nw_held, .int nw_wind, .int nw_oil, .int nw_hour, .int nw_sights, .int nw_agreedTo, .int nw_refused])), (nw_points_a, .inl (cI, 7, .inl nw_points)), (nw_tired_a, .inl (cI, 7, .inl nw_tired)), (nw_near_a, .inl (cI, 7, .inl nw_near))] (.int (f_X8_agrees nw_there nw_points xt)) := by
  obtain ⟨R, hR⟩ : ∃ R, (f_X8_agrees nw_there nw_points xt) = R := ⟨_, rfl⟩
  rw [hR]
  refine ro_start (cc := cX8_agrees) (maxL := 2) (ret := (some .int)) (by decide) rfl (Nat.le_of_ble_eq_true rfl) ?_
  intro p e s m args below meth c hx hb hr hml hown hts hlocks hP hK ls hl
  have hown : s.vm.findClass RX8 = some m.cls := hown
  have hl : lv_has ls 2 [(0, .ref x), (1, .int xt)] := hl
  have hq0 := hts (.fieldLink RX8 10 "StuckVanes" "now" "LStuckVanes$World;") (by decide +kernel)
  rw [f_X8_agrees] at hR
  refine lv_iload_n hx hb dX8_agrees_0 rfl (lv_at hl 1 rfl) ?_
  refine ro_S (As := [.int xt]) (rest := []) ⟨hx, hb, hml, hown, hts⟩ hK (c_X8_isWay l D cI cJ cZ xt) va_P_nil (va_cwS 1 hts gX8_agrees_X8_isWay rfl rfl rfl hd_X8_isWay ⟨(Nat.le_of_ble_eq_true rfl), (Nat.le_of_ble_eq_true rfl)⟩) rfl hl.1 rfl (Nat.le_of_ble_eq_true rfl) dX8_agrees_1 (Nat.zero_le _) (Nat.zero_le _) ?_
  refine lv_if_eq (tgt := 18) hx hb dX8_agrees_4 (by decide) (fun c4 => ?_) (fun c4 => ?_)
  · rw [if_pos c4] at hR
    refine lv_iconst (v := (-1 : Int32)) hx hb dX8_agrees_18 (by decide) ?_
    subst hR
    exact ro_iret hx hb hr hlocks dX8_agrees_19
  · rw [if_neg c4] at hR
    refine lv_aload_n hx hb dX8_agrees_7 rfl (lv_at hl 0 rfl) ?_
    refine va_get (D := D) (ci := 8) (v := .ref x_now) (C := RX8) (T := TX8) (N := 11) hx hb hts in_X8_agrees_X8 hown hK.1 hP 0 rfl rfl 0 (by decide) hq0 (fun _ h9 => h9) rfl dX8_agrees_8 ?_
    refine lv_iload_n hx hb dX8_agrees_11 rfl (lv_at hl 1 rfl) ?_
    refine ro_V (As := [.int xt]) (rest := []) ⟨hx, hb, hml, hown, hts⟩ hK (c_X7_agreeing l D cI cJ cZ x_now nw_points_a nw_tired_a nw_near_a nw_there nw_free nw_held nw_wind nw_oil nw_hour nw_sights nw_agreedTo nw_refused nw_points xt) hP 1 rfl rfl (rw_sub hP [1, 2] rfl) (cwV 1 hts gX8_agrees_X7_agreeing rfl rfl rfl ⟨rfl, hd_X7_agreeing⟩ ⟨(Nat.le_of_ble_eq_true rfl), (Nat.le_of_ble_eq_true rfl)⟩) rfl hl.1 rfl (Nat.le_of_ble_eq_true rfl) dX8_agrees_12 (Nat.zero_le _) (Nat.zero_le _) ?_
    refine lv_goto (tgt := 19) hx hb dX8_agrees_15 (by decide) ?_
    subst hR
    exact ro_iret hx hb hr hlocks dX8_agrees_19


theorem in_X8_can_X8 : ∀ w ∈ u_ws RX8 TX8 11, w ∈ wsX8_can := by decide +kernel
theorem hd_X0_canBeLeft : yX0_canBeLeft.cls ≠ "java/lang/invoke/MethodHandle" ∧ yX0_canBeLeft.cls ≠ "java/lang/invoke/VarHandle" ∧ (parseMethodDescriptor yX0_canBeLeft.desc).map (fun d => d.parameters.length) = some 2 := by decide +kernel
def f_X8_can (nw_there : Int32) (nw_points : Nat → Int32) (ag_beaten : Nat → Int32) (xt : Int32) (xk : Int32) : Int32 × (Nat → Int32) :=
  (if ((f_X8_isWay xt) = 0) then ((-1 : Int32), ag_beaten) else (if ((f_X8_isUpTo xk (1 : Int32)) = 0) then ((-2 : Int32), ag_beaten) else (if (xk = (1 : Int32)) then ((f_J6_bitCount_0f7a4 (f_X0_beatenBy nw_there nw_points xt)), ag_beaten) else (if (((f_X0_canBeLeft ag_beaten nw_there nw_points xt).1) = 0) then ((0 : Int32), ((f_X0_canBeLeft ag_beaten nw_there nw_points xt).2)) else ((1 : Int32), ((f_X0_canBeLeft ag_beaten nw_there nw_points xt).2))))))
set_option maxHeartbeats 4000000 in
set_option maxRecDepth 100000 in
theorem c_X8_can (l : Launch) (D : va_G) (cI cJ cZ : ClassId) (x : Nat) (x_now : Nat) (x_image0 : Nat) (x_image1 : Nat) (x_kept : Int32) (x_pad : Nat) (x_weeks : Nat) (x_agendas : Nat) (x_pointings : Nat) (x_guesses : Nat) (x_squares : Nat) (x_chances : Nat) (nw_points_a : Nat) (nw_tired_a : Nat) (nw_near_a : Nat) (nw_there : Int32) (nw_free : Int32) (nw_held : Int32) (nw_wind : Int32) (nw_oil : Int32) (nw_hour : Int32) (nw_sights : Int32) (nw_agreedTo : Int32) (nw_refused : Int32) (nw_points : Nat → Int32) (nw_tired : Nat → Int32) (nw_near : Nat → Int32) (ag_row_a : Nat) (ag_beaten_a : Nat) (ag_row : Nat → Int32) (ag_beaten : Nat → Int32) (xt : Int32) (xk : Int32) : RW l yX8_can wsX8_can ({ frames := 5, cells := 0, slots := 0, locals := 116 }) [.ref x, .int xt, .int xk] D cI cJ cZ [(x, .inr (8, [.ref x_now, .ref x_image0, .ref x_image1, .int x_kept, .ref x_pad, .ref x_weeks, .ref x_agendas, .ref x_pointings, .ref x_guesses, .ref x_squares, .ref x_chances])), (x_now, .inr (7, [.ref nw_points_a, .ref nw_tired_a, .ref nw_near_a, .int nw_there, .int nw_free, .int nw_held, .int nw_wind, .int nw_oil, .int nw_hour, .int nw_sights, .int nw_agreedTo, .int nw_refused])), (nw_points_a, .inl (cI, 7, .inl nw_points)), (nw_tired_a, .inl (cI, 7, .inl nw_tired)), (nw_near_a, .inl (cI, 7, .inl nw_near)), (x_agendas, .inr (0, [.ref ag_row_a, .ref ag_beaten_a])), (ag_row_a, .inl (cI, 8, .inl ag_row)), (ag_beaten_a, .inl (cI, 8, .inl ag_beaten))] (some (.int ((f_X8_can nw_there nw_points ag_beaten xt xk).1))) [(x, .inr (8, [.ref x_now, .ref x_image0, .ref x_image1, .int x_kept, .ref x_pad, .ref x_weeks, .ref x_agendas, .ref x_pointings, .ref x_guesses, .ref x_squares, .ref x_chances])), (x_now, .inr (7, [.ref nw_points_a, .ref nw_tired_a, .ref nw_near_a, .int nw_there, .int nw_free, .int nw_held, .int nw_wind, .int nw_oil, .int nw_hour, .int nw_sights, .int nw_agreedTo, .int nw_refused])), (nw_points_a, .inl (cI, 7, .inl nw_points)), (nw_tired_a, .inl (cI, 7, .inl nw_tired)), (nw_near_a, .inl (cI, 7, .inl nw_near)), (x_agendas, .inr (0, [.ref ag_row_a, .ref ag_beaten_a])), (ag_row_a, .inl (cI, 8, .inl ag_row)), (ag_beaten_a, .inl (cI, 8, .inl ((f_X8_can nw_there nw_points ag_beaten xt xk).2)))] := by
  obtain ⟨R0, R1, hR⟩ := prodE2 (f_X8_can nw_there nw_points ag_beaten xt xk)
  rw [hR]
  dsimp only
  refine rw_start (cc := cX8_can) (maxL := 3) (ret := (some .int)) (by decide) rfl (Nat.le_of_ble_eq_true rfl) ?_
  intro p e s m args below meth c hx hb hr hml hown hts hlocks hP hD hS hK ls hl
  have hown : s.vm.findClass RX8 = some m.cls := hown
  have hl : lv_has ls 3 [(0, .ref x), (1, .int xt), (2, .int xk)] := hl
  have hq0 := hts (.fieldLink RX8 10 "StuckVanes" "now" "LStuckVanes$World;") (by decide +kernel)
  have hq1 := hts (.fieldLink RX8 39 "StuckVanes" "agendas" "LStuckVanes$Agendas;") (by decide +kernel)
  rw [f_X8_can] at hR
  refine lv_iload_n hx hb dX8_can_0 rfl (lv_at hl 1 rfl) ?_
  refine ro_S (As := [.int xt]) (rest := []) ⟨hx, hb, hml, hown, hts⟩ hK (c_X8_isWay l D cI cJ cZ xt) va_P_nil (va_cwS 1 hts gX8_can_X8_isWay rfl rfl rfl hd_X8_isWay ⟨(Nat.le_of_ble_eq_true rfl), (Nat.le_of_ble_eq_true rfl)⟩) rfl hl.1 rfl (Nat.le_of_ble_eq_true rfl) dX8_can_1 (Nat.zero_le _) (Nat.zero_le _) ?_
  refine lv_if_ne (tgt := 9) hx hb dX8_can_4 (by decide) (fun c4 => ?_) (fun c4 => ?_)
  · rw [if_neg c4] at hR
    refine lv_iload_n hx hb dX8_can_9 rfl (lv_at hl 2 rfl) ?_
    refine lv_iconst (v := (1 : Int32)) hx hb dX8_can_10 (by decide) ?_
    refine ro_S (As := [.int xk, .int (1 : Int32)]) (rest := []) ⟨hx, hb, hml, hown, hts⟩ hK (c_X8_isUpTo l D cI cJ cZ xk (1 : Int32)) va_P_nil (va_cwS 2 hts gX8_can_X8_isUpTo rfl rfl rfl hd_X8_isUpTo ⟨(Nat.le_of_ble_eq_true rfl), (Nat.le_of_ble_eq_true rfl)⟩) rfl hl.1 rfl (Nat.le_of_ble_eq_true rfl) dX8_can_11 (Nat.zero_le _) (Nat.zero_le _) ?_
    refine lv_if_ne (tgt := 20) hx hb dX8_can_14 (by decide) (fun c14 => ?_) (fun c14 => ?_)
    · rw [if_neg c14] at hR
      refine lv_iload_n hx hb dX8_can_20 rfl (lv_at hl 2 rfl) ?_
      refine lv_iconst (v := (1 : Int32)) hx hb dX8_can_21 (by decide) ?_
      refine lv_icmp_ne (tgt := 37) hx hb dX8_can_22 (by decide) (fun c22 => ?_) (fun c22 => ?_)
      · rw [if_neg c22] at hR
        refine lv_aload_n hx hb dX8_can_37 rfl (lv_at hl 0 rfl) ?_
        refine va_get (D := D) (ci := 8) (v := .ref x_agendas) (C := RX8) (T := TX8) (N := 11) hx hb hts in_X8_can_X8 hown hK.1 hP 0 rfl rfl 6 (by decide) hq1 (fun _ h9 => h9) rfl dX8_can_38 ?_
        refine lv_aload_n hx hb dX8_can_41 rfl (lv_at hl 0 rfl) ?_
        refine va_get (D := D) (ci := 8) (v := .ref x_now) (C := RX8) (T := TX8) (N := 11) hx hb hts in_X8_can_X8 hown hK.1 hP 0 rfl rfl 0 (by decide) hq0 (fun _ h9 => h9) rfl dX8_can_42 ?_
        refine lv_iload_n hx hb dX8_can_45 rfl (lv_at hl 1 rfl) ?_
        refine rw_V (As := [.ref x_now, .int xt]) (rest := []) (wr := [(x, .inr (8, [.ref x_now, .ref x_image0, .ref x_image1, .int x_kept, .ref x_pad, .ref x_weeks, .ref x_agendas, .ref x_pointings, .ref x_guesses, .ref x_squares, .ref x_chances])), (nw_tired_a, .inl (cI, 7, .inl nw_tired)), (nw_near_a, .inl (cI, 7, .inl nw_near)), (ag_row_a, .inl (cI, 8, .inl ag_row))]) (ws2 := [(x, .inr (8, [.ref x_now, .ref x_image0, .ref x_image1, .int x_kept, .ref x_pad, .ref x_weeks, .ref x_agendas, .ref x_pointings, .ref x_guesses, .ref x_squares, .ref x_chances])), (x_now, .inr (7, [.ref nw_points_a, .ref nw_tired_a, .ref nw_near_a, .int nw_there, .int nw_free, .int nw_held, .int nw_wind, .int nw_oil, .int nw_hour, .int nw_sights, .int nw_agreedTo, .int nw_refused])), (nw_points_a, .inl (cI, 7, .inl nw_points)), (nw_tired_a, .inl (cI, 7, .inl nw_tired)), (nw_near_a, .inl (cI, 7, .inl nw_near)), (x_agendas, .inr (0, [.ref ag_row_a, .ref ag_beaten_a])), (ag_row_a, .inl (cI, 8, .inl ag_row)), (ag_beaten_a, .inl (cI, 8, .inl ((f_X0_canBeLeft ag_beaten nw_there nw_points xt).2)))]) (st1 := [.int ((f_X0_canBeLeft ag_beaten nw_there nw_points xt).1)]) ⟨hx, hb, hml, hown, hts⟩ hK hP hD hS (c_X0_canBeLeft l D cI cJ cZ x_agendas ag_row_a ag_beaten_a ag_beaten x_now nw_points_a nw_tired_a nw_near_a nw_there nw_free nw_held nw_wind nw_oil nw_hour nw_sights nw_agreedTo nw_refused nw_points xt) 5 rfl rfl [5, 7, 1, 2] [0, 3, 4, 6] [0, 6, 7, 1, 2, 4, 3, 5] rfl rfl (by decide) (by decide) rfl rfl rfl (cwV 2 hts gX8_can_X0_canBeLeft rfl rfl rfl ⟨rfl, hd_X0_canBeLeft⟩ ⟨(Nat.le_of_ble_eq_true rfl), (Nat.le_of_ble_eq_true rfl)⟩) rfl hl.1 rfl (Nat.le_of_ble_eq_true rfl) dX8_can_46 (Nat.zero_le _) (Nat.zero_le _) (fun H locs hP hD hS => ?_)
        refine lv_if_eq (tgt := 56) hx hb dX8_can_49 (by decide) (fun c49 => ?_) (fun c49 => ?_)
        · rw [if_pos c49] at hR
          refine lv_iconst (v := (0 : Int32)) hx hb dX8_can_56 (by decide) ?_
          obtain ⟨rfl, rfl⟩ := prodI2 hR
          exact rw_iret hx hb hr hlocks hP hS dX8_can_57
        · rw [if_neg c49] at hR
          refine lv_iconst (v := (1 : Int32)) hx hb dX8_can_52 (by decide) ?_
          refine lv_goto (tgt := 57) hx hb dX8_can_53 (by decide) ?_
          obtain ⟨rfl, rfl⟩ := prodI2 hR
          exact rw_iret hx hb hr hlocks hP hS dX8_can_57
      · rw [if_pos c22] at hR
        refine lv_aload_n hx hb dX8_can_25 rfl (lv_at hl 0 rfl) ?_
        refine va_get (D := D) (ci := 8) (v := .ref x_now) (C := RX8) (T := TX8) (N := 11) hx hb hts in_X8_can_X8 hown hK.1 hP 0 rfl rfl 0 (by decide) hq0 (fun _ h9 => h9) rfl dX8_can_26 ?_
        refine lv_iload_n hx hb dX8_can_29 rfl (lv_at hl 1 rfl) ?_
        refine ro_S (As := [.ref x_now, .int xt]) (rest := []) ⟨hx, hb, hml, hown, hts⟩ hK (c_X0_beatenBy l D cI cJ cZ x_now nw_points_a nw_tired_a nw_near_a nw_there nw_free nw_held nw_wind nw_oil nw_hour nw_sights nw_agreedTo nw_refused nw_points xt) (rw_sub hP [1, 2] rfl) (va_cwS 2 hts gX8_can_X0_beatenBy rfl rfl rfl hd_X0_beatenBy ⟨(Nat.le_of_ble_eq_true rfl), (Nat.le_of_ble_eq_true rfl)⟩) rfl hl.1 rfl (Nat.le_of_ble_eq_true rfl) dX8_can_30 (Nat.zero_le _) (Nat.zero_le _) ?_
        refine ro_S (As := [.int (f_X0_beatenBy nw_there nw_points xt)]) (rest := []) ⟨hx, hb, hml, hown, hts⟩ hK (c_J6_bitCount_0f7a4 l D cI cJ cZ (f_X0_beatenBy nw_there nw_points xt)) va_P_nil (va_cwS 1 hts gX8_can_J6_bitCount_0f7a4 rfl rfl rfl hd_J6_bitCount_0f7a4 ⟨(Nat.le_of_ble_eq_true rfl), (Nat.le_of_ble_eq_true rfl)⟩) rfl hl.1 rfl (Nat.le_of_ble_eq_true rfl) dX8_can_33 (Nat.zero_le _) (Nat.zero_le _) ?_
        obtain ⟨rfl, rfl⟩ := prodI2 hR
        exact rw_iret hx hb hr hlocks hP hS dX8_can_36
    · rw [if_pos c14] at hR
      refine lv_bipush (v := (-2 : Int32)) hx hb dX8_can_17 (by decide +kernel) ?_
      obtain ⟨rfl, rfl⟩ := prodI2 hR
      exact rw_iret hx hb hr hlocks hP hS dX8_can_19
  · rw [if_pos c4] at hR
    refine lv_iconst (v := (-1 : Int32)) hx hb dX8_can_7 (by decide) ?_
    obtain ⟨rfl, rfl⟩ := prodI2 hR
    exact rw_iret hx hb hr hlocks hP hS dX8_can_8


theorem in_X8_ways_X8 : ∀ w ∈ u_ws RX8 TX8 11, w ∈ wsX8_ways := by decide +kernel
theorem hd_X4_fewest : yX4_fewest.cls ≠ "java/lang/invoke/MethodHandle" ∧ yX4_fewest.cls ≠ "java/lang/invoke/VarHandle" ∧ (parseMethodDescriptor yX4_fewest.desc).map (fun d => d.parameters.length) = some 1 := by decide +kernel
def f_X8_ways (nw_there : Int32) (nw_near : Nat → Int32) (pp_pointing : Nat → Int32) (xn : Int32) (xk : Int32) : Int32 × (Nat → Int32) :=
  (if (xn < (1 : Int32)) then ((-2 : Int32), pp_pointing) else (if ((8 : Int32) < xn) then ((-2 : Int32), pp_pointing) else (if ((f_X8_isUpTo xk (1 : Int32)) = 0) then ((-2 : Int32), pp_pointing) else (if (xk = 0) then (((f_X4_count pp_pointing nw_there nw_near xn).1), ((f_X4_count pp_pointing nw_there nw_near xn).2)) else (((f_X4_fewest pp_pointing nw_there nw_near).1), ((f_X4_fewest pp_pointing nw_there nw_near).2))))))
set_option maxHeartbeats 4000000 in
set_option maxRecDepth 100000 in
theorem c_X8_ways (l : Launch) (D : va_G) (cI cJ cZ : ClassId) (x : Nat) (x_now : Nat) (x_image0 : Nat) (x_image1 : Nat) (x_kept : Int32) (x_pad : Nat) (x_weeks : Nat) (x_agendas : Nat) (x_pointings : Nat) (x_guesses : Nat) (x_squares : Nat) (x_chances : Nat) (nw_points_a : Nat) (nw_tired_a : Nat) (nw_near_a : Nat) (nw_there : Int32) (nw_free : Int32) (nw_held : Int32) (nw_wind : Int32) (nw_oil : Int32) (nw_hour : Int32) (nw_sights : Int32) (nw_agreedTo : Int32) (nw_refused : Int32) (nw_points : Nat → Int32) (nw_tired : Nat → Int32) (nw_near : Nat → Int32) (pp_pointing_a : Nat) (pp_pointing : Nat → Int32) (xn : Int32) (xk : Int32) : RW l yX8_ways wsX8_ways ({ frames := 12, cells := 0, slots := 0, locals := 301 }) [.ref x, .int xn, .int xk] D cI cJ cZ [(x, .inr (8, [.ref x_now, .ref x_image0, .ref x_image1, .int x_kept, .ref x_pad, .ref x_weeks, .ref x_agendas, .ref x_pointings, .ref x_guesses, .ref x_squares, .ref x_chances])), (x_now, .inr (7, [.ref nw_points_a, .ref nw_tired_a, .ref nw_near_a, .int nw_there, .int nw_free, .int nw_held, .int nw_wind, .int nw_oil, .int nw_hour, .int nw_sights, .int nw_agreedTo, .int nw_refused])), (nw_points_a, .inl (cI, 7, .inl nw_points)), (nw_tired_a, .inl (cI, 7, .inl nw_tired)), (nw_near_a, .inl (cI, 7, .inl nw_near)), (x_pointings, .inr (4, [.ref pp_pointing_a])), (pp_pointing_a, .inl (cI, 8, .inl pp_pointing))] (some (.int ((f_X8_ways nw_there nw_near pp_pointing xn xk).1))) [(x, .inr (8, [.ref x_now, .ref x_image0, .ref x_image1, .int x_kept, .ref x_pad, .ref x_weeks, .ref x_agendas, .ref x_pointings, .ref x_guesses, .ref x_squares, .ref x_chances])), (x_now, .inr (7, [.ref nw_points_a, .ref nw_tired_a, .ref nw_near_a, .int nw_there, .int nw_free, .int nw_held, .int nw_wind, .int nw_oil, .int nw_hour, .int nw_sights, .int nw_agreedTo, .int nw_refused])), (nw_points_a, .inl (cI, 7, .inl nw_points)), (nw_tired_a, .inl (cI, 7, .inl nw_tired)), (nw_near_a, .inl (cI, 7, .inl nw_near)), (x_pointings, .inr (4, [.ref pp_pointing_a])), (pp_pointing_a, .inl (cI, 8, .inl ((f_X8_ways nw_there nw_near pp_pointing xn xk).2)))] := by
  obtain ⟨R0, R1, hR⟩ := prodE2 (f_X8_ways nw_there nw_near pp_pointing xn xk)
  rw [hR]
  dsimp only
  refine rw_start (cc := cX8_ways) (maxL := 3) (ret := (some .int)) (by decide) rfl (Nat.le_of_ble_eq_true rfl) ?_
  intro p e s m args below meth c hx hb hr hml hown hts hlocks hP hD hS hK ls hl
  have hown : s.vm.findClass RX8 = some m.cls := hown
  have hl : lv_has ls 3 [(0, .ref x), (1, .int xn), (2, .int xk)] := hl
  have hq0 := hts (.fieldLink RX8 46 "StuckVanes" "pointings" "LStuckVanes$Pointings;") (by decide +kernel)
  have hq1 := hts (.fieldLink RX8 10 "StuckVanes" "now" "LStuckVanes$World;") (by decide +kernel)
  rw [f_X8_ways] at hR
  refine lv_iload_n hx hb dX8_ways_0 rfl (lv_at hl 1 rfl) ?_
  refine lv_iconst (v := (1 : Int32)) hx hb dX8_ways_1 (by decide) ?_
  refine lv_icmp_lt (tgt := 19) hx hb dX8_ways_2 (by decide) (fun c2 => ?_) (fun c2 => ?_)
  · rw [if_pos c2] at hR
    refine lv_bipush (v := (-2 : Int32)) hx hb dX8_ways_19 (by decide +kernel) ?_
    obtain ⟨rfl, rfl⟩ := prodI2 hR
    exact rw_iret hx hb hr hlocks hP hS dX8_ways_21
  · rw [if_neg c2] at hR
    refine lv_iload_n hx hb dX8_ways_5 rfl (lv_at hl 1 rfl) ?_
    refine lv_bipush (v := (8 : Int32)) hx hb dX8_ways_6 (by decide +kernel) ?_
    refine lv_icmp_gt (tgt := 19) hx hb dX8_ways_8 (by decide) (fun c8 => ?_) (fun c8 => ?_)
    · rw [if_pos c8] at hR
      refine lv_bipush (v := (-2 : Int32)) hx hb dX8_ways_19 (by decide +kernel) ?_
      obtain ⟨rfl, rfl⟩ := prodI2 hR
      exact rw_iret hx hb hr hlocks hP hS dX8_ways_21
    · rw [if_neg c8] at hR
      refine lv_iload_n hx hb dX8_ways_11 rfl (lv_at hl 2 rfl) ?_
      refine lv_iconst (v := (1 : Int32)) hx hb dX8_ways_12 (by decide) ?_
      refine ro_S (As := [.int xk, .int (1 : Int32)]) (rest := []) ⟨hx, hb, hml, hown, hts⟩ hK (c_X8_isUpTo l D cI cJ cZ xk (1 : Int32)) va_P_nil (va_cwS 2 hts gX8_ways_X8_isUpTo rfl rfl rfl hd_X8_isUpTo ⟨(Nat.le_of_ble_eq_true rfl), (Nat.le_of_ble_eq_true rfl)⟩) rfl hl.1 rfl (Nat.le_of_ble_eq_true rfl) dX8_ways_13 (Nat.zero_le _) (Nat.zero_le _) ?_
      refine lv_if_ne (tgt := 22) hx hb dX8_ways_16 (by decide) (fun c16 => ?_) (fun c16 => ?_)
      · rw [if_neg c16] at hR
        refine lv_iload_n hx hb dX8_ways_22 rfl (lv_at hl 2 rfl) ?_
        refine lv_if_ne (tgt := 41) hx hb dX8_ways_23 (by decide) (fun c23 => ?_) (fun c23 => ?_)
        · rw [if_neg c23] at hR
          refine lv_aload_n hx hb dX8_ways_41 rfl (lv_at hl 0 rfl) ?_
          refine va_get (D := D) (ci := 8) (v := .ref x_pointings) (C := RX8) (T := TX8) (N := 11) hx hb hts in_X8_ways_X8 hown hK.1 hP 0 rfl rfl 7 (by decide) hq0 (fun _ h9 => h9) rfl dX8_ways_42 ?_
          refine lv_aload_n hx hb dX8_ways_45 rfl (lv_at hl 0 rfl) ?_
          refine va_get (D := D) (ci := 8) (v := .ref x_now) (C := RX8) (T := TX8) (N := 11) hx hb hts in_X8_ways_X8 hown hK.1 hP 0 rfl rfl 0 (by decide) hq1 (fun _ h9 => h9) rfl dX8_ways_46 ?_
          refine rw_V (As := [.ref x_now]) (rest := []) (wr := [(x, .inr (8, [.ref x_now, .ref x_image0, .ref x_image1, .int x_kept, .ref x_pad, .ref x_weeks, .ref x_agendas, .ref x_pointings, .ref x_guesses, .ref x_squares, .ref x_chances])), (nw_points_a, .inl (cI, 7, .inl nw_points)), (nw_tired_a, .inl (cI, 7, .inl nw_tired))]) (ws2 := [(x, .inr (8, [.ref x_now, .ref x_image0, .ref x_image1, .int x_kept, .ref x_pad, .ref x_weeks, .ref x_agendas, .ref x_pointings, .ref x_guesses, .ref x_squares, .ref x_chances])), (x_now, .inr (7, [.ref nw_points_a, .ref nw_tired_a, .ref nw_near_a, .int nw_there, .int nw_free, .int nw_held, .int nw_wind, .int nw_oil, .int nw_hour, .int nw_sights, .int nw_agreedTo, .int nw_refused])), (nw_points_a, .inl (cI, 7, .inl nw_points)), (nw_tired_a, .inl (cI, 7, .inl nw_tired)), (nw_near_a, .inl (cI, 7, .inl nw_near)), (x_pointings, .inr (4, [.ref pp_pointing_a])), (pp_pointing_a, .inl (cI, 8, .inl ((f_X4_fewest pp_pointing nw_there nw_near).2)))]) (st1 := [.int ((f_X4_fewest pp_pointing nw_there nw_near).1)]) ⟨hx, hb, hml, hown, hts⟩ hK hP hD hS (c_X4_fewest l D cI cJ cZ x_pointings pp_pointing_a pp_pointing x_now nw_points_a nw_tired_a nw_near_a nw_there nw_free nw_held nw_wind nw_oil nw_hour nw_sights nw_agreedTo nw_refused nw_near) 5 rfl rfl [5, 6, 1, 4] [0, 2, 3] [0, 5, 1, 2, 6, 3, 4] rfl rfl (by decide) (by decide) rfl rfl rfl (cwV 1 hts gX8_ways_X4_fewest rfl rfl rfl ⟨rfl, hd_X4_fewest⟩ ⟨(Nat.le_of_ble_eq_true rfl), (Nat.le_of_ble_eq_true rfl)⟩) rfl hl.1 rfl (Nat.le_of_ble_eq_true rfl) dX8_ways_49 (Nat.zero_le _) (Nat.zero_le _) (fun H locs hP hD hS => ?_)
          obtain ⟨rfl, rfl⟩ := prodI2 hR
          exact rw_iret hx hb hr hlocks hP hS dX8_ways_52
        · rw [if_pos c23] at hR
          refine lv_aload_n hx hb dX8_ways_26 rfl (lv_at hl 0 rfl) ?_
          refine va_get (D := D) (ci := 8) (v := .ref x_pointings) (C := RX8) (T := TX8) (N := 11) hx hb hts in_X8_ways_X8 hown hK.1 hP 0 rfl rfl 7 (by decide) hq0 (fun _ h9 => h9) rfl dX8_ways_27 ?_
          refine lv_aload_n hx hb dX8_ways_30 rfl (lv_at hl 0 rfl) ?_
          refine va_get (D := D) (ci := 8) (v := .ref x_now) (C := RX8) (T := TX8) (N := 11) hx hb hts in_X8_ways_X8 hown hK.1 hP 0 rfl rfl 0 (by decide) hq1 (fun _ h9 => h9) rfl dX8_ways_31 ?_
          refine lv_iload_n hx hb dX8_ways_34 rfl (lv_at hl 1 rfl) ?_
          refine rw_V (As := [.ref x_now, .int xn]) (rest := []) (wr := [(x, .inr (8, [.ref x_now, .ref x_image0, .ref x_image1, .int x_kept, .ref x_pad, .ref x_weeks, .ref x_agendas, .ref x_pointings, .ref x_guesses, .ref x_squares, .ref x_chances])), (nw_points_a, .inl (cI, 7, .inl nw_points)), (nw_tired_a, .inl (cI, 7, .inl nw_tired))]) (ws2 := [(x, .inr (8, [.ref x_now, .ref x_image0, .ref x_image1, .int x_kept, .ref x_pad, .ref x_weeks, .ref x_agendas, .ref x_pointings, .ref x_guesses, .ref x_squares, .ref x_chances])), (x_now, .inr (7, [.ref nw_points_a, .ref nw_tired_a, .ref nw_near_a, .int nw_there, .int nw_free, .int nw_held, .int nw_wind, .int nw_oil, .int nw_hour, .int nw_sights, .int nw_agreedTo, .int nw_refused])), (nw_points_a, .inl (cI, 7, .inl nw_points)), (nw_tired_a, .inl (cI, 7, .inl nw_tired)), (nw_near_a, .inl (cI, 7, .inl nw_near)), (x_pointings, .inr (4, [.ref pp_pointing_a])), (pp_pointing_a, .inl (cI, 8, .inl ((f_X4_count pp_pointing nw_there nw_near xn).2)))]) (st1 := [.int ((f_X4_count pp_pointing nw_there nw_near xn).1)]) ⟨hx, hb, hml, hown, hts⟩ hK hP hD hS (c_X4_count l D cI cJ cZ x_pointings pp_pointing_a pp_pointing x_now nw_points_a nw_tired_a nw_near_a nw_there nw_free nw_held nw_wind nw_oil nw_hour nw_sights nw_agreedTo nw_refused nw_near xn) 5 rfl rfl [5, 6, 1, 4] [0, 2, 3] [0, 5, 1, 2, 6, 3, 4] rfl rfl (by decide) (by decide) rfl rfl rfl (cwV 2 hts gX8_ways_X4_count rfl rfl rfl ⟨rfl, hd_X4_count⟩ ⟨(Nat.le_of_ble_eq_true rfl), (Nat.le_of_ble_eq_true rfl)⟩) rfl hl.1 rfl (Nat.le_of_ble_eq_true rfl) dX8_ways_35 (Nat.zero_le _) (Nat.zero_le _) (fun H locs hP hD hS => ?_)
          refine lv_goto (tgt := 52) hx hb dX8_ways_38 (by decide) ?_
          obtain ⟨rfl, rfl⟩ := prodI2 hR
          exact rw_iret hx hb hr hlocks hP hS dX8_ways_52
      · rw [if_pos c16] at hR
        refine lv_bipush (v := (-2 : Int32)) hx hb dX8_ways_19 (by decide +kernel) ?_
        obtain ⟨rfl, rfl⟩ := prodI2 hR
        exact rw_iret hx hb hr hlocks hP hS dX8_ways_21


theorem in_X8_seen_X7 : ∀ w ∈ u_ws RX7 TX7 12, w ∈ wsX8_seen := by decide +kernel
theorem in_X8_seen_X8 : ∀ w ∈ u_ws RX8 TX8 11, w ∈ wsX8_seen := by decide +kernel
theorem hd_X7_see : yX7_see.cls ≠ "java/lang/invoke/MethodHandle" ∧ yX7_see.cls ≠ "java/lang/invoke/VarHandle" ∧ (parseMethodDescriptor yX7_see.desc).map (fun d => d.parameters.length) = some 2 := by decide +kernel
def f_X8_seen (nw_sights : Int32) (nw_agreedTo : Int32) (nw_refused : Int32) (xt : Int32) (xa : Int32) : Int32 × Int32 × Int32 × Int32 :=
  (if ((f_X8_isWay xt) = 0) then ((-1 : Int32), nw_sights, nw_agreedTo, nw_refused) else (if (nw_sights < (8 : Int32)) then (((f_X7_see nw_sights nw_agreedTo nw_refused xt xa).1), ((f_X7_see nw_sights nw_agreedTo nw_refused xt xa).1), ((f_X7_see nw_sights nw_agreedTo nw_refused xt xa).2.1), ((f_X7_see nw_sights nw_agreedTo nw_refused xt xa).2.2)) else ((-4 : Int32), nw_sights, nw_agreedTo, nw_refused)))
set_option maxHeartbeats 4000000 in
set_option maxRecDepth 100000 in
theorem c_X8_seen (l : Launch) (D : va_G) (cI cJ cZ : ClassId) (x : Nat) (x_now : Nat) (x_image0 : Nat) (x_image1 : Nat) (x_kept : Int32) (x_pad : Nat) (x_weeks : Nat) (x_agendas : Nat) (x_pointings : Nat) (x_guesses : Nat) (x_squares : Nat) (x_chances : Nat) (nw_points_a : Nat) (nw_tired_a : Nat) (nw_near_a : Nat) (nw_there : Int32) (nw_free : Int32) (nw_held : Int32) (nw_wind : Int32) (nw_oil : Int32) (nw_hour : Int32) (nw_sights : Int32) (nw_agreedTo : Int32) (nw_refused : Int32) (nw_points : Nat → Int32) (nw_tired : Nat → Int32) (nw_near : Nat → Int32) (xt : Int32) (xa : Int32) : RW l yX8_seen wsX8_seen ({ frames := 2, cells := 0, slots := 0, locals := 44 }) [.ref x, .int xt, .int xa] D cI cJ cZ [(x, .inr (8, [.ref x_now, .ref x_image0, .ref x_image1, .int x_kept, .ref x_pad, .ref x_weeks, .ref x_agendas, .ref x_pointings, .ref x_guesses, .ref x_squares, .ref x_chances])), (x_now, .inr (7, [.ref nw_points_a, .ref nw_tired_a, .ref nw_near_a, .int nw_there, .int nw_free, .int nw_held, .int nw_wind, .int nw_oil, .int nw_hour, .int nw_sights, .int nw_agreedTo, .int nw_refused])), (nw_points_a, .inl (cI, 7, .inl nw_points)), (nw_tired_a, .inl (cI, 7, .inl nw_tired)), (nw_near_a, .inl (cI, 7, .inl nw_near))] (some (.int ((f_X8_seen nw_sights nw_agreedTo nw_refused xt xa).1))) [(x, .inr (8, [.ref x_now, .ref x_image0, .ref x_image1, .int x_kept, .ref x_pad, .ref x_weeks, .ref x_agendas, .ref x_pointings, .ref x_guesses, .ref x_squares, .ref x_chances])), (x_now, .inr (7, [.ref nw_points_a, .ref nw_tired_a, .ref nw_near_a, .int nw_there, .int nw_free, .int nw_held, .int nw_wind, .int nw_oil, .int nw_hour, .int ((f_X8_seen nw_sights nw_agreedTo nw_refused xt xa).2.1), .int ((f_X8_seen nw_sights nw_agreedTo nw_refused xt xa).2.2.1), .int ((f_X8_seen nw_sights nw_agreedTo nw_refused xt xa).2.2.2)])), (nw_points_a, .inl (cI, 7, .inl nw_points)), (nw_tired_a, .inl (cI, 7, .inl nw_tired)), (nw_near_a, .inl (cI, 7, .inl nw_near))] := by
  obtain ⟨R0, R1, R2, R3, hR⟩ := prodE4 (f_X8_seen nw_sights nw_agreedTo nw_refused xt xa)
  rw [hR]
  dsimp only
  refine rw_start (cc := cX8_seen) (maxL := 3) (ret := (some .int)) (by decide) rfl (Nat.le_of_ble_eq_true rfl) ?_
  intro p e s m args below meth c hx hb hr hml hown hts hlocks hP hD hS hK ls hl
  have hown : s.vm.findClass RX8 = some m.cls := hown
  have hl : lv_has ls 3 [(0, .ref x), (1, .int xt), (2, .int xa)] := hl
  have hq0 := hts (.fieldLink RX8 10 "StuckVanes" "now" "LStuckVanes$World;") (by decide +kernel)
  rw [f_X8_seen] at hR
  refine lv_iload_n hx hb dX8_seen_0 rfl (lv_at hl 1 rfl) ?_
  refine ro_S (As := [.int xt]) (rest := []) ⟨hx, hb, hml, hown, hts⟩ hK (c_X8_isWay l D cI cJ cZ xt) va_P_nil (va_cwS 1 hts gX8_seen_X8_isWay rfl rfl rfl hd_X8_isWay ⟨(Nat.le_of_ble_eq_true rfl), (Nat.le_of_ble_eq_true rfl)⟩) rfl hl.1 rfl (Nat.le_of_ble_eq_true rfl) dX8_seen_1 (Nat.zero_le _) (Nat.zero_le _) ?_
  refine lv_if_ne (tgt := 9) hx hb dX8_seen_4 (by decide) (fun c4 => ?_) (fun c4 => ?_)
  · rw [if_neg c4] at hR
    refine lv_aload_n hx hb dX8_seen_9 rfl (lv_at hl 0 rfl) ?_
    refine va_get (D := D) (ci := 8) (v := .ref x_now) (C := RX8) (T := TX8) (N := 11) hx hb hts in_X8_seen_X8 hown hK.1 hP 0 rfl rfl 0 (by decide) hq0 (fun _ h9 => h9) rfl dX8_seen_10 ?_
    refine va_getN (D := D) (ci := 7) (v := .int nw_sights) (C := RX7) (T := TX7) (N := 12) hx hb hts in_X8_seen_X7 hown hK.1 hP 1 rfl rfl 9 (by decide) (va_Nw.use rfl (hK.2 _ gN_11)) (fun _ h9 => h9) rfl dX8_seen_13 ?_
    refine lv_bipush (v := (8 : Int32)) hx hb dX8_seen_16 (by decide +kernel) ?_
    refine lv_icmp_lt (tgt := 24) hx hb dX8_seen_18 (by decide) (fun c18 => ?_) (fun c18 => ?_)
    · rw [if_pos c18] at hR
      refine lv_aload_n hx hb dX8_seen_24 rfl (lv_at hl 0 rfl) ?_
      refine va_get (D := D) (ci := 8) (v := .ref x_now) (C := RX8) (T := TX8) (N := 11) hx hb hts in_X8_seen_X8 hown hK.1 hP 0 rfl rfl 0 (by decide) hq0 (fun _ h9 => h9) rfl dX8_seen_25 ?_
      refine lv_iload_n hx hb dX8_seen_28 rfl (lv_at hl 1 rfl) ?_
      refine lv_iload_n hx hb dX8_seen_29 rfl (lv_at hl 2 rfl) ?_
      refine rw_V (As := [.int xt, .int xa]) (rest := []) (wr := [(x, .inr (8, [.ref x_now, .ref x_image0, .ref x_image1, .int x_kept, .ref x_pad, .ref x_weeks, .ref x_agendas, .ref x_pointings, .ref x_guesses, .ref x_squares, .ref x_chances])), (nw_points_a, .inl (cI, 7, .inl nw_points)), (nw_tired_a, .inl (cI, 7, .inl nw_tired)), (nw_near_a, .inl (cI, 7, .inl nw_near))]) (ws2 := [(x, .inr (8, [.ref x_now, .ref x_image0, .ref x_image1, .int x_kept, .ref x_pad, .ref x_weeks, .ref x_agendas, .ref x_pointings, .ref x_guesses, .ref x_squares, .ref x_chances])), (x_now, .inr (7, [.ref nw_points_a, .ref nw_tired_a, .ref nw_near_a, .int nw_there, .int nw_free, .int nw_held, .int nw_wind, .int nw_oil, .int nw_hour, .int ((f_X7_see nw_sights nw_agreedTo nw_refused xt xa).1), .int ((f_X7_see nw_sights nw_agreedTo nw_refused xt xa).2.1), .int ((f_X7_see nw_sights nw_agreedTo nw_refused xt xa).2.2)])), (nw_points_a, .inl (cI, 7, .inl nw_points)), (nw_tired_a, .inl (cI, 7, .inl nw_tired)), (nw_near_a, .inl (cI, 7, .inl nw_near))]) (st1 := []) ⟨hx, hb, hml, hown, hts⟩ hK hP hD hS (c_X7_see l D cI cJ cZ x_now nw_points_a nw_tired_a nw_near_a nw_there nw_free nw_held nw_wind nw_oil nw_hour nw_sights nw_agreedTo nw_refused xt xa) 1 rfl rfl [1] [0, 2, 3, 4] [0, 4, 1, 2, 3] rfl rfl (by decide) (by decide) rfl rfl rfl (cwV 2 hts gX8_seen_X7_see rfl rfl rfl ⟨rfl, hd_X7_see⟩ ⟨(Nat.le_of_ble_eq_true rfl), (Nat.le_of_ble_eq_true rfl)⟩) rfl hl.1 rfl (Nat.le_of_ble_eq_true rfl) dX8_seen_30 (Nat.zero_le _) (Nat.zero_le _) (fun H locs hP hD hS => ?_)
      refine lv_aload_n hx hb dX8_seen_33 rfl (lv_at hl 0 rfl) ?_
      refine va_get (D := D) (ci := 8) (v := .ref x_now) (C := RX8) (T := TX8) (N := 11) hx hb hts in_X8_seen_X8 hown hK.1 hP 0 rfl rfl 0 (by decide) hq0 (fun _ h9 => h9) rfl dX8_seen_34 ?_
      refine va_getN (D := D) (ci := 7) (v := .int ((f_X7_see nw_sights nw_agreedTo nw_refused xt xa).1)) (C := RX7) (T := TX7) (N := 12) hx hb hts in_X8_seen_X7 hown hK.1 hP 1 rfl rfl 9 (by decide) (va_Nw.use rfl (hK.2 _ gN_11)) (fun _ h9 => h9) rfl dX8_seen_37 ?_
      obtain ⟨rfl, rfl, rfl, rfl⟩ := prodI4 hR
      exact rw_iret hx hb hr hlocks hP hS dX8_seen_40
    · rw [if_neg c18] at hR
      refine lv_bipush (v := (-4 : Int32)) hx hb dX8_seen_21 (by decide +kernel) ?_
      obtain ⟨rfl, rfl, rfl, rfl⟩ := prodI4 hR
      exact rw_iret hx hb hr hlocks hP hS dX8_seen_23
  · rw [if_pos c4] at hR
    refine lv_iconst (v := (-1 : Int32)) hx hb dX8_seen_7 (by decide) ?_
    obtain ⟨rfl, rfl, rfl, rfl⟩ := prodI4 hR
    exact rw_iret hx hb hr hlocks hP hS dX8_seen_8


theorem in_X8_forget_X7 : ∀ w ∈ u_ws RX7 TX7 12, w ∈ wsX8_forget := by decide +kernel
theorem in_X8_forget_X8 : ∀ w ∈ u_ws RX8 TX8 11, w ∈ wsX8_forget := by decide +kernel
def f_X8_forget (nw_sights : Int32) : Int32 × Int32 × Int32 × Int32 :=
  (nw_sights, (0 : Int32), (0 : Int32), (0 : Int32))
set_option maxHeartbeats 4000000 in
set_option maxRecDepth 100000 in
theorem c_X8_forget (l : Launch) (D : va_G) (cI cJ cZ : ClassId) (x : Nat) (x_now : Nat) (x_image0 : Nat) (x_image1 : Nat) (x_kept : Int32) (x_pad : Nat) (x_weeks : Nat) (x_agendas : Nat) (x_pointings : Nat) (x_guesses : Nat) (x_squares : Nat) (x_chances : Nat) (nw_points_a : Nat) (nw_tired_a : Nat) (nw_near_a : Nat) (nw_there : Int32) (nw_free : Int32) (nw_held : Int32) (nw_wind : Int32) (nw_oil : Int32) (nw_hour : Int32) (nw_sights : Int32) (nw_agreedTo : Int32) (nw_refused : Int32) (nw_points : Nat → Int32) (nw_tired : Nat → Int32) (nw_near : Nat → Int32) : RW l yX8_forget wsX8_forget ({ frames := 0, cells := 0, slots := 0, locals := 0 }) [.ref x] D cI cJ cZ [(x, .inr (8, [.ref x_now, .ref x_image0, .ref x_image1, .int x_kept, .ref x_pad, .ref x_weeks, .ref x_agendas, .ref x_pointings, .ref x_guesses, .ref x_squares, .ref x_chances])), (x_now, .inr (7, [.ref nw_points_a, .ref nw_tired_a, .ref nw_near_a, .int nw_there, .int nw_free, .int nw_held, .int nw_wind, .int nw_oil, .int nw_hour, .int nw_sights, .int nw_agreedTo, .int nw_refused])), (nw_points_a, .inl (cI, 7, .inl nw_points)), (nw_tired_a, .inl (cI, 7, .inl nw_tired)), (nw_near_a, .inl (cI, 7, .inl nw_near))] (some (.int ((f_X8_forget nw_sights).1))) [(x, .inr (8, [.ref x_now, .ref x_image0, .ref x_image1, .int x_kept, .ref x_pad, .ref x_weeks, .ref x_agendas, .ref x_pointings, .ref x_guesses, .ref x_squares, .ref x_chances])), (x_now, .inr (7, [.ref nw_points_a, .ref nw_tired_a, .ref nw_near_a, .int nw_there, .int nw_free, .int nw_held, .int nw_wind, .int nw_oil, .int nw_hour, .int ((f_X8_forget nw_sights).2.1), .int ((f_X8_forget nw_sights).2.2.1), .int ((f_X8_forget nw_sights).2.2.2)])), (nw_points_a, .inl (cI, 7, .inl nw_points)), (nw_tired_a, .inl (cI, 7, .inl nw_tired)), (nw_near_a, .inl (cI, 7, .inl nw_near))] := by
  obtain ⟨R0, R1, R2, R3, hR⟩ := prodE4 (f_X8_forget nw_sights)
  rw [hR]
  dsimp only
  refine rw_start (cc := cX8_forget) (maxL := 2) (ret := (some .int)) (by decide) rfl (Nat.le_of_ble_eq_true rfl) ?_
  intro p e s m args below meth c hx hb hr hml hown hts hlocks hP hD hS hK ls hl
  have hown : s.vm.findClass RX8 = some m.cls := hown
  have hl : lv_has ls 2 [(0, .ref x)] := hl
  have hq0 := hts (.fieldLink RX8 10 "StuckVanes" "now" "LStuckVanes$World;") (by decide +kernel)
  rw [f_X8_forget] at hR
  refine lv_aload_n hx hb dX8_forget_0 rfl (lv_at hl 0 rfl) ?_
  refine va_get (D := D) (ci := 8) (v := .ref x_now) (C := RX8) (T := TX8) (N := 11) hx hb hts in_X8_forget_X8 hown hK.1 hP 0 rfl rfl 0 (by decide) hq0 (fun _ h9 => h9) rfl dX8_forget_1 ?_
  refine va_getN (D := D) (ci := 7) (v := .int nw_sights) (C := RX7) (T := TX7) (N := 12) hx hb hts in_X8_forget_X7 hown hK.1 hP 1 rfl rfl 9 (by decide) (va_Nw.use rfl (hK.2 _ gN_11)) (fun _ h9 => h9) rfl dX8_forget_4 ?_
  refine lv_istore_n (lv' := [(1, .int nw_sights), (0, .ref x)]) hx hb dX8_forget_7 rfl hl (by decide) rfl (fun ls hl => ?_)
  refine lv_aload_n hx hb dX8_forget_8 rfl (lv_at hl 1 rfl) ?_
  refine va_get (D := D) (ci := 8) (v := .ref x_now) (C := RX8) (T := TX8) (N := 11) hx hb hts in_X8_forget_X8 hown hK.1 hP 0 rfl rfl 0 (by decide) hq0 (fun _ h9 => h9) rfl dX8_forget_9 ?_
  refine lv_iconst (v := (0 : Int32)) hx hb dX8_forget_12 (by decide) ?_
  refine va_putN (D := D) (ci := 7) (v := .int (0 : Int32)) (ty := .int) (C := RX7) (T := TX7) (N := 12) hx hb hts in_X8_forget_X7 tyX7 tyX7_ok nmX7 hown hK.1 hP hD hS 1 rfl rfl 9 (by decide) (va_Nw.use rfl (hK.2 _ gN_11)) (fun _ h9 => h9) rfl (by decide +kernel) rfl rfl (Nat.le_of_ble_eq_true rfl) dX8_forget_13 (fun H locs hP hD hS => ?_)
  have hP : va_P D vwCl [(x, .inr (8, [.ref x_now, .ref x_image0, .ref x_image1, .int x_kept, .ref x_pad, .ref x_weeks, .ref x_agendas, .ref x_pointings, .ref x_guesses, .ref x_squares, .ref x_chances])), (x_now, .inr (7, [.ref nw_points_a, .ref nw_tired_a, .ref nw_near_a, .int nw_there, .int nw_free, .int nw_held, .int nw_wind, .int nw_oil, .int nw_hour, .int (0 : Int32), .int nw_agreedTo, .int nw_refused])), (nw_points_a, .inl (cI, 7, .inl nw_points)), (nw_tired_a, .inl (cI, 7, .inl nw_tired)), (nw_near_a, .inl (cI, 7, .inl nw_near))] H := hP
  have hD : va_D _ [(x, .inr (8, [.ref x_now, .ref x_image0, .ref x_image1, .int x_kept, .ref x_pad, .ref x_weeks, .ref x_agendas, .ref x_pointings, .ref x_guesses, .ref x_squares, .ref x_chances])), (x_now, .inr (7, [.ref nw_points_a, .ref nw_tired_a, .ref nw_near_a, .int nw_there, .int nw_free, .int nw_held, .int nw_wind, .int nw_oil, .int nw_hour, .int (0 : Int32), .int nw_agreedTo, .int nw_refused])), (nw_points_a, .inl (cI, 7, .inl nw_points)), (nw_tired_a, .inl (cI, 7, .inl nw_tired)), (nw_near_a, .inl (cI, 7, .inl nw_near))] := hD
  refine lv_aload_n hx hb dX8_forget_16 rfl (lv_at hl 1 rfl) ?_
  refine va_get (D := D) (ci := 8) (v := .ref x_now) (C := RX8) (T := TX8) (N := 11) hx hb hts in_X8_forget_X8 hown hK.1 hP 0 rfl rfl 0 (by decide) hq0 (fun _ h9 => h9) rfl dX8_forget_17 ?_
  refine lv_iconst (v := (0 : Int32)) hx hb dX8_forget_20 (by decide) ?_
  refine va_putN (D := D) (ci := 7) (v := .int (0 : Int32)) (ty := .int) (C := RX7) (T := TX7) (N := 12) hx hb hts in_X8_forget_X7 tyX7 tyX7_ok nmX7 hown hK.1 hP hD hS 1 rfl rfl 10 (by decide) (va_Nw.use rfl (hK.2 _ gN_13)) (fun _ h9 => h9) rfl (by decide +kernel) rfl rfl (Nat.le_of_ble_eq_true rfl) dX8_forget_21 (fun H locs hP hD hS => ?_)
  have hP : va_P D vwCl [(x, .inr (8, [.ref x_now, .ref x_image0, .ref x_image1, .int x_kept, .ref x_pad, .ref x_weeks, .ref x_agendas, .ref x_pointings, .ref x_guesses, .ref x_squares, .ref x_chances])), (x_now, .inr (7, [.ref nw_points_a, .ref nw_tired_a, .ref nw_near_a, .int nw_there, .int nw_free, .int nw_held, .int nw_wind, .int nw_oil, .int nw_hour, .int (0 : Int32), .int (0 : Int32), .int nw_refused])), (nw_points_a, .inl (cI, 7, .inl nw_points)), (nw_tired_a, .inl (cI, 7, .inl nw_tired)), (nw_near_a, .inl (cI, 7, .inl nw_near))] H := hP
  have hD : va_D _ [(x, .inr (8, [.ref x_now, .ref x_image0, .ref x_image1, .int x_kept, .ref x_pad, .ref x_weeks, .ref x_agendas, .ref x_pointings, .ref x_guesses, .ref x_squares, .ref x_chances])), (x_now, .inr (7, [.ref nw_points_a, .ref nw_tired_a, .ref nw_near_a, .int nw_there, .int nw_free, .int nw_held, .int nw_wind, .int nw_oil, .int nw_hour, .int (0 : Int32), .int (0 : Int32), .int nw_refused])), (nw_points_a, .inl (cI, 7, .inl nw_points)), (nw_tired_a, .inl (cI, 7, .inl nw_tired)), (nw_near_a, .inl (cI, 7, .inl nw_near))] := hD
  refine lv_aload_n hx hb dX8_forget_24 rfl (lv_at hl 1 rfl) ?_
  refine va_get (D := D) (ci := 8) (v := .ref x_now) (C := RX8) (T := TX8) (N := 11) hx hb hts in_X8_forget_X8 hown hK.1 hP 0 rfl rfl 0 (by decide) hq0 (fun _ h9 => h9) rfl dX8_forget_25 ?_
  refine lv_iconst (v := (0 : Int32)) hx hb dX8_forget_28 (by decide) ?_
  refine va_putN (D := D) (ci := 7) (v := .int (0 : Int32)) (ty := .int) (C := RX7) (T := TX7) (N := 12) hx hb hts in_X8_forget_X7 tyX7 tyX7_ok nmX7 hown hK.1 hP hD hS 1 rfl rfl 11 (by decide) (va_Nw.use rfl (hK.2 _ gN_15)) (fun _ h9 => h9) rfl (by decide +kernel) rfl rfl (Nat.le_of_ble_eq_true rfl) dX8_forget_29 (fun H locs hP hD hS => ?_)
  have hP : va_P D vwCl [(x, .inr (8, [.ref x_now, .ref x_image0, .ref x_image1, .int x_kept, .ref x_pad, .ref x_weeks, .ref x_agendas, .ref x_pointings, .ref x_guesses, .ref x_squares, .ref x_chances])), (x_now, .inr (7, [.ref nw_points_a, .ref nw_tired_a, .ref nw_near_a, .int nw_there, .int nw_free, .int nw_held, .int nw_wind, .int nw_oil, .int nw_hour, .int (0 : Int32), .int (0 : Int32), .int (0 : Int32)])), (nw_points_a, .inl (cI, 7, .inl nw_points)), (nw_tired_a, .inl (cI, 7, .inl nw_tired)), (nw_near_a, .inl (cI, 7, .inl nw_near))] H := hP
  have hD : va_D _ [(x, .inr (8, [.ref x_now, .ref x_image0, .ref x_image1, .int x_kept, .ref x_pad, .ref x_weeks, .ref x_agendas, .ref x_pointings, .ref x_guesses, .ref x_squares, .ref x_chances])), (x_now, .inr (7, [.ref nw_points_a, .ref nw_tired_a, .ref nw_near_a, .int nw_there, .int nw_free, .int nw_held, .int nw_wind, .int nw_oil, .int nw_hour, .int (0 : Int32), .int (0 : Int32), .int (0 : Int32)])), (nw_points_a, .inl (cI, 7, .inl nw_points)), (nw_tired_a, .inl (cI, 7, .inl nw_tired)), (nw_near_a, .inl (cI, 7, .inl nw_near))] := hD
  refine lv_iload_n hx hb dX8_forget_32 rfl (lv_at hl 0 rfl) ?_
  obtain ⟨rfl, rfl, rfl, rfl⟩ := prodI4 hR
  exact rw_iret hx hb hr hlocks hP hS dX8_forget_33


theorem in_X8_stuck_X8 : ∀ w ∈ u_ws RX8 TX8 11, w ∈ wsX8_stuck := by decide +kernel
theorem hd_X2_count : yX2_count.cls ≠ "java/lang/invoke/MethodHandle" ∧ yX2_count.cls ≠ "java/lang/invoke/VarHandle" ∧ (parseMethodDescriptor yX2_count.desc).map (fun d => d.parameters.length) = some 1 := by decide +kernel
theorem hd_X2_tell : yX2_tell.cls ≠ "java/lang/invoke/MethodHandle" ∧ yX2_tell.cls ≠ "java/lang/invoke/VarHandle" ∧ (parseMethodDescriptor yX2_tell.desc).map (fun d => d.parameters.length) = some 2 := by decide +kernel
def f_X8_stuck (nw_agreedTo : Int32) (nw_refused : Int32) (xi : Int32) : Int32 :=
  (if (xi = (-1 : Int32)) then (f_X2_count nw_agreedTo nw_refused) else (f_X2_tell nw_agreedTo nw_refused xi))
set_option maxHeartbeats 4000000 in
set_option maxRecDepth 100000 in
theorem c_X8_stuck (l : Launch) (D : va_G) (cI cJ cZ : ClassId) (x : Nat) (x_now : Nat) (x_image0 : Nat) (x_image1 : Nat) (x_kept : Int32) (x_pad : Nat) (x_weeks : Nat) (x_agendas : Nat) (x_pointings : Nat) (x_guesses : Nat) (x_squares : Nat) (x_chances : Nat) (nw_points_a : Nat) (nw_tired_a : Nat) (nw_near_a : Nat) (nw_there : Int32) (nw_free : Int32) (nw_held : Int32) (nw_wind : Int32) (nw_oil : Int32) (nw_hour : Int32) (nw_sights : Int32) (nw_agreedTo : Int32) (nw_refused : Int32) (nw_points : Nat → Int32) (nw_tired : Nat → Int32) (nw_near : Nat → Int32) (xi : Int32) : RO l yX8_stuck wsX8_stuck ({ frames := 4, cells := 0, slots := 0, locals := 91 }) [.ref x, .int xi] D cI cJ cZ [(x, .inr (8, [.ref x_now, .ref x_image0, .ref x_image1, .int x_kept, .ref x_pad, .ref x_weeks, .ref x_agendas, .ref x_pointings, .ref x_guesses, .ref x_squares, .ref x_chances])), (x_now, .inr (7, [.ref nw_points_a, .ref nw_tired_a, .ref nw_near_a, .int nw_there, .int nw_free, .int nw_held, .int nw_wind, .int nw_oil, .int nw_hour, .int nw_sights, .int nw_agreedTo, .int nw_refused])), (nw_points_a, .inl (cI, 7, .inl nw_points)), (nw_tired_a, .inl (cI, 7, .inl nw_tired)), (nw_near_a, .inl (cI, 7, .inl nw_near))] (.int (f_X8_stuck nw_agreedTo nw_refused xi)) := by
  obtain ⟨R, hR⟩ : ∃ R, (f_X8_stuck nw_agreedTo nw_refused xi) = R := ⟨_, rfl⟩
  rw [hR]
  refine ro_start (cc := cX8_stuck) (maxL := 2) (ret := (some .int)) (by decide) rfl (Nat.le_of_ble_eq_true rfl) ?_
  intro p e s m args below meth c hx hb hr hml hown hts hlocks hP hK ls hl
  have hown : s.vm.findClass RX8 = some m.cls := hown
  have hl : lv_has ls 2 [(0, .ref x), (1, .int xi)] := hl
  have hq0 := hts (.fieldLink RX8 10 "StuckVanes" "now" "LStuckVanes$World;") (by decide +kernel)
  rw [f_X8_stuck] at hR
  refine lv_iload_n hx hb dX8_stuck_0 rfl (lv_at hl 1 rfl) ?_
  refine lv_iconst (v := (-1 : Int32)) hx hb dX8_stuck_1 (by decide) ?_
  refine lv_icmp_ne (tgt := 15) hx hb dX8_stuck_2 (by decide) (fun c2 => ?_) (fun c2 => ?_)
  · rw [if_neg c2] at hR
    refine lv_aload_n hx hb dX8_stuck_15 rfl (lv_at hl 0 rfl) ?_
    refine va_get (D := D) (ci := 8) (v := .ref x_now) (C := RX8) (T := TX8) (N := 11) hx hb hts in_X8_stuck_X8 hown hK.1 hP 0 rfl rfl 0 (by decide) hq0 (fun _ h9 => h9) rfl dX8_stuck_16 ?_
    refine lv_iload_n hx hb dX8_stuck_19 rfl (lv_at hl 1 rfl) ?_
    refine ro_S (As := [.ref x_now, .int xi]) (rest := []) ⟨hx, hb, hml, hown, hts⟩ hK (c_X2_tell l D cI cJ cZ x_now nw_points_a nw_tired_a nw_near_a nw_there nw_free nw_held nw_wind nw_oil nw_hour nw_sights nw_agreedTo nw_refused xi) (rw_sub hP [1] rfl) (va_cwS 2 hts gX8_stuck_X2_tell rfl rfl rfl hd_X2_tell ⟨(Nat.le_of_ble_eq_true rfl), (Nat.le_of_ble_eq_true rfl)⟩) rfl hl.1 rfl (Nat.le_of_ble_eq_true rfl) dX8_stuck_20 (Nat.zero_le _) (Nat.zero_le _) ?_
    subst hR
    exact ro_iret hx hb hr hlocks dX8_stuck_23
  · rw [if_pos c2] at hR
    refine lv_aload_n hx hb dX8_stuck_5 rfl (lv_at hl 0 rfl) ?_
    refine va_get (D := D) (ci := 8) (v := .ref x_now) (C := RX8) (T := TX8) (N := 11) hx hb hts in_X8_stuck_X8 hown hK.1 hP 0 rfl rfl 0 (by decide) hq0 (fun _ h9 => h9) rfl dX8_stuck_6 ?_
    refine ro_S (As := [.ref x_now]) (rest := []) ⟨hx, hb, hml, hown, hts⟩ hK (c_X2_count l D cI cJ cZ x_now nw_points_a nw_tired_a nw_near_a nw_there nw_free nw_held nw_wind nw_oil nw_hour nw_sights nw_agreedTo nw_refused) (rw_sub hP [1] rfl) (va_cwS 1 hts gX8_stuck_X2_count rfl rfl rfl hd_X2_count ⟨(Nat.le_of_ble_eq_true rfl), (Nat.le_of_ble_eq_true rfl)⟩) rfl hl.1 rfl (Nat.le_of_ble_eq_true rfl) dX8_stuck_9 (Nat.zero_le _) (Nat.zero_le _) ?_
    refine lv_goto (tgt := 23) hx hb dX8_stuck_12 (by decide) ?_
    subst hR
    exact ro_iret hx hb hr hlocks dX8_stuck_23


theorem in_X8_ask_X2 : ∀ w ∈ u_ws RX2 TX2 3, w ∈ wsX8_ask := by decide +kernel
theorem in_X8_ask_X8 : ∀ w ∈ u_ws RX8 TX8 11, w ∈ wsX8_ask := by decide +kernel
theorem hd_X2_choose : yX2_choose.cls ≠ "java/lang/invoke/MethodHandle" ∧ yX2_choose.cls ≠ "java/lang/invoke/VarHandle" ∧ (parseMethodDescriptor yX2_choose.desc).map (fun d => d.parameters.length) = some 1 := by decide +kernel
def f_X8_ask (nw_agreedTo : Int32) (nw_refused : Int32) (gs_thing : Int32) (gs_left : Int32) (gs_agreeing : Nat → Int32) (xk : Int32) : Int32 × Int32 × Int32 × (Nat → Int32) :=
  (if ((f_X8_isUpTo xk (1 : Int32)) = 0) then ((-2 : Int32), gs_thing, gs_left, gs_agreeing) else (if (xk = 0) then (((f_X2_choose gs_agreeing nw_agreedTo nw_refused).1), ((f_X2_choose gs_agreeing nw_agreedTo nw_refused).1), ((f_X2_choose gs_agreeing nw_agreedTo nw_refused).2.1), ((f_X2_choose gs_agreeing nw_agreedTo nw_refused).2.2)) else (((f_X2_choose gs_agreeing nw_agreedTo nw_refused).2.1), ((f_X2_choose gs_agreeing nw_agreedTo nw_refused).1), ((f_X2_choose gs_agreeing nw_agreedTo nw_refused).2.1), ((f_X2_choose gs_agreeing nw_agreedTo nw_refused).2.2))))
set_option maxHeartbeats 4000000 in
set_option maxRecDepth 100000 in
theorem c_X8_ask (l : Launch) (D : va_G) (cI cJ cZ : ClassId) (x : Nat) (x_now : Nat) (x_image0 : Nat) (x_image1 : Nat) (x_kept : Int32) (x_pad : Nat) (x_weeks : Nat) (x_agendas : Nat) (x_pointings : Nat) (x_guesses : Nat) (x_squares : Nat) (x_chances : Nat) (nw_points_a : Nat) (nw_tired_a : Nat) (nw_near_a : Nat) (nw_there : Int32) (nw_free : Int32) (nw_held : Int32) (nw_wind : Int32) (nw_oil : Int32) (nw_hour : Int32) (nw_sights : Int32) (nw_agreedTo : Int32) (nw_refused : Int32) (nw_points : Nat → Int32) (nw_tired : Nat → Int32) (nw_near : Nat → Int32) (gs_agreeing_a : Nat) (gs_thing : Int32) (gs_left : Int32) (gs_agreeing : Nat → Int32) (xk : Int32) : RW l yX8_ask wsX8_ask ({ frames := 5, cells := 0, slots := 0, locals := 117 }) [.ref x, .int xk] D cI cJ cZ [(x, .inr (8, [.ref x_now, .ref x_image0, .ref x_image1, .int x_kept, .ref x_pad, .ref x_weeks, .ref x_agendas, .ref x_pointings, .ref x_guesses, .ref x_squares, .ref x_chances])), (x_now, .inr (7, [.ref nw_points_a, .ref nw_tired_a, .ref nw_near_a, .int nw_there, .int nw_free, .int nw_held, .int nw_wind, .int nw_oil, .int nw_hour, .int nw_sights, .int nw_agreedTo, .int nw_refused])), (nw_points_a, .inl (cI, 7, .inl nw_points)), (nw_tired_a, .inl (cI, 7, .inl nw_tired)), (nw_near_a, .inl (cI, 7, .inl nw_near)), (x_guesses, .inr (2, [.ref gs_agreeing_a, .int gs_thing, .int gs_left])), (gs_agreeing_a, .inl (cI, 8, .inl gs_agreeing))] (some (.int ((f_X8_ask nw_agreedTo nw_refused gs_thing gs_left gs_agreeing xk).1))) [(x, .inr (8, [.ref x_now, .ref x_image0, .ref x_image1, .int x_kept, .ref x_pad, .ref x_weeks, .ref x_agendas, .ref x_pointings, .ref x_guesses, .ref x_squares, .ref x_chances])), (x_now, .inr (7, [.ref nw_points_a, .ref nw_tired_a, .ref nw_near_a, .int nw_there, .int nw_free, .int nw_held, .int nw_wind, .int nw_oil, .int nw_hour, .int nw_sights, .int nw_agreedTo, .int nw_refused])), (nw_points_a, .inl (cI, 7, .inl nw_points)), (nw_tired_a, .inl (cI, 7, .inl nw_tired)), (nw_near_a, .inl (cI, 7, .inl nw_near)), (x_guesses, .inr (2, [.ref gs_agreeing_a, .int ((f_X8_ask nw_agreedTo nw_refused gs_thing gs_left gs_agreeing xk).2.1), .int ((f_X8_ask nw_agreedTo nw_refused gs_thing gs_left gs_agreeing xk).2.2.1)])), (gs_agreeing_a, .inl (cI, 8, .inl ((f_X8_ask nw_agreedTo nw_refused gs_thing gs_left gs_agreeing xk).2.2.2)))] := by
  obtain ⟨R0, R1, R2, R3, hR⟩ := prodE4 (f_X8_ask nw_agreedTo nw_refused gs_thing gs_left gs_agreeing xk)
  rw [hR]
  dsimp only
  refine rw_start (cc := cX8_ask) (maxL := 2) (ret := (some .int)) (by decide) rfl (Nat.le_of_ble_eq_true rfl) ?_
  intro p e s m args below meth c hx hb hr hml hown hts hlocks hP hD hS hK ls hl
  have hown : s.vm.findClass RX8 = some m.cls := hown
  have hl : lv_has ls 2 [(0, .ref x), (1, .int xk)] := hl
  have hq0 := hts (.fieldLink RX8 53 "StuckVanes" "guesses" "LStuckVanes$Guesses;") (by decide +kernel)
  have hq1 := hts (.fieldLink RX8 10 "StuckVanes" "now" "LStuckVanes$World;") (by decide +kernel)
  rw [f_X8_ask] at hR
  refine lv_iload_n hx hb dX8_ask_0 rfl (lv_at hl 1 rfl) ?_
  refine lv_iconst (v := (1 : Int32)) hx hb dX8_ask_1 (by decide) ?_
  refine ro_S (As := [.int xk, .int (1 : Int32)]) (rest := []) ⟨hx, hb, hml, hown, hts⟩ hK (c_X8_isUpTo l D cI cJ cZ xk (1 : Int32)) va_P_nil (va_cwS 2 hts gX8_ask_X8_isUpTo rfl rfl rfl hd_X8_isUpTo ⟨(Nat.le_of_ble_eq_true rfl), (Nat.le_of_ble_eq_true rfl)⟩) rfl hl.1 rfl (Nat.le_of_ble_eq_true rfl) dX8_ask_2 (Nat.zero_le _) (Nat.zero_le _) ?_
  refine lv_if_ne (tgt := 11) hx hb dX8_ask_5 (by decide) (fun c5 => ?_) (fun c5 => ?_)
  · rw [if_neg c5] at hR
    refine lv_aload_n hx hb dX8_ask_11 rfl (lv_at hl 0 rfl) ?_
    refine va_get (D := D) (ci := 8) (v := .ref x_guesses) (C := RX8) (T := TX8) (N := 11) hx hb hts in_X8_ask_X8 hown hK.1 hP 0 rfl rfl 8 (by decide) hq0 (fun _ h9 => h9) rfl dX8_ask_12 ?_
    refine lv_aload_n hx hb dX8_ask_15 rfl (lv_at hl 0 rfl) ?_
    refine va_get (D := D) (ci := 8) (v := .ref x_now) (C := RX8) (T := TX8) (N := 11) hx hb hts in_X8_ask_X8 hown hK.1 hP 0 rfl rfl 0 (by decide) hq1 (fun _ h9 => h9) rfl dX8_ask_16 ?_
    refine rw_V (As := [.ref x_now]) (rest := []) (wr := [(x, .inr (8, [.ref x_now, .ref x_image0, .ref x_image1, .int x_kept, .ref x_pad, .ref x_weeks, .ref x_agendas, .ref x_pointings, .ref x_guesses, .ref x_squares, .ref x_chances])), (nw_points_a, .inl (cI, 7, .inl nw_points)), (nw_tired_a, .inl (cI, 7, .inl nw_tired)), (nw_near_a, .inl (cI, 7, .inl nw_near))]) (ws2 := [(x, .inr (8, [.ref x_now, .ref x_image0, .ref x_image1, .int x_kept, .ref x_pad, .ref x_weeks, .ref x_agendas, .ref x_pointings, .ref x_guesses, .ref x_squares, .ref x_chances])), (x_now, .inr (7, [.ref nw_points_a, .ref nw_tired_a, .ref nw_near_a, .int nw_there, .int nw_free, .int nw_held, .int nw_wind, .int nw_oil, .int nw_hour, .int nw_sights, .int nw_agreedTo, .int nw_refused])), (nw_points_a, .inl (cI, 7, .inl nw_points)), (nw_tired_a, .inl (cI, 7, .inl nw_tired)), (nw_near_a, .inl (cI, 7, .inl nw_near)), (x_guesses, .inr (2, [.ref gs_agreeing_a, .int ((f_X2_choose gs_agreeing nw_agreedTo nw_refused).1), .int ((f_X2_choose gs_agreeing nw_agreedTo nw_refused).2.1)])), (gs_agreeing_a, .inl (cI, 8, .inl ((f_X2_choose gs_agreeing nw_agreedTo nw_refused).2.2)))]) (st1 := []) ⟨hx, hb, hml, hown, hts⟩ hK hP hD hS (c_X2_choose l D cI cJ cZ x_guesses gs_agreeing_a gs_thing gs_left gs_agreeing x_now nw_points_a nw_tired_a nw_near_a nw_there nw_free nw_held nw_wind nw_oil nw_hour nw_sights nw_agreedTo nw_refused) 5 rfl rfl [5, 6, 1] [0, 2, 3, 4] [0, 6, 1, 2, 3, 4, 5] rfl rfl (by decide) (by decide) rfl rfl rfl (cwV 1 hts gX8_ask_X2_choose rfl rfl rfl ⟨rfl, hd_X2_choose⟩ ⟨(Nat.le_of_ble_eq_true rfl), (Nat.le_of_ble_eq_true rfl)⟩) rfl hl.1 rfl (Nat.le_of_ble_eq_true rfl) dX8_ask_19 (Nat.zero_le _) (Nat.zero_le _) (fun H locs hP hD hS => ?_)
    refine lv_iload_n hx hb dX8_ask_22 rfl (lv_at hl 1 rfl) ?_
    refine lv_if_ne (tgt := 36) hx hb dX8_ask_23 (by decide) (fun c23 => ?_) (fun c23 => ?_)
    · rw [if_neg c23] at hR
      refine lv_aload_n hx hb dX8_ask_36 rfl (lv_at hl 0 rfl) ?_
      refine va_get (D := D) (ci := 8) (v := .ref x_guesses) (C := RX8) (T := TX8) (N := 11) hx hb hts in_X8_ask_X8 hown hK.1 hP 0 rfl rfl 8 (by decide) hq0 (fun _ h9 => h9) rfl dX8_ask_37 ?_
      refine va_getN (D := D) (ci := 2) (v := .int ((f_X2_choose gs_agreeing nw_agreedTo nw_refused).2.1)) (C := RX2) (T := TX2) (N := 3) hx hb hts in_X8_ask_X2 hown hK.1 hP 5 rfl rfl 2 (by decide) (va_Nw.use rfl (hK.2 _ gN_32)) (fun _ h9 => h9) rfl dX8_ask_40 ?_
      obtain ⟨rfl, rfl, rfl, rfl⟩ := prodI4 hR
      exact rw_iret hx hb hr hlocks hP hS dX8_ask_43
    · rw [if_pos c23] at hR
      refine lv_aload_n hx hb dX8_ask_26 rfl (lv_at hl 0 rfl) ?_
      refine va_get (D := D) (ci := 8) (v := .ref x_guesses) (C := RX8) (T := TX8) (N := 11) hx hb hts in_X8_ask_X8 hown hK.1 hP 0 rfl rfl 8 (by decide) hq0 (fun _ h9 => h9) rfl dX8_ask_27 ?_
      refine va_getN (D := D) (ci := 2) (v := .int ((f_X2_choose gs_agreeing nw_agreedTo nw_refused).1)) (C := RX2) (T := TX2) (N := 3) hx hb hts in_X8_ask_X2 hown hK.1 hP 5 rfl rfl 1 (by decide) (va_Nw.use rfl (hK.2 _ gN_31)) (fun _ h9 => h9) rfl dX8_ask_30 ?_
      refine lv_goto (tgt := 43) hx hb dX8_ask_33 (by decide) ?_
      obtain ⟨rfl, rfl, rfl, rfl⟩ := prodI4 hR
      exact rw_iret hx hb hr hlocks hP hS dX8_ask_43
  · rw [if_pos c5] at hR
    refine lv_bipush (v := (-2 : Int32)) hx hb dX8_ask_8 (by decide +kernel) ?_
    obtain ⟨rfl, rfl, rfl, rfl⟩ := prodI4 hR
    exact rw_iret hx hb hr hlocks hP hS dX8_ask_10


theorem in_X8_tellOfAll_X3 : ∀ w ∈ u_ws RX3 TX3 6, w ∈ wsX8_tellOfAll := by decide +kernel
theorem in_X8_tellOfAll_X7 : ∀ w ∈ u_ws RX7 TX7 12, w ∈ wsX8_tellOfAll := by decide +kernel
theorem in_X8_tellOfAll_X8 : ∀ w ∈ u_ws RX8 TX8 11, w ∈ wsX8_tellOfAll := by decide +kernel
def f_X8_tellOfAll (nw_there : Int32) (nw_held : Int32) (nw_wind : Int32) (nw_oil : Int32) (nw_hour : Int32) (nw_sights : Int32) (pd_length : Nat) (xk : Int32) : Int32 :=
  (if (xk = (0 : Int32)) then (nI pd_length) else (if (xk = (1 : Int32)) then nw_there else (if (xk = (2 : Int32)) then nw_held else (if (xk = (3 : Int32)) then nw_wind else (if (xk = (4 : Int32)) then nw_oil else (if (xk = (5 : Int32)) then nw_hour else (if (xk = (6 : Int32)) then nw_sights else (-2 : Int32))))))))
set_option maxHeartbeats 4000000 in
set_option maxRecDepth 100000 in
theorem c_X8_tellOfAll (l : Launch) (D : va_G) (cI cJ cZ : ClassId) (x : Nat) (x_now : Nat) (x_image0 : Nat) (x_image1 : Nat) (x_kept : Int32) (x_pad : Nat) (x_weeks : Nat) (x_agendas : Nat) (x_pointings : Nat) (x_guesses : Nat) (x_squares : Nat) (x_chances : Nat) (nw_points_a : Nat) (nw_tired_a : Nat) (nw_near_a : Nat) (nw_there : Int32) (nw_free : Int32) (nw_held : Int32) (nw_wind : Int32) (nw_oil : Int32) (nw_hour : Int32) (nw_sights : Int32) (nw_agreedTo : Int32) (nw_refused : Int32) (nw_points : Nat → Int32) (nw_tired : Nat → Int32) (nw_near : Nat → Int32) (pd_signs_a : Nat) (pd_length : Nat) (pd_kinds_a : Nat) (pd_parishes_a : Nat) (pd_numbers_a : Nat) (pd_acts : Int32) (pd_signs : Nat → Int32) (pd_kinds : Nat → Int32) (pd_parishes : Nat → Int32) (pd_numbers : Nat → Int32) (xk : Int32) : RO l yX8_tellOfAll wsX8_tellOfAll ({ frames := 0, cells := 0, slots := 0, locals := 0 }) [.ref x, .int xk] D cI cJ cZ [(x, .inr (8, [.ref x_now, .ref x_image0, .ref x_image1, .int x_kept, .ref x_pad, .ref x_weeks, .ref x_agendas, .ref x_pointings, .ref x_guesses, .ref x_squares, .ref x_chances])), (x_now, .inr (7, [.ref nw_points_a, .ref nw_tired_a, .ref nw_near_a, .int nw_there, .int nw_free, .int nw_held, .int nw_wind, .int nw_oil, .int nw_hour, .int nw_sights, .int nw_agreedTo, .int nw_refused])), (nw_points_a, .inl (cI, 7, .inl nw_points)), (nw_tired_a, .inl (cI, 7, .inl nw_tired)), (nw_near_a, .inl (cI, 7, .inl nw_near)), (x_pad, .inr (3, [.ref pd_signs_a, .int (nI pd_length), .ref pd_kinds_a, .ref pd_parishes_a, .ref pd_numbers_a, .int pd_acts])), (pd_signs_a, .inl (cI, 60, .inl pd_signs)), (pd_kinds_a, .inl (cI, 60, .inl pd_kinds)), (pd_parishes_a, .inl (cI, 60, .inl pd_parishes)), (pd_numbers_a, .inl (cI, 60, .inl pd_numbers))] (.int (f_X8_tellOfAll nw_there nw_held nw_wind nw_oil nw_hour nw_sights pd_length xk)) := by
  obtain ⟨R, hR⟩ : ∃ R, (f_X8_tellOfAll nw_there nw_held nw_wind nw_oil nw_hour nw_sights pd_length xk) = R := ⟨_, rfl⟩
  rw [hR]
  refine ro_start (cc := cX8_tellOfAll) (maxL := 2) (ret := (some .int)) (by decide) rfl (Nat.le_of_ble_eq_true rfl) ?_
  intro p e s m args below meth c hx hb hr hml hown hts hlocks hP hK ls hl
  have hown : s.vm.findClass RX8 = some m.cls := hown
  have hl : lv_has ls 2 [(0, .ref x), (1, .int xk)] := hl
  have hq0 := hts (.fieldLink RX8 25 "StuckVanes" "pad" "LStuckVanes$Pad;") (by decide +kernel)
  have hq1 := hts (.fieldLink RX8 10 "StuckVanes" "now" "LStuckVanes$World;") (by decide +kernel)
  rw [f_X8_tellOfAll] at hR
  refine lv_iload_n hx hb dX8_tellOfAll_0 rfl (lv_at hl 1 rfl) ?_
  by_cases c1_0 : (xk = (0 : Int32))
  · rw [if_pos c1_0] at hR
    refine lv_tableIn (off := 43) (tgt := 44) hx hb dX8_tellOfAll_1 (by rw [c1_0]; decide) (by rw [c1_0]; decide) (by rw [c1_0]; rfl) (by decide) ?_
    refine lv_aload_n hx hb dX8_tellOfAll_44 rfl (lv_at hl 0 rfl) ?_
    refine va_get (D := D) (ci := 8) (v := .ref x_pad) (C := RX8) (T := TX8) (N := 11) hx hb hts in_X8_tellOfAll_X8 hown hK.1 hP 0 rfl rfl 4 (by decide) hq0 (fun _ h9 => h9) rfl dX8_tellOfAll_45 ?_
    refine va_getN (D := D) (ci := 3) (v := .int (nI pd_length)) (C := RX3) (T := TX3) (N := 6) hx hb hts in_X8_tellOfAll_X3 hown hK.1 hP 5 rfl rfl 1 (by decide) (va_Nw.use rfl (hK.2 _ gN_17)) (fun _ h9 => h9) rfl dX8_tellOfAll_48 ?_
    subst hR
    exact ro_iret hx hb hr hlocks dX8_tellOfAll_51
  · rw [if_neg c1_0] at hR
    by_cases c1_1 : (xk = (1 : Int32))
    · rw [if_pos c1_1] at hR
      refine lv_tableIn (off := 51) (tgt := 52) hx hb dX8_tellOfAll_1 (by rw [c1_1]; decide) (by rw [c1_1]; decide) (by rw [c1_1]; rfl) (by decide) ?_
      refine lv_aload_n hx hb dX8_tellOfAll_52 rfl (lv_at hl 0 rfl) ?_
      refine va_get (D := D) (ci := 8) (v := .ref x_now) (C := RX8) (T := TX8) (N := 11) hx hb hts in_X8_tellOfAll_X8 hown hK.1 hP 0 rfl rfl 0 (by decide) hq1 (fun _ h9 => h9) rfl dX8_tellOfAll_53 ?_
      refine va_getN (D := D) (ci := 7) (v := .int nw_there) (C := RX7) (T := TX7) (N := 12) hx hb hts in_X8_tellOfAll_X7 hown hK.1 hP 1 rfl rfl 3 (by decide) (va_Nw.use rfl (hK.2 _ gN_5)) (fun _ h9 => h9) rfl dX8_tellOfAll_56 ?_
      subst hR
      exact ro_iret hx hb hr hlocks dX8_tellOfAll_59
    · rw [if_neg c1_1] at hR
      by_cases c1_2 : (xk = (2 : Int32))
      · rw [if_pos c1_2] at hR
        refine lv_tableIn (off := 59) (tgt := 60) hx hb dX8_tellOfAll_1 (by rw [c1_2]; decide) (by rw [c1_2]; decide) (by rw [c1_2]; rfl) (by decide) ?_
        refine lv_aload_n hx hb dX8_tellOfAll_60 rfl (lv_at hl 0 rfl) ?_
        refine va_get (D := D) (ci := 8) (v := .ref x_now) (C := RX8) (T := TX8) (N := 11) hx hb hts in_X8_tellOfAll_X8 hown hK.1 hP 0 rfl rfl 0 (by decide) hq1 (fun _ h9 => h9) rfl dX8_tellOfAll_61 ?_
        refine va_getN (D := D) (ci := 7) (v := .int nw_held) (C := RX7) (T := TX7) (N := 12) hx hb hts in_X8_tellOfAll_X7 hown hK.1 hP 1 rfl rfl 5 (by decide) (va_Nw.use rfl (hK.2 _ gN_6)) (fun _ h9 => h9) rfl dX8_tellOfAll_64 ?_
        subst hR
        exact ro_iret hx hb hr hlocks dX8_tellOfAll_67
      · rw [if_neg c1_2] at hR
        by_cases c1_3 : (xk = (3 : Int32))
        · rw [if_pos c1_3] at hR
          refine lv_tableIn (off := 67) (tgt := 68) hx hb dX8_tellOfAll_1 (by rw [c1_3]; decide) (by rw [c1_3]; decide) (by rw [c1_3]; rfl) (by decide) ?_
          refine lv_aload_n hx hb dX8_tellOfAll_68 rfl (lv_at hl 0 rfl) ?_
          refine va_get (D := D) (ci := 8) (v := .ref x_now) (C := RX8) (T := TX8) (N := 11) hx hb hts in_X8_tellOfAll_X8 hown hK.1 hP 0 rfl rfl 0 (by decide) hq1 (fun _ h9 => h9) rfl dX8_tellOfAll_69 ?_
          refine va_getN (D := D) (ci := 7) (v := .int nw_wind) (C := RX7) (T := TX7) (N := 12) hx hb hts in_X8_tellOfAll_X7 hown hK.1 hP 1 rfl rfl 6 (by decide) (va_Nw.use rfl (hK.2 _ gN_8)) (fun _ h9 => h9) rfl dX8_tellOfAll_72 ?_
          subst hR
          exact ro_iret hx hb hr hlocks dX8_tellOfAll_75
        · rw [if_neg c1_3] at hR
          by_cases c1_4 : (xk = (4 : Int32))
          · rw [if_pos c1_4] at hR
            refine lv_tableIn (off := 75) (tgt := 76) hx hb dX8_tellOfAll_1 (by rw [c1_4]; decide) (by rw [c1_4]; decide) (by rw [c1_4]; rfl) (by decide) ?_
            refine lv_aload_n hx hb dX8_tellOfAll_76 rfl (lv_at hl 0 rfl) ?_
            refine va_get (D := D) (ci := 8) (v := .ref x_now) (C := RX8) (T := TX8) (N := 11) hx hb hts in_X8_tellOfAll_X8 hown hK.1 hP 0 rfl rfl 0 (by decide) hq1 (fun _ h9 => h9) rfl dX8_tellOfAll_77 ?_
            refine va_getN (D := D) (ci := 7) (v := .int nw_oil) (C := RX7) (T := TX7) (N := 12) hx hb hts in_X8_tellOfAll_X7 hown hK.1 hP 1 rfl rfl 7 (by decide) (va_Nw.use rfl (hK.2 _ gN_9)) (fun _ h9 => h9) rfl dX8_tellOfAll_80 ?_
            subst hR
            exact ro_iret hx hb hr hlocks dX8_tellOfAll_83
          · rw [if_neg c1_4] at hR
            by_cases c1_5 : (xk = (5 : Int32))
            · rw [if_pos c1_5] at hR
              refine lv_tableIn (off := 83) (tgt := 84) hx hb dX8_tellOfAll_1 (by rw [c1_5]; decide) (by rw [c1_5]; decide) (by rw [c1_5]; rfl) (by decide) ?_
              refine lv_aload_n hx hb dX8_tellOfAll_84 rfl (lv_at hl 0 rfl) ?_
              refine va_get (D := D) (ci := 8) (v := .ref x_now) (C := RX8) (T := TX8) (N := 11) hx hb hts in_X8_tellOfAll_X8 hown hK.1 hP 0 rfl rfl 0 (by decide) hq1 (fun _ h9 => h9) rfl dX8_tellOfAll_85 ?_
              refine va_getN (D := D) (ci := 7) (v := .int nw_hour) (C := RX7) (T := TX7) (N := 12) hx hb hts in_X8_tellOfAll_X7 hown hK.1 hP 1 rfl rfl 8 (by decide) (va_Nw.use rfl (hK.2 _ gN_10)) (fun _ h9 => h9) rfl dX8_tellOfAll_88 ?_
              subst hR
              exact ro_iret hx hb hr hlocks dX8_tellOfAll_91
            · rw [if_neg c1_5] at hR
              by_cases c1_6 : (xk = (6 : Int32))
              · rw [if_pos c1_6] at hR
                refine lv_tableIn (off := 91) (tgt := 92) hx hb dX8_tellOfAll_1 (by rw [c1_6]; decide) (by rw [c1_6]; decide) (by rw [c1_6]; rfl) (by decide) ?_
                refine lv_aload_n hx hb dX8_tellOfAll_92 rfl (lv_at hl 0 rfl) ?_
                refine va_get (D := D) (ci := 8) (v := .ref x_now) (C := RX8) (T := TX8) (N := 11) hx hb hts in_X8_tellOfAll_X8 hown hK.1 hP 0 rfl rfl 0 (by decide) hq1 (fun _ h9 => h9) rfl dX8_tellOfAll_93 ?_
                refine va_getN (D := D) (ci := 7) (v := .int nw_sights) (C := RX7) (T := TX7) (N := 12) hx hb hts in_X8_tellOfAll_X7 hown hK.1 hP 1 rfl rfl 9 (by decide) (va_Nw.use rfl (hK.2 _ gN_11)) (fun _ h9 => h9) rfl dX8_tellOfAll_96 ?_
                subst hR
                exact ro_iret hx hb hr hlocks dX8_tellOfAll_99
              · rw [if_neg c1_6] at hR
                refine lv_tableOut (tgt := 100) hx hb dX8_tellOfAll_1 (by have z0 := sw_toInt (n := 0) (by decide) c1_0; have z1 := sw_toInt (n := 1) (by decide) c1_1; have z2 := sw_toInt (n := 2) (by decide) c1_2; have z3 := sw_toInt (n := 3) (by decide) c1_3; have z4 := sw_toInt (n := 4) (by decide) c1_4; have z5 := sw_toInt (n := 5) (by decide) c1_5; have z6 := sw_toInt (n := 6) (by decide) c1_6; omega) (by decide) ?_
                refine lv_bipush (v := (-2 : Int32)) hx hb dX8_tellOfAll_100 (by decide +kernel) ?_
                subst hR
                exact ro_iret hx hb hr hlocks dX8_tellOfAll_102


theorem in_X8_told_X7 : ∀ w ∈ u_ws RX7 TX7 12, w ∈ wsX8_told := by decide +kernel
theorem in_X8_told_X8 : ∀ w ∈ u_ws RX8 TX8 11, w ∈ wsX8_told := by decide +kernel
theorem hd_X7_tell : yX7_tell.cls ≠ "java/lang/invoke/MethodHandle" ∧ yX7_tell.cls ≠ "java/lang/invoke/VarHandle" ∧ (parseMethodDescriptor yX7_tell.desc).map (fun d => d.parameters.length) = some 2 := by decide +kernel
theorem hd_X8_tellOfAll : yX8_tellOfAll.cls ≠ "java/lang/invoke/MethodHandle" ∧ yX8_tellOfAll.cls ≠ "java/lang/invoke/VarHandle" ∧ (parseMethodDescriptor yX8_tellOfAll.desc).map (fun d => d.parameters.length) = some 1 := by decide +kernel
def f_X8_told (nw_there : Int32) (nw_free : Int32) (nw_held : Int32) (nw_wind : Int32) (nw_oil : Int32) (nw_hour : Int32) (nw_sights : Int32) (nw_points : Nat → Int32) (nw_tired : Nat → Int32) (nw_near : Nat → Int32) (pd_length : Nat) (xk : Int32) : Int32 :=
  (if ((10 : Int32) ≤ xk) then (if ((49 : Int32) < xk) then (-2 : Int32) else (if ((f_X8_isParish (xk - xk / (10 : Int32) * (10 : Int32))) = 0) then (-2 : Int32) else (if ((20 : Int32) ≤ xk) then (if ((f_X7_isThere nw_there (xk - xk / (10 : Int32) * (10 : Int32))) = 0) then (-2 : Int32) else (f_X7_tell nw_there nw_free nw_points nw_tired (xk - xk / (10 : Int32) * (10 : Int32)) ((xk / (10 : Int32)) - (2 : Int32)))) else (nw_near (xk - xk / (10 : Int32) * (10 : Int32)).toNatClampNeg)))) else (f_X8_tellOfAll nw_there nw_held nw_wind nw_oil nw_hour nw_sights pd_length xk))
set_option maxHeartbeats 4000000 in
set_option maxRecDepth 100000 in
theorem c_X8_told (l : Launch) (D : va_G) (cI cJ cZ : ClassId) (x : Nat) (x_now : Nat) (x_image0 : Nat) (x_image1 : Nat) (x_kept : Int32) (x_pad : Nat) (x_weeks : Nat) (x_agendas : Nat) (x_pointings : Nat) (x_guesses : Nat) (x_squares : Nat) (x_chances : Nat) (nw_points_a : Nat) (nw_tired_a : Nat) (nw_near_a : Nat) (nw_there : Int32) (nw_free : Int32) (nw_held : Int32) (nw_wind : Int32) (nw_oil : Int32) (nw_hour : Int32) (nw_sights : Int32) (nw_agreedTo : Int32) (nw_refused : Int32) (nw_points : Nat → Int32) (nw_tired : Nat → Int32) (nw_near : Nat → Int32) (pd_signs_a : Nat) (pd_length : Nat) (pd_kinds_a : Nat) (pd_parishes_a : Nat) (pd_numbers_a : Nat) (pd_acts : Int32) (pd_signs : Nat → Int32) (pd_kinds : Nat → Int32) (pd_parishes : Nat → Int32) (pd_numbers : Nat → Int32) (xk : Int32) : RO l yX8_told wsX8_told ({ frames := 2, cells := 0, slots := 0, locals := 43 }) [.ref x, .int xk] D cI cJ cZ [(x, .inr (8, [.ref x_now, .ref x_image0, .ref x_image1, .int x_kept, .ref x_pad, .ref x_weeks, .ref x_agendas, .ref x_pointings, .ref x_guesses, .ref x_squares, .ref x_chances])), (x_now, .inr (7, [.ref nw_points_a, .ref nw_tired_a, .ref nw_near_a, .int nw_there, .int nw_free, .int nw_held, .int nw_wind, .int nw_oil, .int nw_hour, .int nw_sights, .int nw_agreedTo, .int nw_refused])), (nw_points_a, .inl (cI, 7, .inl nw_points)), (nw_tired_a, .inl (cI, 7, .inl nw_tired)), (nw_near_a, .inl (cI, 7, .inl nw_near)), (x_pad, .inr (3, [.ref pd_signs_a, .int (nI pd_length), .ref pd_kinds_a, .ref pd_parishes_a, .ref pd_numbers_a, .int pd_acts])), (pd_signs_a, .inl (cI, 60, .inl pd_signs)), (pd_kinds_a, .inl (cI, 60, .inl pd_kinds)), (pd_parishes_a, .inl (cI, 60, .inl pd_parishes)), (pd_numbers_a, .inl (cI, 60, .inl pd_numbers))] (.int (f_X8_told nw_there nw_free nw_held nw_wind nw_oil nw_hour nw_sights nw_points nw_tired nw_near pd_length xk)) := by
  obtain ⟨R, hR⟩ : ∃ R, (f_X8_told nw_there nw_free nw_held nw_wind nw_oil nw_hour nw_sights nw_points nw_tired nw_near pd_length xk) = R := ⟨_, rfl⟩
  rw [hR]
  refine ro_start (cc := cX8_told) (maxL := 3) (ret := (some .int)) (by decide) rfl (Nat.le_of_ble_eq_true rfl) ?_
  intro p e s m args below meth c hx hb hr hml hown hts hlocks hP hK ls hl
  have hown : s.vm.findClass RX8 = some m.cls := hown
  have hl : lv_has ls 3 [(0, .ref x), (1, .int xk)] := hl
  have hq0 := hts (.fieldLink RX8 10 "StuckVanes" "now" "LStuckVanes$World;") (by decide +kernel)
  rw [f_X8_told] at hR
  refine lv_iload_n hx hb dX8_told_0 rfl (lv_at hl 1 rfl) ?_
  refine lv_bipush (v := (10 : Int32)) hx hb dX8_told_1 (by decide +kernel) ?_
  refine lv_icmp_ge (tgt := 12) hx hb dX8_told_3 (by decide) (fun c3 => ?_) (fun c3 => ?_)
  · rw [if_pos c3] at hR
    refine lv_iload_n hx hb dX8_told_12 rfl (lv_at hl 1 rfl) ?_
    refine lv_bipush (v := (10 : Int32)) hx hb dX8_told_13 (by decide +kernel) ?_
    refine lv_irem hx hb dX8_told_15 (by decide) ?_
    refine lv_istore_n (lv' := [(2, .int (xk - xk / (10 : Int32) * (10 : Int32))), (0, .ref x), (1, .int xk)]) hx hb dX8_told_16 rfl hl (by decide) rfl (fun ls hl => ?_)
    refine lv_iload_n hx hb dX8_told_17 rfl (lv_at hl 2 rfl) ?_
    refine lv_bipush (v := (49 : Int32)) hx hb dX8_told_18 (by decide +kernel) ?_
    refine lv_icmp_gt (tgt := 30) hx hb dX8_told_20 (by decide) (fun c20 => ?_) (fun c20 => ?_)
    · rw [if_pos c20] at hR
      refine lv_bipush (v := (-2 : Int32)) hx hb dX8_told_30 (by decide +kernel) ?_
      subst hR
      exact ro_iret hx hb hr hlocks dX8_told_32
    · rw [if_neg c20] at hR
      refine lv_iload_n hx hb dX8_told_23 rfl (lv_at hl 0 rfl) ?_
      refine ro_S (As := [.int (xk - xk / (10 : Int32) * (10 : Int32))]) (rest := []) ⟨hx, hb, hml, hown, hts⟩ hK (c_X8_isParish l D cI cJ cZ (xk - xk / (10 : Int32) * (10 : Int32))) va_P_nil (va_cwS 1 hts gX8_told_X8_isParish rfl rfl rfl hd_X8_isParish ⟨(Nat.le_of_ble_eq_true rfl), (Nat.le_of_ble_eq_true rfl)⟩) rfl hl.1 rfl (Nat.le_of_ble_eq_true rfl) dX8_told_24 (Nat.zero_le _) (Nat.zero_le _) ?_
      refine lv_if_ne (tgt := 33) hx hb dX8_told_27 (by decide) (fun c27 => ?_) (fun c27 => ?_)
      · rw [if_neg c27] at hR
        refine lv_iload_n hx hb dX8_told_33 rfl (lv_at hl 2 rfl) ?_
        refine lv_bipush (v := (20 : Int32)) hx hb dX8_told_34 (by decide +kernel) ?_
        refine lv_icmp_ge (tgt := 49) hx hb dX8_told_36 (by decide) (fun c36 => ?_) (fun c36 => ?_)
        · rw [if_pos c36] at hR
          refine lv_aload_n hx hb dX8_told_49 rfl (lv_at hl 1 rfl) ?_
          refine va_get (D := D) (ci := 8) (v := .ref x_now) (C := RX8) (T := TX8) (N := 11) hx hb hts in_X8_told_X8 hown hK.1 hP 0 rfl rfl 0 (by decide) hq0 (fun _ h9 => h9) rfl dX8_told_50 ?_
          refine lv_iload_n hx hb dX8_told_53 rfl (lv_at hl 0 rfl) ?_
          refine ro_V (As := [.int (xk - xk / (10 : Int32) * (10 : Int32))]) (rest := []) ⟨hx, hb, hml, hown, hts⟩ hK (c_X7_isThere l D cI cJ cZ x_now nw_points_a nw_tired_a nw_near_a nw_there nw_free nw_held nw_wind nw_oil nw_hour nw_sights nw_agreedTo nw_refused (xk - xk / (10 : Int32) * (10 : Int32))) hP 1 rfl rfl (rw_sub hP [1] rfl) (cwV 1 hts gX8_told_X7_isThere rfl rfl rfl ⟨rfl, hd_X7_isThere⟩ ⟨(Nat.le_of_ble_eq_true rfl), (Nat.le_of_ble_eq_true rfl)⟩) rfl hl.1 rfl (Nat.le_of_ble_eq_true rfl) dX8_told_54 (Nat.zero_le _) (Nat.zero_le _) ?_
          refine lv_if_eq (tgt := 77) hx hb dX8_told_57 (by decide) (fun c57 => ?_) (fun c57 => ?_)
          · rw [if_pos c57] at hR
            refine lv_bipush (v := (-2 : Int32)) hx hb dX8_told_77 (by decide +kernel) ?_
            subst hR
            exact ro_iret hx hb hr hlocks dX8_told_79
          · rw [if_neg c57] at hR
            refine lv_aload_n hx hb dX8_told_60 rfl (lv_at hl 1 rfl) ?_
            refine va_get (D := D) (ci := 8) (v := .ref x_now) (C := RX8) (T := TX8) (N := 11) hx hb hts in_X8_told_X8 hown hK.1 hP 0 rfl rfl 0 (by decide) hq0 (fun _ h9 => h9) rfl dX8_told_61 ?_
            refine lv_iload_n hx hb dX8_told_64 rfl (lv_at hl 0 rfl) ?_
            refine lv_iload_n hx hb dX8_told_65 rfl (lv_at hl 2 rfl) ?_
            refine lv_bipush (v := (10 : Int32)) hx hb dX8_told_66 (by decide +kernel) ?_
            refine lv_idiv hx hb dX8_told_68 (by decide) ?_
            refine lv_iconst (v := (2 : Int32)) hx hb dX8_told_69 (by decide) ?_
            refine lv_isub hx hb dX8_told_70 ?_
            refine ro_V (As := [.int (xk - xk / (10 : Int32) * (10 : Int32)), .int ((xk / (10 : Int32)) - (2 : Int32))]) (rest := []) ⟨hx, hb, hml, hown, hts⟩ hK (c_X7_tell l D cI cJ cZ x_now nw_points_a nw_tired_a nw_near_a nw_there nw_free nw_held nw_wind nw_oil nw_hour nw_sights nw_agreedTo nw_refused nw_points nw_tired (xk - xk / (10 : Int32) * (10 : Int32)) ((xk / (10 : Int32)) - (2 : Int32))) hP 1 rfl rfl (rw_sub hP [1, 2, 3] rfl) (cwV 2 hts gX8_told_X7_tell rfl rfl rfl ⟨rfl, hd_X7_tell⟩ ⟨(Nat.le_of_ble_eq_true rfl), (Nat.le_of_ble_eq_true rfl)⟩) rfl hl.1 rfl (Nat.le_of_ble_eq_true rfl) dX8_told_71 (Nat.zero_le _) (Nat.zero_le _) ?_
            refine lv_goto (tgt := 79) hx hb dX8_told_74 (by decide) ?_
            subst hR
            exact ro_iret hx hb hr hlocks dX8_told_79
        · rw [if_neg c36] at hR
          refine lv_aload_n hx hb dX8_told_39 rfl (lv_at hl 1 rfl) ?_
          refine va_get (D := D) (ci := 8) (v := .ref x_now) (C := RX8) (T := TX8) (N := 11) hx hb hts in_X8_told_X8 hown hK.1 hP 0 rfl rfl 0 (by decide) hq0 (fun _ h9 => h9) rfl dX8_told_40 ?_
          refine va_getN (D := D) (ci := 7) (v := .ref nw_near_a) (C := RX7) (T := TX7) (N := 12) hx hb hts in_X8_told_X7 hown hK.1 hP 1 rfl rfl 2 (by decide) (va_Nw.use rfl (hK.2 _ gN_2)) (fun _ h9 => h9) rfl dX8_told_43 ?_
          refine lv_iload_n hx hb dX8_told_46 rfl (lv_at hl 0 rfl) ?_
          refine va_iald hx hb hK.1 hP 4 0 rfl rfl (vp_isParish c27) dX8_told_47 ?_
          subst hR
          exact ro_iret hx hb hr hlocks dX8_told_48
      · rw [if_pos c27] at hR
        refine lv_bipush (v := (-2 : Int32)) hx hb dX8_told_30 (by decide +kernel) ?_
        subst hR
        exact ro_iret hx hb hr hlocks dX8_told_32
  · rw [if_neg c3] at hR
    refine lv_aload_n hx hb dX8_told_6 rfl (lv_at hl 0 rfl) ?_
    refine lv_iload_n hx hb dX8_told_7 rfl (lv_at hl 1 rfl) ?_
    refine ro_V (As := [.int xk]) (rest := []) ⟨hx, hb, hml, hown, hts⟩ hK (c_X8_tellOfAll l D cI cJ cZ x x_now x_image0 x_image1 x_kept x_pad x_weeks x_agendas x_pointings x_guesses x_squares x_chances nw_points_a nw_tired_a nw_near_a nw_there nw_free nw_held nw_wind nw_oil nw_hour nw_sights nw_agreedTo nw_refused nw_points nw_tired nw_near pd_signs_a pd_length pd_kinds_a pd_parishes_a pd_numbers_a pd_acts pd_signs pd_kinds pd_parishes pd_numbers xk) hP 0 rfl rfl (rw_sub hP [0, 1, 2, 3, 4, 5, 6, 7, 8, 9] rfl) (cwV 1 hts gX8_told_X8_tellOfAll rfl rfl rfl ⟨rfl, hd_X8_tellOfAll⟩ ⟨(Nat.le_of_ble_eq_true rfl), (Nat.le_of_ble_eq_true rfl)⟩) rfl hl.1 rfl (Nat.le_of_ble_eq_true rfl) dX8_told_8 (Nat.zero_le _) (Nat.zero_le _) ?_
    subst hR
    exact ro_iret hx hb hr hlocks dX8_told_11

