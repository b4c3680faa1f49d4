theorem in_X7_isThere_X7 : ∀ w ∈ u_ws RX7 TX7 12, w ∈ wsX7_isThere := by decide +kernel
def f_X7_isThere (w_there : Int32) (xp : Int32) : Int32 :=
  (if (xp < 0) then (0 : Int32) else (if ((7 : Int32) ≤ xp) then (0 : Int32) else (if (((w_there >>> (xp &&& 31)) &&& (1 : Int32)) = 0) then (0 : Int32) else (1 : Int32))))
set_option maxHeartbeats 4000000 in
set_option maxRecDepth 100000 in
theorem c_X7_isThere (l : Launch) (D : va_G) (cI cJ cZ : ClassId) (w : Nat) (w_points_a : Nat) (w_tired_a : Nat) (w_near_a : Nat) (w_there : Int32) (w_free : Int32) (w_held : Int32) (w_wind : Int32) (w_oil : Int32) (w_hour : Int32) (w_sights : Int32) (w_agreedTo : Int32) (w_refused : Int32) (xp : Int32) : RO l yX7_isThere wsX7_isThere ({ frames := 0, cells := 0, slots := 0, locals := 0 }) [.ref w, .int xp] D cI cJ cZ [(w, .inr (7, [.ref w_points_a, .ref w_tired_a, .ref w_near_a, .int w_there, .int w_free, .int w_held, .int w_wind, .int w_oil, .int w_hour, .int w_sights, .int w_agreedTo, .int w_refused]))] (.int (f_X7_isThere w_there xp)) := by
  obtain ⟨R, hR⟩ : ∃ R, (f_X7_isThere w_there xp) = R := ⟨_, rfl⟩
  rw [hR]
  refine ro_start (cc := cX7_isThere) (maxL := 2) (ret := (some .boolean)) (by decide) rfl (Nat.le_of_ble_eq_true rfl) ?_
  intro p e s m args below meth c hx hb hr hml hown hts hlocks hP hK ls hl
  have hown : s.vm.findClass RX7 = some m.cls := hown
  have hl : lv_has ls 2 [(0, .ref w), (1, .int xp)] := hl
  have hq0 := hts (.fieldLink RX7 25 "StuckVanes$World" "there" "I") (by decide +kernel)
  rw [f_X7_isThere] at hR
  refine lv_iload_n hx hb dX7_isThere_0 rfl (lv_at hl 1 rfl) ?_
  refine lv_if_lt (tgt := 25) hx hb dX7_isThere_1 (by decide) (fun c1 => ?_) (fun c1 => ?_)
  · rw [if_pos c1] at hR
    refine lv_iconst (v := (0 : Int32)) hx hb dX7_isThere_25 (by decide) ?_
    subst hR
    exact ro_zret hx hb hr hlocks (Or.inl rfl) dX7_isThere_26
  · rw [if_neg c1] at hR
    refine lv_iload_n hx hb dX7_isThere_4 rfl (lv_at hl 1 rfl) ?_
    refine lv_bipush (v := (7 : Int32)) hx hb dX7_isThere_5 (by decide +kernel) ?_
    refine lv_icmp_ge (tgt := 25) hx hb dX7_isThere_7 (by decide) (fun c7 => ?_) (fun c7 => ?_)
    · rw [if_pos c7] at hR
      refine lv_iconst (v := (0 : Int32)) hx hb dX7_isThere_25 (by decide) ?_
      subst hR
      exact ro_zret hx hb hr hlocks (Or.inl rfl) dX7_isThere_26
    · rw [if_neg c7] at hR
      refine lv_aload_n hx hb dX7_isThere_10 rfl (lv_at hl 0 rfl) ?_
      refine va_get (D := D) (ci := 7) (v := .int w_there) (C := RX7) (T := TX7) (N := 12) hx hb hts in_X7_isThere_X7 hown hK.1 hP 0 rfl rfl 3 (by decide) hq0 (fun _ h9 => h9) rfl dX7_isThere_11 ?_
      refine lv_iload_n hx hb dX7_isThere_14 rfl (lv_at hl 1 rfl) ?_
      refine lv_ishr hx hb dX7_isThere_15 ?_
      refine lv_iconst (v := (1 : Int32)) hx hb dX7_isThere_16 (by decide) ?_
      refine lv_iand hx hb dX7_isThere_17 ?_
      refine lv_if_eq (tgt := 25) hx hb dX7_isThere_18 (by decide) (fun c18 => ?_) (fun c18 => ?_)
      · rw [if_pos c18] at hR
        refine lv_iconst (v := (0 : Int32)) hx hb dX7_isThere_25 (by decide) ?_
        subst hR
        exact ro_zret hx hb hr hlocks (Or.inl rfl) dX7_isThere_26
      · rw [if_neg c18] at hR
        refine lv_iconst (v := (1 : Int32)) hx hb dX7_isThere_21 (by decide) ?_
        refine lv_goto (tgt := 26) hx hb dX7_isThere_22 (by decide) ?_
        subst hR
        exact ro_zret hx hb hr hlocks (Or.inr rfl) dX7_isThere_26

theorem z_X7_isThere (w_there : Int32) (xp : Int32) : (f_X7_isThere w_there xp) = 0 ∨ (f_X7_isThere w_there xp) = 1 := by
  unfold f_X7_isThere
  (repeat' split) <;> first | exact Or.inl rfl | exact Or.inr rfl

theorem vp_there {t x : Int32} (h : ¬ f_X7_isThere t x = 0) : vp_in x 7 := by
  unfold f_X7_isThere at h
  split at h
  · exact absurd rfl h
  · split at h
    · exact absurd rfl h
    · next h0 h1 => exact vp_of (n := 7) h0 h1 (by decide)

def f_X7_nearer (xw : Int32) (xg : Int32) : Int32 :=
  (if ((4 : Int32) < ((xg - xw) &&& (7 : Int32))) then ((xw + (-1 : Int32)) &&& (7 : Int32)) else ((xw + (1 : Int32)) &&& (7 : Int32)))
set_option maxHeartbeats 4000000 in
set_option maxRecDepth 100000 in
theorem c_X7_nearer (l : Launch) (D : va_G) (cI cJ cZ : ClassId) (xw : Int32) (xg : Int32) : RO l yX7_nearer wsX7_nearer ({ frames := 0, cells := 0, slots := 0, locals := 0 }) [.int xw, .int xg] D cI cJ cZ [] (.int (f_X7_nearer xw xg)) := by
  obtain ⟨R, hR⟩ : ∃ R, (f_X7_nearer xw xg) = R := ⟨_, rfl⟩
  rw [hR]
  refine ro_start (cc := cX7_nearer) (maxL := 4) (ret := (some .int)) (by decide) rfl (Nat.le_of_ble_eq_true rfl) ?_
  intro p e s m args below meth c hx hb hr hml hown hts hlocks hP hK ls hl
  have hown : s.vm.findClass RX7 = some m.cls := hown
  have hl : lv_has ls 4 [(0, .int xw), (1, .int xg)] := hl
  rw [f_X7_nearer] at hR
  refine lv_iload_n hx hb dX7_nearer_0 rfl (lv_at hl 1 rfl) ?_
  refine lv_iload_n hx hb dX7_nearer_1 rfl (lv_at hl 0 rfl) ?_
  refine lv_isub hx hb dX7_nearer_2 ?_
  refine lv_bipush (v := (7 : Int32)) hx hb dX7_nearer_3 (by decide +kernel) ?_
  refine lv_iand hx hb dX7_nearer_5 ?_
  refine lv_istore_n (lv' := [(2, .int ((xg - xw) &&& (7 : Int32))), (0, .int xw), (1, .int xg)]) hx hb dX7_nearer_6 rfl hl (by decide) rfl (fun ls hl => ?_)
  refine lv_iload_n hx hb dX7_nearer_7 rfl (lv_at hl 0 rfl) ?_
  refine lv_iconst (v := (4 : Int32)) hx hb dX7_nearer_8 (by decide) ?_
  refine lv_icmp_gt (tgt := 16) hx hb dX7_nearer_9 (by decide) (fun c9 => ?_) (fun c9 => ?_)
  · rw [if_pos c9] at hR
    refine lv_iconst (v := (-1 : Int32)) hx hb dX7_nearer_16 (by decide) ?_
    refine lv_istore_n (lv' := [(3, .int (-1 : Int32)), (2, .int ((xg - xw) &&& (7 : Int32))), (0, .int xw), (1, .int xg)]) hx hb dX7_nearer_17 rfl hl (by decide) rfl (fun ls hl => ?_)
    refine lv_iload_n hx hb dX7_nearer_18 rfl (lv_at hl 2 rfl) ?_
    refine lv_iload_n hx hb dX7_nearer_19 rfl (lv_at hl 0 rfl) ?_
    refine lv_iadd hx hb dX7_nearer_20 ?_
    refine lv_bipush (v := (7 : Int32)) hx hb dX7_nearer_21 (by decide +kernel) ?_
    refine lv_iand hx hb dX7_nearer_23 ?_
    subst hR
    exact ro_iret hx hb hr hlocks dX7_nearer_24
  · rw [if_neg c9] at hR
    refine lv_iconst (v := (1 : Int32)) hx hb dX7_nearer_12 (by decide) ?_
    refine lv_goto (tgt := 17) hx hb dX7_nearer_13 (by decide) ?_
    refine lv_istore_n (lv' := [(3, .int (1 : Int32)), (2, .int ((xg - xw) &&& (7 : Int32))), (0, .int xw), (1, .int xg)]) hx hb dX7_nearer_17 rfl hl (by decide) rfl (fun ls hl => ?_)
    refine lv_iload_n hx hb dX7_nearer_18 rfl (lv_at hl 2 rfl) ?_
    refine lv_iload_n hx hb dX7_nearer_19 rfl (lv_at hl 0 rfl) ?_
    refine lv_iadd hx hb dX7_nearer_20 ?_
    refine lv_bipush (v := (7 : Int32)) hx hb dX7_nearer_21 (by decide +kernel) ?_
    refine lv_iand hx hb dX7_nearer_23 ?_
    subst hR
    exact ro_iret hx hb hr hlocks dX7_nearer_24


theorem in_X7_parishesThere_X7 : ∀ w ∈ u_ws RX7 TX7 12, w ∈ wsX7_parishesThere := by decide +kernel
theorem hd_J6_bitCount_0f7a4 : yJ6_bitCount_0f7a4.cls ≠ "java/lang/invoke/MethodHandle" ∧ yJ6_bitCount_0f7a4.cls ≠ "java/lang/invoke/VarHandle" ∧ (parseMethodDescriptor yJ6_bitCount_0f7a4.desc).map (fun d => d.parameters.length) = some 1 := by decide +kernel
def f_X7_parishesThere (w_there : Int32) : Int32 :=
  (f_J6_bitCount_0f7a4 w_there)
set_option maxHeartbeats 4000000 in
set_option maxRecDepth 100000 in
theorem c_X7_parishesThere (l : Launch) (D : va_G) (cI cJ cZ : ClassId) (w : Nat) (w_points_a : Nat) (w_tired_a : Nat) (w_near_a : Nat) (w_there : Int32) (w_free : Int32) (w_held : Int32) (w_wind : Int32) (w_oil : Int32) (w_hour : Int32) (w_sights : Int32) (w_agreedTo : Int32) (w_refused : Int32) : RO l yX7_parishesThere wsX7_parishesThere ({ frames := 1, cells := 0, slots := 0, locals := 20 }) [.ref w] D cI cJ cZ [(w, .inr (7, [.ref w_points_a, .ref w_tired_a, .ref w_near_a, .int w_there, .int w_free, .int w_held, .int w_wind, .int w_oil, .int w_hour, .int w_sights, .int w_agreedTo, .int w_refused]))] (.int (f_X7_parishesThere w_there)) := by
  obtain ⟨R, hR⟩ : ∃ R, (f_X7_parishesThere w_there) = R := ⟨_, rfl⟩
  rw [hR]
  refine ro_start (cc := cX7_parishesThere) (maxL := 1) (ret := (some .int)) (by decide) rfl (Nat.le_of_ble_eq_true rfl) ?_
  intro p e s m args below meth c hx hb hr hml hown hts hlocks hP hK ls hl
  have hown : s.vm.findClass RX7 = some m.cls := hown
  have hl : lv_has ls 1 [(0, .ref w)] := hl
  have hq0 := hts (.fieldLink RX7 25 "StuckVanes$World" "there" "I") (by decide +kernel)
  rw [f_X7_parishesThere] at hR
  refine lv_aload_n hx hb dX7_parishesThere_0 rfl (lv_at hl 0 rfl) ?_
  refine va_get (D := D) (ci := 7) (v := .int w_there) (C := RX7) (T := TX7) (N := 12) hx hb hts in_X7_parishesThere_X7 hown hK.1 hP 0 rfl rfl 3 (by decide) hq0 (fun _ h9 => h9) rfl dX7_parishesThere_1 ?_
  refine ro_S (As := [.int w_there]) (rest := []) ⟨hx, hb, hml, hown, hts⟩ hK (c_J6_bitCount_0f7a4 l D cI cJ cZ w_there) va_P_nil (va_cwS 1 hts gX7_parishesThere_J6_bitCount_0f7a4 rfl rfl rfl hd_J6_bitCount_0f7a4 ⟨(Nat.le_of_ble_eq_true rfl), (Nat.le_of_ble_eq_true rfl)⟩) rfl hl.1 rfl (Nat.le_of_ble_eq_true rfl) dX7_parishesThere_4 (Nat.zero_le _) (Nat.zero_le _) ?_
  subst hR
  exact ro_iret hx hb hr hlocks dX7_parishesThere_7


theorem in_X7_pairsOfNeighbours_X7 : ∀ w ∈ u_ws RX7 TX7 12, w ∈ wsX7_pairsOfNeighbours := by decide +kernel
def lp_X7_pairsOfNeighbours_4 (w_near : Nat → Int32) : Nat → Nat → Int32 → Int32
  | 0, _, v1_4 => v1_4
  | k4 + 1, i4, v1_4 => (lp_X7_pairsOfNeighbours_4 w_near k4 (i4 + 1) (v1_4 + (f_J6_bitCount_0f7a4 (w_near i4))))
def f_X7_pairsOfNeighbours (w_near : Nat → Int32) : Int32 :=
  ((lp_X7_pairsOfNeighbours_4 w_near 7 0 (0 : Int32)) / (2 : Int32))
set_option maxHeartbeats 4000000 in
set_option maxRecDepth 100000 in
theorem c_X7_pairsOfNeighbours (l : Launch) (D : va_G) (cI cJ cZ : ClassId) (w : Nat) (w_points_a : Nat) (w_tired_a : Nat) (w_near_a : Nat) (w_there : Int32) (w_free : Int32) (w_held : Int32) (w_wind : Int32) (w_oil : Int32) (w_hour : Int32) (w_sights : Int32) (w_agreedTo : Int32) (w_refused : Int32) (w_near : Nat → Int32) : RO l yX7_pairsOfNeighbours wsX7_pairsOfNeighbours ({ frames := 1, cells := 0, slots := 0, locals := 20 }) [.ref w] D cI cJ cZ [(w, .inr (7, [.ref w_points_a, .ref w_tired_a, .ref w_near_a, .int w_there, .int w_free, .int w_held, .int w_wind, .int w_oil, .int w_hour, .int w_sights, .int w_agreedTo, .int w_refused])), (w_near_a, .inl (cI, 7, .inl w_near))] (.int (f_X7_pairsOfNeighbours w_near)) := by
  obtain ⟨R, hR⟩ : ∃ R, (f_X7_pairsOfNeighbours w_near) = R := ⟨_, rfl⟩
  rw [hR]
  refine ro_start (cc := cX7_pairsOfNeighbours) (maxL := 3) (ret := (some .int)) (by decide) rfl (Nat.le_of_ble_eq_true rfl) ?_
  intro p e s m args below meth c hx hb hr hml hown hts hlocks hP hK ls hl
  have hown : s.vm.findClass RX7 = some m.cls := hown
  have hl : lv_has ls 3 [(0, .ref w)] := hl
  have hq0 := hts (.fieldLink RX7 18 "StuckVanes$World" "near" "[I") (by decide +kernel)
  rw [f_X7_pairsOfNeighbours] at hR
  refine lv_iconst (v := (0 : Int32)) hx hb dX7_pairsOfNeighbours_0 (by decide) ?_
  refine lv_istore_n (lv' := [(1, .int (0 : Int32)), (0, .ref w)]) hx hb dX7_pairsOfNeighbours_1 rfl hl (by decide) rfl (fun ls hl => ?_)
  refine lv_iconst (v := (0 : Int32)) hx hb dX7_pairsOfNeighbours_2 (by decide) ?_
  refine lv_istore_n (lv' := [(2, .int (0 : Int32)), (1, .int (0 : Int32)), (0, .ref w)]) hx hb dX7_pairsOfNeighbours_3 rfl hl (by decide) rfl (fun ls hl => ?_)
  obtain ⟨F4_1, hF4_1⟩ : ∃ x, (lp_X7_pairsOfNeighbours_4 w_near 7 0 (0 : Int32)) = x := ⟨_, rfl⟩
  try rw [hF4_1] at hR
  have hexit4 : ∀ (ls : Array Slot), lv_has ls 3 [(1, .int F4_1), (0, .ref w)] → W p l e ({ frames := 1, cells := 0, slots := 0, locals := 20 }) s m args below meth c s.heap [] 0 0 (MQ below (ro_Q (.int R)) args s 0 0 (fun _ => False)) (F0 m 28 ls []) := by
    intro ls hl
    refine lv_iload_n hx hb dX7_pairsOfNeighbours_28 rfl (lv_at hl 0 rfl) ?_
    refine lv_iconst (v := (2 : Int32)) hx hb dX7_pairsOfNeighbours_29 (by decide) ?_
    refine lv_idiv hx hb dX7_pairsOfNeighbours_30 (by decide) ?_
    subst hR
    exact ro_iret hx hb hr hlocks dX7_pairsOfNeighbours_31
  have hloop4 : ∀ (k4 i4 : Nat) (v1_4 : Int32), i4 + k4 = 7 → ∀ (ls : Array Slot), lv_has ls 3 [(2, .int (nI i4)), (1, .int v1_4), (0, .ref w)] → lp_X7_pairsOfNeighbours_4 w_near k4 i4 v1_4 = F4_1 → W p l e ({ frames := 1, cells := 0, slots := 0, locals := 20 }) s m args below meth c s.heap [] 0 0 (MQ below (ro_Q (.int R)) args s 0 0 (fun _ => False)) (F0 m 4 ls []) := by
    intro k4
    induction k4 with
    | zero =>
      intro i4 v1_4 h4  ls hl hR
      obtain rfl : 7 = i4 := by omega
      rw [lp_X7_pairsOfNeighbours_4] at hR
      refine lv_iload_n hx hb dX7_pairsOfNeighbours_4 rfl (lv_at hl 0 rfl) ?_
      refine lv_bipush (v := (7 : Int32)) hx hb dX7_pairsOfNeighbours_5 (by decide +kernel) ?_
      refine lv_icmp_ge (tgt := 28) hx hb dX7_pairsOfNeighbours_7 (by decide) (fun _ => ?_) (fun h => absurd (cle_t (a := 7) (b := 7) rfl rfl (by omega) (by omega)) h)
      subst hR
      exact hexit4 _ (lv_sub hl [1, 2] rfl)
    | succ k4 ih4 =>
      intro i4 v1_4 h4  ls hl hR
      rw [lp_X7_pairsOfNeighbours_4] at hR
      refine lv_iload_n hx hb dX7_pairsOfNeighbours_4 rfl (lv_at hl 0 rfl) ?_
      refine lv_bipush (v := (7 : Int32)) hx hb dX7_pairsOfNeighbours_5 (by decide +kernel) ?_
      refine lv_icmp_ge (tgt := 28) hx hb dX7_pairsOfNeighbours_7 (by decide) (fun h => absurd h (cle_f (a := 7) (b := i4) rfl rfl (by omega) (by omega))) (fun _ => ?_)
      refine lv_iload_n hx hb dX7_pairsOfNeighbours_10 rfl (lv_at hl 1 rfl) ?_
      refine lv_aload_n hx hb dX7_pairsOfNeighbours_11 rfl (lv_at hl 2 rfl) ?_
      refine va_get (D := D) (ci := 7) (v := .ref w_near_a) (C := RX7) (T := TX7) (N := 12) hx hb hts in_X7_pairsOfNeighbours_X7 hown hK.1 hP 0 rfl rfl 2 (by decide) hq0 (fun _ h9 => h9) rfl dX7_pairsOfNeighbours_12 ?_
      refine lv_iload_n hx hb dX7_pairsOfNeighbours_15 rfl (lv_at hl 0 rfl) ?_
      refine ia_ld hx hb hK hP 1 rfl (i := i4) (by omega) (by decide) dX7_pairsOfNeighbours_16 ?_
      refine ro_S (As := [.int (w_near i4)]) (rest := [.int v1_4]) ⟨hx, hb, hml, hown, hts⟩ hK (c_J6_bitCount_0f7a4 l D cI cJ cZ (w_near i4)) va_P_nil (va_cwS 1 hts gX7_pairsOfNeighbours_J6_bitCount_0f7a4 rfl rfl rfl hd_J6_bitCount_0f7a4 ⟨(Nat.le_of_ble_eq_true rfl), (Nat.le_of_ble_eq_true rfl)⟩) rfl hl.1 rfl (Nat.le_of_ble_eq_true rfl) dX7_pairsOfNeighbours_17 (Nat.zero_le _) (Nat.zero_le _) ?_
      refine lv_iadd hx hb dX7_pairsOfNeighbours_20 ?_
      refine lv_istore_n (lv' := [(1, .int (v1_4 + (f_J6_bitCount_0f7a4 (w_near i4)))), (2, .int (nI i4)), (0, .ref w)]) hx hb dX7_pairsOfNeighbours_21 rfl hl (by decide) rfl (fun ls hl => ?_)
      refine lv_iinc (v := (nI (i4 + 1))) (lv' := [(2, .int (nI (i4 + 1))), (1, .int (v1_4 + (f_J6_bitCount_0f7a4 (w_near i4)))), (0, .ref w)]) hx hb dX7_pairsOfNeighbours_22 hl (k := 1) rfl (by exact nI_add i4 1) (by decide) rfl (fun ls hl => ?_)
      refine lv_goto (tgt := 4) hx hb dX7_pairsOfNeighbours_25 (by decide) ?_
      exact ih4 _ _ (by omega) _ (lv_sub hl [0, 1, 2] rfl) hR
  exact hloop4 7 0 _ (by omega) _ hl hF4_1


theorem in_X7_agreeing_X7 : ∀ w ∈ u_ws RX7 TX7 12, w ∈ wsX7_agreeing := by decide +kernel
theorem hd_X7_isThere : yX7_isThere.cls ≠ "java/lang/invoke/MethodHandle" ∧ yX7_isThere.cls ≠ "java/lang/invoke/VarHandle" ∧ (parseMethodDescriptor yX7_isThere.desc).map (fun d => d.parameters.length) = some 1 := by decide +kernel
theorem hd_X8_apart : yX8_apart.cls ≠ "java/lang/invoke/MethodHandle" ∧ yX8_apart.cls ≠ "java/lang/invoke/VarHandle" ∧ (parseMethodDescriptor yX8_apart.desc).map (fun d => d.parameters.length) = some 2 := by decide +kernel
theorem hd_X8_withBit : yX8_withBit.cls ≠ "java/lang/invoke/MethodHandle" ∧ yX8_withBit.cls ≠ "java/lang/invoke/VarHandle" ∧ (parseMethodDescriptor yX8_withBit.desc).map (fun d => d.parameters.length) = some 3 := by decide +kernel
def lp_X7_agreeing_4 (w_there : Int32) (w_points : Nat → Int32) (xt : Int32) : Nat → Nat → Int32 → Int32
  | 0, _, v2_4 => v2_4
  | k4 + 1, i4, v2_4 => (if ((f_X7_isThere w_there (nI i4)) = 0) then (lp_X7_agreeing_4 w_there w_points xt k4 (i4 + 1) v2_4) else (if ((1 : Int32) < (f_X8_apart (w_points i4) xt)) then (lp_X7_agreeing_4 w_there w_points xt k4 (i4 + 1) v2_4) else (lp_X7_agreeing_4 w_there w_points xt k4 (i4 + 1) (f_X8_withBit v2_4 (nI i4) (1 : Int32)))))
def f_X7_agreeing (w_there : Int32) (w_points : Nat → Int32) (xt : Int32) : Int32 :=
  (lp_X7_agreeing_4 w_there w_points xt 7 0 (0 : Int32))
set_option maxHeartbeats 4000000 in
set_option maxRecDepth 100000 in
theorem c_X7_agreeing (l : Launch) (D : va_G) (cI cJ cZ : ClassId) (w : Nat) (w_points_a : Nat) (w_tired_a : Nat) (w_near_a : Nat) (w_there : Int32) (w_free : Int32) (w_held : Int32) (w_wind : Int32) (w_oil : Int32) (w_hour : Int32) (w_sights : Int32) (w_agreedTo : Int32) (w_refused : Int32) (w_points : Nat → Int32) (xt : Int32) : RO l yX7_agreeing wsX7_agreeing ({ frames := 2, cells := 0, slots := 0, locals := 43 }) [.ref w, .int xt] D cI cJ cZ [(w, .inr (7, [.ref w_points_a, .ref w_tired_a, .ref w_near_a, .int w_there, .int w_free, .int w_held, .int w_wind, .int w_oil, .int w_hour, .int w_sights, .int w_agreedTo, .int w_refused])), (w_points_a, .inl (cI, 7, .inl w_points))] (.int (f_X7_agreeing w_there w_points xt)) := by
  obtain ⟨R, hR⟩ : ∃ R, (f_X7_agreeing w_there w_points xt) = R := ⟨_, rfl⟩
  rw [hR]
  refine ro_start (cc := cX7_agreeing) (maxL := 4) (ret := (some .int)) (by decide) rfl (Nat.le_of_ble_eq_true rfl) ?_
  intro p e s m args below meth c hx hb hr hml hown hts hlocks hP hK ls hl
  have hown : s.vm.findClass RX7 = some m.cls := hown
  have hl : lv_has ls 4 [(0, .ref w), (1, .int xt)] := hl
  have hq0 := hts (.fieldLink RX7 9 "StuckVanes$World" "points" "[I") (by decide +kernel)
  have hq1 := hts (.initialized RX8) (by decide +kernel)
  have hq2 := hts (.static yX8_apart) (by decide +kernel)
  have hq3 := hts (.static yX8_withBit) (by decide +kernel)
  rw [f_X7_agreeing] at hR
  refine lv_iconst (v := (0 : Int32)) hx hb dX7_agreeing_0 (by decide) ?_
  refine lv_istore_n (lv' := [(2, .int (0 : Int32)), (0, .ref w), (1, .int xt)]) hx hb dX7_agreeing_1 rfl hl (by decide) rfl (fun ls hl => ?_)
  refine lv_iconst (v := (0 : Int32)) hx hb dX7_agreeing_2 (by decide) ?_
  refine lv_istore_n (lv' := [(3, .int (0 : Int32)), (2, .int (0 : Int32)), (0, .ref w), (1, .int xt)]) hx hb dX7_agreeing_3 rfl hl (by decide) rfl (fun ls hl => ?_)
  obtain ⟨F4_1, hF4_1⟩ : ∃ x, (lp_X7_agreeing_4 w_there w_points xt 7 0 (0 : Int32)) = x := ⟨_, rfl⟩
  try rw [hF4_1] at hR
  have hexit4 : ∀ (ls : Array Slot), lv_has ls 4 [(2, .int F4_1), (0, .ref w), (1, .int xt)] → W p l e ({ frames := 2, cells := 0, slots := 0, locals := 43 }) s m args below meth c s.heap [] 0 0 (MQ below (ro_Q (.int R)) args s 0 0 (fun _ => False)) (F0 m 45 ls []) := by
    intro ls hl
    refine lv_iload_n hx hb dX7_agreeing_45 rfl (lv_at hl 0 rfl) ?_
    subst hR
    exact ro_iret hx hb hr hlocks dX7_agreeing_46
  have hloop4 : ∀ (k4 i4 : Nat) (v2_4 : Int32), i4 + k4 = 7 → ∀ (ls : Array Slot), lv_has ls 4 [(3, .int (nI i4)), (2, .int v2_4), (0, .ref w), (1, .int xt)] → lp_X7_agreeing_4 w_there w_points xt k4 i4 v2_4 = F4_1 → W p l e ({ frames := 2, cells := 0, slots := 0, locals := 43 }) s m args below meth c s.heap [] 0 0 (MQ below (ro_Q (.int R)) args s 0 0 (fun _ => False)) (F0 m 4 ls []) := by
    intro k4
    induction k4 with
    | zero =>
      intro i4 v2_4 h4  ls hl hR
      obtain rfl : 7 = i4 := by omega
      rw [lp_X7_agreeing_4] at hR
      refine lv_iload_n hx hb dX7_agreeing_4 rfl (lv_at hl 0 rfl) ?_
      refine lv_bipush (v := (7 : Int32)) hx hb dX7_agreeing_5 (by decide +kernel) ?_
      refine lv_icmp_ge (tgt := 45) hx hb dX7_agreeing_7 (by decide) (fun _ => ?_) (fun h => absurd (cle_t (a := 7) (b := 7) rfl rfl (by omega) (by omega)) h)
      subst hR
      exact hexit4 _ (lv_sub hl [1, 2, 3] rfl)
    | succ k4 ih4 =>
      intro i4 v2_4 h4  ls hl hR
      rw [lp_X7_agreeing_4] at hR
      refine lv_iload_n hx hb dX7_agreeing_4 rfl (lv_at hl 0 rfl) ?_
      refine lv_bipush (v := (7 : Int32)) hx hb dX7_agreeing_5 (by decide +kernel) ?_
      refine lv_icmp_ge (tgt := 45) hx hb dX7_agreeing_7 (by decide) (fun h => absurd h (cle_f (a := 7) (b := i4) rfl rfl (by omega) (by omega))) (fun _ => ?_)
      refine lv_aload_n hx hb dX7_agreeing_10 rfl (lv_at hl 2 rfl) ?_
      refine lv_iload_n hx hb dX7_agreeing_11 rfl (lv_at hl 0 rfl) ?_
      refine ro_V (As := [.int (nI i4)]) (rest := []) ⟨hx, hb, hml, hown, hts⟩ hK (c_X7_isThere l D cI cJ cZ w w_points_a w_tired_a w_near_a w_there w_free w_held w_wind w_oil w_hour w_sights w_agreedTo w_refused (nI i4)) hP 0 rfl rfl (rw_sub hP [0] rfl) (cwV 1 hts gX7_agreeing_X7_isThere rfl rfl rfl ⟨rfl, hd_X7_isThere⟩ ⟨(Nat.le_of_ble_eq_true rfl), (Nat.le_of_ble_eq_true rfl)⟩) rfl hl.1 rfl (Nat.le_of_ble_eq_true rfl) dX7_agreeing_12 (Nat.zero_le _) (Nat.zero_le _) ?_
      refine lv_if_eq (tgt := 39) hx hb dX7_agreeing_15 (by decide) (fun c15 => ?_) (fun c15 => ?_)
      · rw [if_pos c15] at hR
        refine lv_iinc (v := (nI (i4 + 1))) (lv' := [(3, .int (nI (i4 + 1))), (2, .int v2_4), (0, .ref w), (1, .int xt)]) hx hb dX7_agreeing_39 hl (k := 0) rfl (by exact nI_add i4 1) (by decide) rfl (fun ls hl => ?_)
        refine lv_goto (tgt := 4) hx hb dX7_agreeing_42 (by decide) ?_
        exact ih4 _ _ (by omega) _ (lv_sub hl [0, 1, 2, 3] rfl) hR
      · rw [if_neg c15] at hR
        refine lv_aload_n hx hb dX7_agreeing_18 rfl (lv_at hl 2 rfl) ?_
        refine va_get (D := D) (ci := 7) (v := .ref w_points_a) (C := RX7) (T := TX7) (N := 12) hx hb hts in_X7_agreeing_X7 hown hK.1 hP 0 rfl rfl 0 (by decide) hq0 (fun _ h9 => h9) rfl dX7_agreeing_19 ?_
        refine lv_iload_n hx hb dX7_agreeing_22 rfl (lv_at hl 0 rfl) ?_
        refine ia_ld hx hb hK hP 1 rfl (i := i4) (by omega) (by decide) dX7_agreeing_23 ?_
        refine lv_iload_n hx hb dX7_agreeing_24 rfl (lv_at hl 3 rfl) ?_
        refine ro_SN (As := [.int (w_points i4), .int xt]) (rest := []) ⟨hx, hb, hml, hown, hts⟩ hK (c_X8_apart l D cI cJ cZ (w_points i4) xt) va_P_nil (va_cnB 2 hts gX7_agreeing_X8_apart_n70 rfl rfl rfl (hK.2 _ gN_40) hq1 hd_X8_apart ⟨(Nat.le_of_ble_eq_true rfl), (Nat.le_of_ble_eq_true rfl)⟩) hq2 rfl hl.1 rfl (Nat.le_of_ble_eq_true rfl) dX7_agreeing_25 (Nat.zero_le _) (Nat.zero_le _) ?_
        refine lv_iconst (v := (1 : Int32)) hx hb dX7_agreeing_28 (by decide) ?_
        refine lv_icmp_gt (tgt := 39) hx hb dX7_agreeing_29 (by decide) (fun c29 => ?_) (fun c29 => ?_)
        · rw [if_pos c29] at hR
          refine lv_iinc (v := (nI (i4 + 1))) (lv' := [(3, .int (nI (i4 + 1))), (2, .int v2_4), (0, .ref w), (1, .int xt)]) hx hb dX7_agreeing_39 hl (k := 0) rfl (by exact nI_add i4 1) (by decide) rfl (fun ls hl => ?_)
          refine lv_goto (tgt := 4) hx hb dX7_agreeing_42 (by decide) ?_
          exact ih4 _ _ (by omega) _ (lv_sub hl [0, 1, 2, 3] rfl) hR
        · rw [if_neg c29] at hR
          refine lv_iload_n hx hb dX7_agreeing_32 rfl (lv_at hl 1 rfl) ?_
          refine lv_iload_n hx hb dX7_agreeing_33 rfl (lv_at hl 0 rfl) ?_
          refine lv_iconst (v := (1 : Int32)) hx hb dX7_agreeing_34 (by decide) ?_
          refine ro_SN (As := [.int v2_4, .int (nI i4), .int (1 : Int32)]) (rest := []) ⟨hx, hb, hml, hown, hts⟩ hK (c_X8_withBit l D cI cJ cZ v2_4 (nI i4) (1 : Int32)) va_P_nil (va_cnB 3 hts gX7_agreeing_X8_withBit_n53 rfl rfl rfl (hK.2 _ gN_36) hq1 hd_X8_withBit ⟨(Nat.le_of_ble_eq_true rfl), (Nat.le_of_ble_eq_true rfl)⟩) hq3 rfl hl.1 rfl (Nat.le_of_ble_eq_true rfl) dX7_agreeing_35 (Nat.zero_le _) (Nat.zero_le _) ?_
          refine lv_istore_n (lv' := [(2, .int (f_X8_withBit v2_4 (nI i4) (1 : Int32))), (3, .int (nI i4)), (0, .ref w), (1, .int xt)]) hx hb dX7_agreeing_38 rfl hl (by decide) rfl (fun ls hl => ?_)
          refine lv_iinc (v := (nI (i4 + 1))) (lv' := [(3, .int (nI (i4 + 1))), (2, .int (f_X8_withBit v2_4 (nI i4) (1 : Int32))), (0, .ref w), (1, .int xt)]) hx hb dX7_agreeing_39 hl (k := 1) rfl (by exact nI_add i4 1) (by decide) rfl (fun ls hl => ?_)
          refine lv_goto (tgt := 4) hx hb dX7_agreeing_42 (by decide) ?_
          exact ih4 _ _ (by omega) _ (lv_sub hl [0, 1, 2, 3] rfl) hR
  exact hloop4 7 0 _ (by omega) _ hl hF4_1


theorem hd_X7_agreeing : yX7_agreeing.cls ≠ "java/lang/invoke/MethodHandle" ∧ yX7_agreeing.cls ≠ "java/lang/invoke/VarHandle" ∧ (parseMethodDescriptor yX7_agreeing.desc).map (fun d => d.parameters.length) = some 1 := by decide +kernel
theorem hd_X7_parishesThere : yX7_parishesThere.cls ≠ "java/lang/invoke/MethodHandle" ∧ yX7_parishesThere.cls ≠ "java/lang/invoke/VarHandle" ∧ (parseMethodDescriptor yX7_parishesThere.desc).map (fun d => d.parameters.length) = some 0 := by decide +kernel
def f_X7_wouldCarry (w_there : Int32) (w_points : Nat → Int32) (xt : Int32) : Int32 :=
  (if (((2 : Int32) * (f_J6_bitCount_0f7a4 (f_X7_agreeing w_there w_points xt))) ≤ (f_X7_parishesThere w_there)) then (0 : Int32) else (1 : Int32))
set_option maxHeartbeats 4000000 in
set_option maxRecDepth 100000 in
theorem c_X7_wouldCarry (l : Launch) (D : va_G) (cI cJ cZ : ClassId) (w : Nat) (w_points_a : Nat) (w_tired_a : Nat) (w_near_a : Nat) (w_there : Int32) (w_free : Int32) (w_held : Int32) (w_wind : Int32) (w_oil : Int32) (w_hour : Int32) (w_sights : Int32) (w_agreedTo : Int32) (w_refused : Int32) (w_points : Nat → Int32) (xt : Int32) : RO l yX7_wouldCarry wsX7_wouldCarry ({ frames := 3, cells := 0, slots := 0, locals := 66 }) [.ref w, .int xt] D cI cJ cZ [(w, .inr (7, [.ref w_points_a, .ref w_tired_a, .ref w_near_a, .int w_there, .int w_free, .int w_held, .int w_wind, .int w_oil, .int w_hour, .int w_sights, .int w_agreedTo, .int w_refused])), (w_points_a, .inl (cI, 7, .inl w_points))] (.int (f_X7_wouldCarry w_there w_points xt)) := by
  obtain ⟨R, hR⟩ : ∃ R, (f_X7_wouldCarry w_there w_points xt) = R := ⟨_, rfl⟩
  rw [hR]
  refine ro_start (cc := cX7_wouldCarry) (maxL := 2) (ret := (some .boolean)) (by decide) rfl (Nat.le_of_ble_eq_true rfl) ?_
  intro p e s m args below meth c hx hb hr hml hown hts hlocks hP hK ls hl
  have hown : s.vm.findClass RX7 = some m.cls := hown
  have hl : lv_has ls 2 [(0, .ref w), (1, .int xt)] := hl
  rw [f_X7_wouldCarry] at hR
  refine lv_iconst (v := (2 : Int32)) hx hb dX7_wouldCarry_0 (by decide) ?_
  refine lv_aload_n hx hb dX7_wouldCarry_1 rfl (lv_at hl 0 rfl) ?_
  refine lv_iload_n hx hb dX7_wouldCarry_2 rfl (lv_at hl 1 rfl) ?_
  refine ro_V (As := [.int xt]) (rest := [.int (2 : Int32)]) ⟨hx, hb, hml, hown, hts⟩ hK (c_X7_agreeing l D cI cJ cZ w w_points_a w_tired_a w_near_a w_there w_free w_held w_wind w_oil w_hour w_sights w_agreedTo w_refused w_points xt) hP 0 rfl rfl (rw_sub hP [0, 1] rfl) (cwV 1 hts gX7_wouldCarry_X7_agreeing rfl rfl rfl ⟨rfl, hd_X7_agreeing⟩ ⟨(Nat.le_of_ble_eq_true rfl), (Nat.le_of_ble_eq_true rfl)⟩) rfl hl.1 rfl (Nat.le_of_ble_eq_true rfl) dX7_wouldCarry_3 (Nat.zero_le _) (Nat.zero_le _) ?_
  refine ro_S (As := [.int (f_X7_agreeing w_there w_points xt)]) (rest := [.int (2 : Int32)]) ⟨hx, hb, hml, hown, hts⟩ hK (c_J6_bitCount_0f7a4 l D cI cJ cZ (f_X7_agreeing w_there w_points xt)) va_P_nil (va_cwS 1 hts gX7_wouldCarry_J6_bitCount_0f7a4 rfl rfl rfl hd_J6_bitCount_0f7a4 ⟨(Nat.le_of_ble_eq_true rfl), (Nat.le_of_ble_eq_true rfl)⟩) rfl hl.1 rfl (Nat.le_of_ble_eq_true rfl) dX7_wouldCarry_6 (Nat.zero_le _) (Nat.zero_le _) ?_
  refine lv_imul hx hb dX7_wouldCarry_9 ?_
  refine lv_aload_n hx hb dX7_wouldCarry_10 rfl (lv_at hl 0 rfl) ?_
  refine ro_V (As := []) (rest := [.int ((2 : Int32) * (f_J6_bitCount_0f7a4 (f_X7_agreeing w_there w_points xt)))]) ⟨hx, hb, hml, hown, hts⟩ hK (c_X7_parishesThere l D cI cJ cZ w w_points_a w_tired_a w_near_a w_there w_free w_held w_wind w_oil w_hour w_sights w_agreedTo w_refused) hP 0 rfl rfl (rw_sub hP [0] rfl) (cwV 0 hts gX7_wouldCarry_X7_parishesThere rfl rfl rfl ⟨rfl, hd_X7_parishesThere⟩ ⟨(Nat.le_of_ble_eq_true rfl), (Nat.le_of_ble_eq_true rfl)⟩) rfl hl.1 rfl (Nat.le_of_ble_eq_true rfl) dX7_wouldCarry_11 (Nat.zero_le _) (Nat.zero_le _) ?_
  refine lv_icmp_le (tgt := 21) hx hb dX7_wouldCarry_14 (by decide) (fun c14 => ?_) (fun c14 => ?_)
  · rw [if_pos c14] at hR
    refine lv_iconst (v := (0 : Int32)) hx hb dX7_wouldCarry_21 (by decide) ?_
    subst hR
    exact ro_zret hx hb hr hlocks (Or.inl rfl) dX7_wouldCarry_22
  · rw [if_neg c14] at hR
    refine lv_iconst (v := (1 : Int32)) hx hb dX7_wouldCarry_17 (by decide) ?_
    refine lv_goto (tgt := 22) hx hb dX7_wouldCarry_18 (by decide) ?_
    subst hR
    exact ro_zret hx hb hr hlocks (Or.inr rfl) dX7_wouldCarry_22

theorem z_X7_wouldCarry (w_there : Int32) (w_points : Nat → Int32) (xt : Int32) : (f_X7_wouldCarry w_there w_points xt) = 0 ∨ (f_X7_wouldCarry w_there w_points xt) = 1 := by
  unfold f_X7_wouldCarry
  (repeat' split) <;> first | exact Or.inl rfl | exact Or.inr rfl


theorem in_X7_mostTired_X7 : ∀ w ∈ u_ws RX7 TX7 12, w ∈ wsX7_mostTired := by decide +kernel
def lp_X7_mostTired_7 (w_there : Int32) (w_tired : Nat → Int32) : Nat → Nat → Int32 → Int32 → Int32 × Int32
  | 0, _, v1_7, v2_7 => (v1_7, v2_7)
  | k7 + 1, i7, v1_7, v2_7 => (if ((f_X7_isThere w_there (nI i7)) = 0) then (lp_X7_mostTired_7 w_there w_tired k7 (i7 + 1) v1_7 v2_7) else (if ((w_tired i7) ≤ v2_7) then (lp_X7_mostTired_7 w_there w_tired k7 (i7 + 1) v1_7 v2_7) else (lp_X7_mostTired_7 w_there w_tired k7 (i7 + 1) (nI i7) (w_tired i7))))
def f_X7_mostTired (w_there : Int32) (w_tired : Nat → Int32) : Int32 :=
  (lp_X7_mostTired_7 w_there w_tired 7 0 (-6 : Int32) (-1 : Int32)).1
set_option maxHeartbeats 4000000 in
set_option maxRecDepth 100000 in
theorem c_X7_mostTired (l : Launch) (D : va_G) (cI cJ cZ : ClassId) (w : Nat) (w_points_a : Nat) (w_tired_a : Nat) (w_near_a : Nat) (w_there : Int32) (w_free : Int32) (w_held : Int32) (w_wind : Int32) (w_oil : Int32) (w_hour : Int32) (w_sights : Int32) (w_agreedTo : Int32) (w_refused : Int32) (w_tired : Nat → Int32) : RO l yX7_mostTired wsX7_mostTired ({ frames := 1, cells := 0, slots := 0, locals := 21 }) [.ref w] D cI cJ cZ [(w, .inr (7, [.ref w_points_a, .ref w_tired_a, .ref w_near_a, .int w_there, .int w_free, .int w_held, .int w_wind, .int w_oil, .int w_hour, .int w_sights, .int w_agreedTo, .int w_refused])), (w_tired_a, .inl (cI, 7, .inl w_tired))] (.int (f_X7_mostTired w_there w_tired)) := by
  obtain ⟨R, hR⟩ : ∃ R, (f_X7_mostTired w_there w_tired) = R := ⟨_, rfl⟩
  rw [hR]
  refine ro_start (cc := cX7_mostTired) (maxL := 4) (ret := (some .int)) (by decide) rfl (Nat.le_of_ble_eq_true rfl) ?_
  intro p e s m args below meth c hx hb hr hml hown hts hlocks hP hK ls hl
  have hown : s.vm.findClass RX7 = some m.cls := hown
  have hl : lv_has ls 4 [(0, .ref w)] := hl
  have hq0 := hts (.fieldLink RX7 15 "StuckVanes$World" "tired" "[I") (by decide +kernel)
  rw [f_X7_mostTired] at hR
  refine lv_bipush (v := (-6 : Int32)) hx hb dX7_mostTired_0 (by decide +kernel) ?_
  refine lv_istore_n (lv' := [(1, .int (-6 : Int32)), (0, .ref w)]) hx hb dX7_mostTired_2 rfl hl (by decide) rfl (fun ls hl => ?_)
  refine lv_iconst (v := (-1 : Int32)) hx hb dX7_mostTired_3 (by decide) ?_
  refine lv_istore_n (lv' := [(2, .int (-1 : Int32)), (1, .int (-6 : Int32)), (0, .ref w)]) hx hb dX7_mostTired_4 rfl hl (by decide) rfl (fun ls hl => ?_)
  refine lv_iconst (v := (0 : Int32)) hx hb dX7_mostTired_5 (by decide) ?_
  refine lv_istore_n (lv' := [(3, .int (0 : Int32)), (2, .int (-1 : Int32)), (1, .int (-6 : Int32)), (0, .ref w)]) hx hb dX7_mostTired_6 rfl hl (by decide) rfl (fun ls hl => ?_)
  obtain ⟨F7_1, hF7_1⟩ : ∃ x, (lp_X7_mostTired_7 w_there w_tired 7 0 (-6 : Int32) (-1 : Int32)) = x := ⟨_, rfl⟩
  try rw [hF7_1] at hR
  have hexit7 : ∀ (ls : Array Slot), lv_has ls 4 [(2, .int F7_1.2), (1, .int F7_1.1), (0, .ref w)] → W p l e ({ frames := 1, cells := 0, slots := 0, locals := 21 }) s m args below meth c s.heap [] 0 0 (MQ below (ro_Q (.int R)) args s 0 0 (fun _ => False)) (F0 m 46 ls []) := by
    intro ls hl
    refine lv_iload_n hx hb dX7_mostTired_46 rfl (lv_at hl 1 rfl) ?_
    subst hR
    exact ro_iret hx hb hr hlocks dX7_mostTired_47
  have hloop7 : ∀ (k7 i7 : Nat) (v1_7 : Int32) (v2_7 : Int32), i7 + k7 = 7 → ∀ (ls : Array Slot), lv_has ls 4 [(3, .int (nI i7)), (2, .int v2_7), (1, .int v1_7), (0, .ref w)] → lp_X7_mostTired_7 w_there w_tired k7 i7 v1_7 v2_7 = F7_1 → W p l e ({ frames := 1, cells := 0, slots := 0, locals := 21 }) s m args below meth c s.heap [] 0 0 (MQ below (ro_Q (.int R)) args s 0 0 (fun _ => False)) (F0 m 7 ls []) := by
    intro k7
    induction k7 with
    | zero =>
      intro i7 v1_7 v2_7 h7  ls hl hR
      obtain rfl : 7 = i7 := by omega
      rw [lp_X7_mostTired_7] at hR
      refine lv_iload_n hx hb dX7_mostTired_7 rfl (lv_at hl 0 rfl) ?_
      refine lv_bipush (v := (7 : Int32)) hx hb dX7_mostTired_8 (by decide +kernel) ?_
      refine lv_icmp_ge (tgt := 46) hx hb dX7_mostTired_10 (by decide) (fun _ => ?_) (fun h => absurd (cle_t (a := 7) (b := 7) rfl rfl (by omega) (by omega)) h)
      subst hR
      exact hexit7 _ (lv_sub hl [1, 2, 3] rfl)
    | succ k7 ih7 =>
      intro i7 v1_7 v2_7 h7  ls hl hR
      rw [lp_X7_mostTired_7] at hR
      refine lv_iload_n hx hb dX7_mostTired_7 rfl (lv_at hl 0 rfl) ?_
      refine lv_bipush (v := (7 : Int32)) hx hb dX7_mostTired_8 (by decide +kernel) ?_
      refine lv_icmp_ge (tgt := 46) hx hb dX7_mostTired_10 (by decide) (fun h => absurd h (cle_f (a := 7) (b := i7) rfl rfl (by omega) (by omega))) (fun _ => ?_)
      refine lv_aload_n hx hb dX7_mostTired_13 rfl (lv_at hl 3 rfl) ?_
      refine lv_iload_n hx hb dX7_mostTired_14 rfl (lv_at hl 0 rfl) ?_
      refine ro_V (As := [.int (nI i7)]) (rest := []) ⟨hx, hb, hml, hown, hts⟩ hK (c_X7_isThere l D cI cJ cZ w w_points_a w_tired_a w_near_a w_there w_free w_held w_wind w_oil w_hour w_sights w_agreedTo w_refused (nI i7)) hP 0 rfl rfl (rw_sub hP [0] rfl) (cwV 1 hts gX7_mostTired_X7_isThere rfl rfl rfl ⟨rfl, hd_X7_isThere⟩ ⟨(Nat.le_of_ble_eq_true rfl), (Nat.le_of_ble_eq_true rfl)⟩) rfl hl.1 rfl (Nat.le_of_ble_eq_true rfl) dX7_mostTired_15 (Nat.zero_le _) (Nat.zero_le _) ?_
      refine lv_if_eq (tgt := 40) hx hb dX7_mostTired_18 (by decide) (fun c18 => ?_) (fun c18 => ?_)
      · rw [if_pos c18] at hR
        refine lv_iinc (v := (nI (i7 + 1))) (lv' := [(3, .int (nI (i7 + 1))), (2, .int v2_7), (1, .int v1_7), (0, .ref w)]) hx hb dX7_mostTired_40 hl (k := 0) rfl (by exact nI_add i7 1) (by decide) rfl (fun ls hl => ?_)
        refine lv_goto (tgt := 7) hx hb dX7_mostTired_43 (by decide) ?_
        exact ih7 _ _ _ (by omega) _ (lv_sub hl [0, 1, 2, 3] rfl) hR
      · rw [if_neg c18] at hR
        refine lv_aload_n hx hb dX7_mostTired_21 rfl (lv_at hl 3 rfl) ?_
        refine va_get (D := D) (ci := 7) (v := .ref w_tired_a) (C := RX7) (T := TX7) (N := 12) hx hb hts in_X7_mostTired_X7 hown hK.1 hP 0 rfl rfl 1 (by decide) hq0 (fun _ h9 => h9) rfl dX7_mostTired_22 ?_
        refine lv_iload_n hx hb dX7_mostTired_25 rfl (lv_at hl 0 rfl) ?_
        refine ia_ld hx hb hK hP 1 rfl (i := i7) (by omega) (by decide) dX7_mostTired_26 ?_
        refine lv_iload_n hx hb dX7_mostTired_27 rfl (lv_at hl 1 rfl) ?_
        refine lv_icmp_le (tgt := 40) hx hb dX7_mostTired_28 (by decide) (fun c28 => ?_) (fun c28 => ?_)
        · rw [if_pos c28] at hR
          refine lv_iinc (v := (nI (i7 + 1))) (lv' := [(3, .int (nI (i7 + 1))), (2, .int v2_7), (1, .int v1_7), (0, .ref w)]) hx hb dX7_mostTired_40 hl (k := 0) rfl (by exact nI_add i7 1) (by decide) rfl (fun ls hl => ?_)
          refine lv_goto (tgt := 7) hx hb dX7_mostTired_43 (by decide) ?_
          exact ih7 _ _ _ (by omega) _ (lv_sub hl [0, 1, 2, 3] rfl) hR
        · rw [if_neg c28] at hR
          refine lv_iload_n hx hb dX7_mostTired_31 rfl (lv_at hl 0 rfl) ?_
          refine lv_istore_n (lv' := [(1, .int (nI i7)), (3, .int (nI i7)), (2, .int v2_7), (0, .ref w)]) hx hb dX7_mostTired_32 rfl hl (by decide) rfl (fun ls hl => ?_)
          refine lv_aload_n hx hb dX7_mostTired_33 rfl (lv_at hl 3 rfl) ?_
          refine va_get (D := D) (ci := 7) (v := .ref w_tired_a) (C := RX7) (T := TX7) (N := 12) hx hb hts in_X7_mostTired_X7 hown hK.1 hP 0 rfl rfl 1 (by decide) hq0 (fun _ h9 => h9) rfl dX7_mostTired_34 ?_
          refine lv_iload_n hx hb dX7_mostTired_37 rfl (lv_at hl 1 rfl) ?_
          refine ia_ld hx hb hK hP 1 rfl (i := i7) (by omega) (by decide) dX7_mostTired_38 ?_
          refine lv_istore_n (lv' := [(2, .int (w_tired i7)), (1, .int (nI i7)), (3, .int (nI i7)), (0, .ref w)]) hx hb dX7_mostTired_39 rfl hl (by decide) rfl (fun ls hl => ?_)
          refine lv_iinc (v := (nI (i7 + 1))) (lv' := [(3, .int (nI (i7 + 1))), (2, .int (w_tired i7)), (1, .int (nI i7)), (0, .ref w)]) hx hb dX7_mostTired_40 hl (k := 2) rfl (by exact nI_add i7 1) (by decide) rfl (fun ls hl => ?_)
          refine lv_goto (tgt := 7) hx hb dX7_mostTired_43 (by decide) ?_
          exact ih7 _ _ _ (by omega) _ (lv_sub hl [0, 1, 2, 3] rfl) hR
  exact hloop7 7 0 _ _ (by omega) _ hl hF7_1


theorem in_X7_tiredInAll_X7 : ∀ w ∈ u_ws RX7 TX7 12, w ∈ wsX7_tiredInAll := by decide +kernel
def lp_X7_tiredInAll_4 (w_there : Int32) (w_tired : Nat → Int32) : Nat → Nat → Int32 → Int32
  | 0, _, v1_4 => v1_4
  | k4 + 1, i4, v1_4 => (if ((f_X7_isThere w_there (nI i4)) = 0) then (lp_X7_tiredInAll_4 w_there w_tired k4 (i4 + 1) (v1_4 + (0 : Int32))) else (lp_X7_tiredInAll_4 w_there w_tired k4 (i4 + 1) (v1_4 + (w_tired i4))))
def f_X7_tiredInAll (w_there : Int32) (w_tired : Nat → Int32) : Int32 :=
  (lp_X7_tiredInAll_4 w_there w_tired 7 0 (0 : Int32))
set_option maxHeartbeats 4000000 in
set_option maxRecDepth 100000 in
theorem c_X7_tiredInAll (l : Launch) (D : va_G) (cI cJ cZ : ClassId) (w : Nat) (w_points_a : Nat) (w_tired_a : Nat) (w_near_a : Nat) (w_there : Int32) (w_free : Int32) (w_held : Int32) (w_wind : Int32) (w_oil : Int32) (w_hour : Int32) (w_sights : Int32) (w_agreedTo : Int32) (w_refused : Int32) (w_tired : Nat → Int32) : RO l yX7_tiredInAll wsX7_tiredInAll ({ frames := 1, cells := 0, slots := 0, locals := 21 }) [.ref w] D cI cJ cZ [(w, .inr (7, [.ref w_points_a, .ref w_tired_a, .ref w_near_a, .int w_there, .int w_free, .int w_held, .int w_wind, .int w_oil, .int w_hour, .int w_sights, .int w_agreedTo, .int w_refused])), (w_tired_a, .inl (cI, 7, .inl w_tired))] (.int (f_X7_tiredInAll w_there w_tired)) := by
  obtain ⟨R, hR⟩ : ∃ R, (f_X7_tiredInAll w_there w_tired) = R := ⟨_, rfl⟩
  rw [hR]
  refine ro_start (cc := cX7_tiredInAll) (maxL := 3) (ret := (some .int)) (by decide) rfl (Nat.le_of_ble_eq_true rfl) ?_
  intro p e s m args below meth c hx hb hr hml hown hts hlocks hP hK ls hl
  have hown : s.vm.findClass RX7 = some m.cls := hown
  have hl : lv_has ls 3 [(0, .ref w)] := hl
  have hq0 := hts (.fieldLink RX7 15 "StuckVanes$World" "tired" "[I") (by decide +kernel)
  rw [f_X7_tiredInAll] at hR
  refine lv_iconst (v := (0 : Int32)) hx hb dX7_tiredInAll_0 (by decide) ?_
  refine lv_istore_n (lv' := [(1, .int (0 : Int32)), (0, .ref w)]) hx hb dX7_tiredInAll_1 rfl hl (by decide) rfl (fun ls hl => ?_)
  refine lv_iconst (v := (0 : Int32)) hx hb dX7_tiredInAll_2 (by decide) ?_
  refine lv_istore_n (lv' := [(2, .int (0 : Int32)), (1, .int (0 : Int32)), (0, .ref w)]) hx hb dX7_tiredInAll_3 rfl hl (by decide) rfl (fun ls hl => ?_)
  obtain ⟨F4_1, hF4_1⟩ : ∃ x, (lp_X7_tiredInAll_4 w_there w_tired 7 0 (0 : Int32)) = x := ⟨_, rfl⟩
  try rw [hF4_1] at hR
  have hexit4 : ∀ (ls : Array Slot), lv_has ls 3 [(1, .int F4_1), (0, .ref w)] → W p l e ({ frames := 1, cells := 0, slots := 0, locals := 21 }) s m args below meth c s.heap [] 0 0 (MQ below (ro_Q (.int R)) args s 0 0 (fun _ => False)) (F0 m 37 ls []) := by
    intro ls hl
    refine lv_iload_n hx hb dX7_tiredInAll_37 rfl (lv_at hl 0 rfl) ?_
    subst hR
    exact ro_iret hx hb hr hlocks dX7_tiredInAll_38
  have hloop4 : ∀ (k4 i4 : Nat) (v1_4 : Int32), i4 + k4 = 7 → ∀ (ls : Array Slot), lv_has ls 3 [(2, .int (nI i4)), (1, .int v1_4), (0, .ref w)] → lp_X7_tiredInAll_4 w_there w_tired k4 i4 v1_4 = F4_1 → W p l e ({ frames := 1, cells := 0, slots := 0, locals := 21 }) s m args below meth c s.heap [] 0 0 (MQ below (ro_Q (.int R)) args s 0 0 (fun _ => False)) (F0 m 4 ls []) := by
    intro k4
    induction k4 with
    | zero =>
      intro i4 v1_4 h4  ls hl hR
      obtain rfl : 7 = i4 := by omega
      rw [lp_X7_tiredInAll_4] at hR
      refine lv_iload_n hx hb dX7_tiredInAll_4 rfl (lv_at hl 0 rfl) ?_
      refine lv_bipush (v := (7 : Int32)) hx hb dX7_tiredInAll_5 (by decide +kernel) ?_
      refine lv_icmp_ge (tgt := 37) hx hb dX7_tiredInAll_7 (by decide) (fun _ => ?_) (fun h => absurd (cle_t (a := 7) (b := 7) rfl rfl (by omega) (by omega)) h)
      subst hR
      exact hexit4 _ (lv_sub hl [1, 2] rfl)
    | succ k4 ih4 =>
      intro i4 v1_4 h4  ls hl hR
      rw [lp_X7_tiredInAll_4] at hR
      refine lv_iload_n hx hb dX7_tiredInAll_4 rfl (lv_at hl 0 rfl) ?_
      refine lv_bipush (v := (7 : Int32)) hx hb dX7_tiredInAll_5 (by decide +kernel) ?_
      refine lv_icmp_ge (tgt := 37) hx hb dX7_tiredInAll_7 (by decide) (fun h => absurd h (cle_f (a := 7) (b := i4) rfl rfl (by omega) (by omega))) (fun _ => ?_)
      refine lv_iload_n hx hb dX7_tiredInAll_10 rfl (lv_at hl 1 rfl) ?_
      refine lv_aload_n hx hb dX7_tiredInAll_11 rfl (lv_at hl 2 rfl) ?_
      refine lv_iload_n hx hb dX7_tiredInAll_12 rfl (lv_at hl 0 rfl) ?_
      refine ro_V (As := [.int (nI i4)]) (rest := [.int v1_4]) ⟨hx, hb, hml, hown, hts⟩ hK (c_X7_isThere l D cI cJ cZ w w_points_a w_tired_a w_near_a w_there w_free w_held w_wind w_oil w_hour w_sights w_agreedTo w_refused (nI i4)) hP 0 rfl rfl (rw_sub hP [0] rfl) (cwV 1 hts gX7_tiredInAll_X7_isThere rfl rfl rfl ⟨rfl, hd_X7_isThere⟩ ⟨(Nat.le_of_ble_eq_true rfl), (Nat.le_of_ble_eq_true rfl)⟩) rfl hl.1 rfl (Nat.le_of_ble_eq_true rfl) dX7_tiredInAll_13 (Nat.zero_le _) (Nat.zero_le _) ?_
      refine lv_if_eq (tgt := 28) hx hb dX7_tiredInAll_16 (by decide) (fun c16 => ?_) (fun c16 => ?_)
      · rw [if_pos c16] at hR
        refine lv_iconst (v := (0 : Int32)) hx hb dX7_tiredInAll_28 (by decide) ?_
        refine lv_iadd hx hb dX7_tiredInAll_29 ?_
        refine lv_istore_n (lv' := [(1, .int (v1_4 + (0 : Int32))), (2, .int (nI i4)), (0, .ref w)]) hx hb dX7_tiredInAll_30 rfl hl (by decide) rfl (fun ls hl => ?_)
        refine lv_iinc (v := (nI (i4 + 1))) (lv' := [(2, .int (nI (i4 + 1))), (1, .int (v1_4 + (0 : Int32))), (0, .ref w)]) hx hb dX7_tiredInAll_31 hl (k := 1) rfl (by exact nI_add i4 1) (by decide) rfl (fun ls hl => ?_)
        refine lv_goto (tgt := 4) hx hb dX7_tiredInAll_34 (by decide) ?_
        exact ih4 _ _ (by omega) _ (lv_sub hl [0, 1, 2] rfl) hR
      · rw [if_neg c16] at hR
        refine lv_aload_n hx hb dX7_tiredInAll_19 rfl (lv_at hl 2 rfl) ?_
        refine va_get (D := D) (ci := 7) (v := .ref w_tired_a) (C := RX7) (T := TX7) (N := 12) hx hb hts in_X7_tiredInAll_X7 hown hK.1 hP 0 rfl rfl 1 (by decide) hq0 (fun _ h9 => h9) rfl dX7_tiredInAll_20 ?_
        refine lv_iload_n hx hb dX7_tiredInAll_23 rfl (lv_at hl 0 rfl) ?_
        refine ia_ld hx hb hK hP 1 rfl (i := i4) (by omega) (by decide) dX7_tiredInAll_24 ?_
        refine lv_goto (tgt := 29) hx hb dX7_tiredInAll_25 (by decide) ?_
        refine lv_iadd hx hb dX7_tiredInAll_29 ?_
        refine lv_istore_n (lv' := [(1, .int (v1_4 + (w_tired i4))), (2, .int (nI i4)), (0, .ref w)]) hx hb dX7_tiredInAll_30 rfl hl (by decide) rfl (fun ls hl => ?_)
        refine lv_iinc (v := (nI (i4 + 1))) (lv' := [(2, .int (nI (i4 + 1))), (1, .int (v1_4 + (w_tired i4))), (0, .ref w)]) hx hb dX7_tiredInAll_31 hl (k := 1) rfl (by exact nI_add i4 1) (by decide) rfl (fun ls hl => ?_)
        refine lv_goto (tgt := 4) hx hb dX7_tiredInAll_34 (by decide) ?_
        exact ih4 _ _ (by omega) _ (lv_sub hl [0, 1, 2] rfl) hR
  exact hloop4 7 0 _ (by omega) _ hl hF4_1


theorem in_X7_tell_X7 : ∀ w ∈ u_ws RX7 TX7 12, w ∈ wsX7_tell := by decide +kernel
theorem hd_X8_hasBit : yX8_hasBit.cls ≠ "java/lang/invoke/MethodHandle" ∧ yX8_hasBit.cls ≠ "java/lang/invoke/VarHandle" ∧ (parseMethodDescriptor yX8_hasBit.desc).map (fun d => d.parameters.length) = some 2 := by decide +kernel
def f_X7_tell (w_there : Int32) (w_free : Int32) (w_points : Nat → Int32) (w_tired : Nat → Int32) (xp : Int32) (xk : Int32) : Int32 :=
  (if ((f_X7_isThere w_there xp) = 0) then (-1 : Int32) else (if (xk = 0) then (w_points xp.toNatClampNeg) else (if (xk = (1 : Int32)) then (w_tired xp.toNatClampNeg) else (if ((f_X8_hasBit w_free xp) = 0) then (0 : Int32) else (1 : Int32)))))
set_option maxHeartbeats 4000000 in
set_option maxRecDepth 100000 in
theorem c_X7_tell (l : Launch) (D : va_G) (cI cJ cZ : ClassId) (w : Nat) (w_points_a : Nat) (w_tired_a : Nat) (w_near_a : Nat) (w_there : Int32) (w_free : Int32) (w_held : Int32) (w_wind : Int32) (w_oil : Int32) (w_hour : Int32) (w_sights : Int32) (w_agreedTo : Int32) (w_refused : Int32) (w_points : Nat → Int32) (w_tired : Nat → Int32) (xp : Int32) (xk : Int32) : RO l yX7_tell wsX7_tell ({ frames := 1, cells := 0, slots := 0, locals := 21 }) [.ref w, .int xp, .int xk] D cI cJ cZ [(w, .inr (7, [.ref w_points_a, .ref w_tired_a, .ref w_near_a, .int w_there, .int w_free, .int w_held, .int w_wind, .int w_oil, .int w_hour, .int w_sights, .int w_agreedTo, .int w_refused])), (w_points_a, .inl (cI, 7, .inl w_points)), (w_tired_a, .inl (cI, 7, .inl w_tired))] (.int (f_X7_tell w_there w_free w_points w_tired xp xk)) := by
  obtain ⟨R, hR⟩ : ∃ R, (f_X7_tell w_there w_free w_points w_tired xp xk) = R := ⟨_, rfl⟩
  rw [hR]
  refine ro_start (cc := cX7_tell) (maxL := 3) (ret := (some .int)) (by decide) rfl (Nat.le_of_ble_eq_true rfl) ?_
  intro p e s m args below meth c hx hb hr hml hown hts hlocks hP hK ls hl
  have hown : s.vm.findClass RX7 = some m.cls := hown
  have hl : lv_has ls 3 [(0, .ref w), (1, .int xp), (2, .int xk)] := hl
  have hq0 := hts (.fieldLink RX7 9 "StuckVanes$World" "points" "[I") (by decide +kernel)
  have hq1 := hts (.fieldLink RX7 15 "StuckVanes$World" "tired" "[I") (by decide +kernel)
  have hq2 := hts (.fieldLink RX7 28 "StuckVanes$World" "free" "I") (by decide +kernel)
  have hq3 := hts (.initialized RX8) (by decide +kernel)
  have hq4 := hts (.static yX8_hasBit) (by decide +kernel)
  rw [f_X7_tell] at hR
  refine lv_aload_n hx hb dX7_tell_0 rfl (lv_at hl 0 rfl) ?_
  refine lv_iload_n hx hb dX7_tell_1 rfl (lv_at hl 1 rfl) ?_
  refine ro_V (As := [.int xp]) (rest := []) ⟨hx, hb, hml, hown, hts⟩ hK (c_X7_isThere l D cI cJ cZ w w_points_a w_tired_a w_near_a w_there w_free w_held w_wind w_oil w_hour w_sights w_agreedTo w_refused xp) hP 0 rfl rfl (rw_sub hP [0] rfl) (cwV 1 hts gX7_tell_X7_isThere rfl rfl rfl ⟨rfl, hd_X7_isThere⟩ ⟨(Nat.le_of_ble_eq_true rfl), (Nat.le_of_ble_eq_true rfl)⟩) rfl hl.1 rfl (Nat.le_of_ble_eq_true rfl) dX7_tell_2 (Nat.zero_le _) (Nat.zero_le _) ?_
  refine lv_if_ne (tgt := 10) hx hb dX7_tell_5 (by decide) (fun c5 => ?_) (fun c5 => ?_)
  · rw [if_neg c5] at hR
    refine lv_iload_n hx hb dX7_tell_10 rfl (lv_at hl 2 rfl) ?_
    refine lv_if_ne (tgt := 21) hx hb dX7_tell_11 (by decide) (fun c11 => ?_) (fun c11 => ?_)
    · rw [if_neg c11] at hR
      refine lv_iload_n hx hb dX7_tell_21 rfl (lv_at hl 2 rfl) ?_
      refine lv_iconst (v := (1 : Int32)) hx hb dX7_tell_22 (by decide) ?_
      refine lv_icmp_ne (tgt := 33) hx hb dX7_tell_23 (by decide) (fun c23 => ?_) (fun c23 => ?_)
      · rw [if_neg c23] at hR
        refine lv_aload_n hx hb dX7_tell_33 rfl (lv_at hl 0 rfl) ?_
        refine va_get (D := D) (ci := 7) (v := .int w_free) (C := RX7) (T := TX7) (N := 12) hx hb hts in_X7_tell_X7 hown hK.1 hP 0 rfl rfl 4 (by decide) hq2 (fun _ h9 => h9) rfl dX7_tell_34 ?_
        refine lv_iload_n hx hb dX7_tell_37 rfl (lv_at hl 1 rfl) ?_
        refine ro_SN (As := [.int w_free, .int xp]) (rest := []) ⟨hx, hb, hml, hown, hts⟩ hK (c_X8_hasBit l D cI cJ cZ w_free xp) va_P_nil (va_cnB 2 hts gX7_tell_X8_hasBit_n66 rfl rfl rfl (hK.2 _ gN_39) hq3 hd_X8_hasBit ⟨(Nat.le_of_ble_eq_true rfl), (Nat.le_of_ble_eq_true rfl)⟩) hq4 rfl hl.1 rfl (Nat.le_of_ble_eq_true rfl) dX7_tell_38 (Nat.zero_le _) (Nat.zero_le _) ?_
        refine lv_if_eq (tgt := 48) hx hb dX7_tell_41 (by decide) (fun c41 => ?_) (fun c41 => ?_)
        · rw [if_pos c41] at hR
          refine lv_iconst (v := (0 : Int32)) hx hb dX7_tell_48 (by decide) ?_
          subst hR
          exact ro_iret hx hb hr hlocks dX7_tell_49
        · rw [if_neg c41] at hR
          refine lv_iconst (v := (1 : Int32)) hx hb dX7_tell_44 (by decide) ?_
          refine lv_goto (tgt := 49) hx hb dX7_tell_45 (by decide) ?_
          subst hR
          exact ro_iret hx hb hr hlocks dX7_tell_49
      · rw [if_pos c23] at hR
        refine lv_aload_n hx hb dX7_tell_26 rfl (lv_at hl 0 rfl) ?_
        refine va_get (D := D) (ci := 7) (v := .ref w_tired_a) (C := RX7) (T := TX7) (N := 12) hx hb hts in_X7_tell_X7 hown hK.1 hP 0 rfl rfl 1 (by decide) hq1 (fun _ h9 => h9) rfl dX7_tell_27 ?_
        refine lv_iload_n hx hb dX7_tell_30 rfl (lv_at hl 1 rfl) ?_
        refine va_iald hx hb hK.1 hP 2 0 rfl rfl (vp_there c5) dX7_tell_31 ?_
        subst hR
        exact ro_iret hx hb hr hlocks dX7_tell_32
    · rw [if_pos c11] at hR
      refine lv_aload_n hx hb dX7_tell_14 rfl (lv_at hl 0 rfl) ?_
      refine va_get (D := D) (ci := 7) (v := .ref w_points_a) (C := RX7) (T := TX7) (N := 12) hx hb hts in_X7_tell_X7 hown hK.1 hP 0 rfl rfl 0 (by decide) hq0 (fun _ h9 => h9) rfl dX7_tell_15 ?_
      refine lv_iload_n hx hb dX7_tell_18 rfl (lv_at hl 1 rfl) ?_
      refine va_iald hx hb hK.1 hP 1 0 rfl rfl (vp_there c5) dX7_tell_19 ?_
      subst hR
      exact ro_iret hx hb hr hlocks dX7_tell_20
  · rw [if_pos c5] at hR
    refine lv_iconst (v := (-1 : Int32)) hx hb dX7_tell_8 (by decide) ?_
    subst hR
    exact ro_iret hx hb hr hlocks dX7_tell_9


theorem in_X7_settle_X7 : ∀ w ∈ u_ws RX7 TX7 12, w ∈ wsX7_settle := by decide +kernel
theorem hd_X8_isParish : yX8_isParish.cls ≠ "java/lang/invoke/MethodHandle" ∧ yX8_isParish.cls ≠ "java/lang/invoke/VarHandle" ∧ (parseMethodDescriptor yX8_isParish.desc).map (fun d => d.parameters.length) = some 1 := by decide +kernel
def f_X7_settle (w_there : Int32) (w_free : Int32) (w_points : Nat → Int32) (w_tired : Nat → Int32) (xp : Int32) (xw : Int32) (xf : Int32) (xt : Int32) : Int32 × Int32 × (Nat → Int32) × (Nat → Int32) :=
  (if ((f_X8_isParish xp) = 0) then (w_there, w_free, w_points, w_tired) else ((f_X8_withBit w_there xp (1 : Int32)), (f_X8_withBit w_free xp xf), (upd w_points xp.toNatClampNeg xw), (upd w_tired xp.toNatClampNeg xt)))
set_option maxHeartbeats 4000000 in
set_option maxRecDepth 100000 in
theorem c_X7_settle (l : Launch) (D : va_G) (cI cJ cZ : ClassId) (w : Nat) (w_points_a : Nat) (w_tired_a : Nat) (w_near_a : Nat) (w_there : Int32) (w_free : Int32) (w_held : Int32) (w_wind : Int32) (w_oil : Int32) (w_hour : Int32) (w_sights : Int32) (w_agreedTo : Int32) (w_refused : Int32) (w_points : Nat → Int32) (w_tired : Nat → Int32) (xp : Int32) (xw : Int32) (xf : Int32) (xt : Int32) : RW l yX7_settle wsX7_settle ({ frames := 2, cells := 0, slots := 0, locals := 41 }) [.ref w, .int xp, .int xw, .int xf, .int xt] D cI cJ cZ [(w, .inr (7, [.ref w_points_a, .ref w_tired_a, .ref w_near_a, .int w_there, .int w_free, .int w_held, .int w_wind, .int w_oil, .int w_hour, .int w_sights, .int w_agreedTo, .int w_refused])), (w_points_a, .inl (cI, 7, .inl w_points)), (w_tired_a, .inl (cI, 7, .inl w_tired))] none [(w, .inr (7, [.ref w_points_a, .ref w_tired_a, .ref w_near_a, .int ((f_X7_settle w_there w_free w_points w_tired xp xw xf xt).1), .int ((f_X7_settle w_there w_free w_points w_tired xp xw xf xt).2.1), .int w_held, .int w_wind, .int w_oil, .int w_hour, .int w_sights, .int w_agreedTo, .int w_refused])), (w_points_a, .inl (cI, 7, .inl ((f_X7_settle w_there w_free w_points w_tired xp xw xf xt).2.2.1))), (w_tired_a, .inl (cI, 7, .inl ((f_X7_settle w_there w_free w_points w_tired xp xw xf xt).2.2.2)))] := by
  obtain ⟨R0, R1, R2, R3, hR⟩ := prodE4 (f_X7_settle w_there w_free w_points w_tired xp xw xf xt)
  rw [hR]
  dsimp only
  refine rw_start (cc := cX7_settle) (maxL := 5) (ret := none) (by decide) rfl (Nat.le_of_ble_eq_true rfl) ?_
  intro p e s m args below meth c hx hb hr hml hown hts hlocks hP hD hS hK ls hl
  have hown : s.vm.findClass RX7 = some m.cls := hown
  have hl : lv_has ls 5 [(0, .ref w), (1, .int xp), (2, .int xw), (3, .int xf), (4, .int xt)] := hl
  have hq0 := hts (.initialized RX8) (by decide +kernel)
  have hq1 := hts (.static yX8_isParish) (by decide +kernel)
  have hq2 := hts (.fieldLink RX7 25 "StuckVanes$World" "there" "I") (by decide +kernel)
  have hq3 := hts (.static yX8_withBit) (by decide +kernel)
  have hq4 := hts (.fieldLink RX7 9 "StuckVanes$World" "points" "[I") (by decide +kernel)
  have hq5 := hts (.fieldLink RX7 28 "StuckVanes$World" "free" "I") (by decide +kernel)
  have hq6 := hts (.fieldLink RX7 15 "StuckVanes$World" "tired" "[I") (by decide +kernel)
  rw [f_X7_settle] at hR
  refine lv_iload_n hx hb dX7_settle_0 rfl (lv_at hl 1 rfl) ?_
  refine ro_SN (As := [.int xp]) (rest := []) ⟨hx, hb, hml, hown, hts⟩ hK (c_X8_isParish l D cI cJ cZ xp) va_P_nil (va_cnB 1 hts gX7_settle_X8_isParish_n49 rfl rfl rfl (hK.2 _ gN_35) hq0 hd_X8_isParish ⟨(Nat.le_of_ble_eq_true rfl), (Nat.le_of_ble_eq_true rfl)⟩) hq1 rfl hl.1 rfl (Nat.le_of_ble_eq_true rfl) dX7_settle_1 (Nat.zero_le _) (Nat.zero_le _) ?_
  refine lv_if_eq (tgt := 48) hx hb dX7_settle_4 (by decide) (fun c4 => ?_) (fun c4 => ?_)
  · rw [if_pos c4] at hR
    obtain ⟨rfl, rfl, rfl, rfl⟩ := prodI4 hR
    exact rw_vret hx hb hr hlocks hP hS dX7_settle_48
  · rw [if_neg c4] at hR
    refine lv_aload_n hx hb dX7_settle_7 rfl (lv_at hl 0 rfl) ?_
    refine lv_aload_n hx hb dX7_settle_8 rfl (lv_at hl 0 rfl) ?_
    refine va_get (D := D) (ci := 7) (v := .int w_there) (C := RX7) (T := TX7) (N := 12) hx hb hts in_X7_settle_X7 hown hK.1 hP 0 rfl rfl 3 (by decide) hq2 (fun _ h9 => h9) rfl dX7_settle_9 ?_
    refine lv_iload_n hx hb dX7_settle_12 rfl (lv_at hl 1 rfl) ?_
    refine lv_iconst (v := (1 : Int32)) hx hb dX7_settle_13 (by decide) ?_
    refine ro_SN (As := [.int w_there, .int xp, .int (1 : Int32)]) (rest := [.ref w]) ⟨hx, hb, hml, hown, hts⟩ hK (c_X8_withBit l D cI cJ cZ w_there xp (1 : Int32)) va_P_nil (va_cnB 3 hts gX7_settle_X8_withBit_n53 rfl rfl rfl (hK.2 _ gN_36) hq0 hd_X8_withBit ⟨(Nat.le_of_ble_eq_true rfl), (Nat.le_of_ble_eq_true rfl)⟩) hq3 rfl hl.1 rfl (Nat.le_of_ble_eq_true rfl) dX7_settle_14 (Nat.zero_le _) (Nat.zero_le _) ?_
    refine va_put (D := D) (ci := 7) (v := .int (f_X8_withBit w_there xp (1 : Int32))) (ty := .int) (C := RX7) (T := TX7) (N := 12) hx hb hts in_X7_settle_X7 tyX7 tyX7_ok nmX7 hown hK.1 hP hD hS 0 rfl rfl 3 (by decide) hq2 (fun _ h9 => h9) rfl (by decide +kernel) rfl rfl (Nat.le_of_ble_eq_true rfl) dX7_settle_17 (fun H locs hP hD hS => ?_)
    have hP : va_P D vwCl [(w, .inr (7, [.ref w_points_a, .ref w_tired_a, .ref w_near_a, .int (f_X8_withBit w_there xp (1 : Int32)), .int w_free, .int w_held, .int w_wind, .int w_oil, .int w_hour, .int w_sights, .int w_agreedTo, .int w_refused])), (w_points_a, .inl (cI, 7, .inl w_points)), (w_tired_a, .inl (cI, 7, .inl w_tired))] H := hP
    have hD : va_D _ [(w, .inr (7, [.ref w_points_a, .ref w_tired_a, .ref w_near_a, .int (f_X8_withBit w_there xp (1 : Int32)), .int w_free, .int w_held, .int w_wind, .int w_oil, .int w_hour, .int w_sights, .int w_agreedTo, .int w_refused])), (w_points_a, .inl (cI, 7, .inl w_points)), (w_tired_a, .inl (cI, 7, .inl w_tired))] := hD
    refine lv_aload_n hx hb dX7_settle_20 rfl (lv_at hl 0 rfl) ?_
    refine va_get (D := D) (ci := 7) (v := .ref w_points_a) (C := RX7) (T := TX7) (N := 12) hx hb hts in_X7_settle_X7 hown hK.1 hP 0 rfl rfl 0 (by decide) hq4 (fun _ h9 => h9) rfl dX7_settle_21 ?_
    refine lv_iload_n hx hb dX7_settle_24 rfl (lv_at hl 1 rfl) ?_
    refine lv_iload_n hx hb dX7_settle_25 rfl (lv_at hl 2 rfl) ?_
    refine va_iast hx hb hK.1 hP hD hS 1 0 rfl rfl (vp_isParish c4) dX7_settle_26 (fun H locs hP hD hS => ?_)
    have hP : va_P D vwCl [(w, .inr (7, [.ref w_points_a, .ref w_tired_a, .ref w_near_a, .int (f_X8_withBit w_there xp (1 : Int32)), .int w_free, .int w_held, .int w_wind, .int w_oil, .int w_hour, .int w_sights, .int w_agreedTo, .int w_refused])), (w_points_a, .inl (cI, 7, .inl (upd w_points xp.toNatClampNeg xw))), (w_tired_a, .inl (cI, 7, .inl w_tired))] H := hP
    have hD : va_D _ [(w, .inr (7, [.ref w_points_a, .ref w_tired_a, .ref w_near_a, .int (f_X8_withBit w_there xp (1 : Int32)), .int w_free, .int w_held, .int w_wind, .int w_oil, .int w_hour, .int w_sights, .int w_agreedTo, .int w_refused])), (w_points_a, .inl (cI, 7, .inl (upd w_points xp.toNatClampNeg xw))), (w_tired_a, .inl (cI, 7, .inl w_tired))] := hD
    refine lv_aload_n hx hb dX7_settle_27 rfl (lv_at hl 0 rfl) ?_
    refine lv_aload_n hx hb dX7_settle_28 rfl (lv_at hl 0 rfl) ?_
    refine va_get (D := D) (ci := 7) (v := .int w_free) (C := RX7) (T := TX7) (N := 12) hx hb hts in_X7_settle_X7 hown hK.1 hP 0 rfl rfl 4 (by decide) hq5 (fun _ h9 => h9) rfl dX7_settle_29 ?_
    refine lv_iload_n hx hb dX7_settle_32 rfl (lv_at hl 1 rfl) ?_
    refine lv_iload_n hx hb dX7_settle_33 rfl (lv_at hl 3 rfl) ?_
    refine ro_SN (As := [.int w_free, .int xp, .int xf]) (rest := [.ref w]) ⟨hx, hb, hml, hown, hts⟩ hK (c_X8_withBit l D cI cJ cZ w_free xp xf) va_P_nil (va_cnB 3 hts gX7_settle_X8_withBit_n53 rfl rfl rfl (hK.2 _ gN_36) hq0 hd_X8_withBit ⟨(Nat.le_of_ble_eq_true rfl), (Nat.le_of_ble_eq_true rfl)⟩) hq3 rfl hl.1 rfl (Nat.le_of_ble_eq_true rfl) dX7_settle_34 (Nat.zero_le _) (Nat.zero_le _) ?_
    refine va_put (D := D) (ci := 7) (v := .int (f_X8_withBit w_free xp xf)) (ty := .int) (C := RX7) (T := TX7) (N := 12) hx hb hts in_X7_settle_X7 tyX7 tyX7_ok nmX7 hown hK.1 hP hD hS 0 rfl rfl 4 (by decide) hq5 (fun _ h9 => h9) rfl (by decide +kernel) rfl rfl (Nat.le_of_ble_eq_true rfl) dX7_settle_37 (fun H locs hP hD hS => ?_)
    have hP : va_P D vwCl [(w, .inr (7, [.ref w_points_a, .ref w_tired_a, .ref w_near_a, .int (f_X8_withBit w_there xp (1 : Int32)), .int (f_X8_withBit w_free xp xf), .int w_held, .int w_wind, .int w_oil, .int w_hour, .int w_sights, .int w_agreedTo, .int w_refused])), (w_points_a, .inl (cI, 7, .inl (upd w_points xp.toNatClampNeg xw))), (w_tired_a, .inl (cI, 7, .inl w_tired))] H := hP
    have hD : va_D _ [(w, .inr (7, [.ref w_points_a, .ref w_tired_a, .ref w_near_a, .int (f_X8_withBit w_there xp (1 : Int32)), .int (f_X8_withBit w_free xp xf), .int w_held, .int w_wind, .int w_oil, .int w_hour, .int w_sights, .int w_agreedTo, .int w_refused])), (w_points_a, .inl (cI, 7, .inl (upd w_points xp.toNatClampNeg xw))), (w_tired_a, .inl (cI, 7, .inl w_tired))] := hD
    refine lv_aload_n hx hb dX7_settle_40 rfl (lv_at hl 0 rfl) ?_
    refine va_get (D := D) (ci := 7) (v := .ref w_tired_a) (C := RX7) (T := TX7) (N := 12) hx hb hts in_X7_settle_X7 hown hK.1 hP 0 rfl rfl 1 (by decide) hq6 (fun _ h9 => h9) rfl dX7_settle_41 ?_
    refine lv_iload_n hx hb dX7_settle_44 rfl (lv_at hl 1 rfl) ?_
    refine lv_iload hx hb dX7_settle_45 (lv_at hl 4 rfl) ?_
    refine va_iast hx hb hK.1 hP hD hS 2 0 rfl rfl (vp_isParish c4) dX7_settle_47 (fun H locs hP hD hS => ?_)
    have hP : va_P D vwCl [(w, .inr (7, [.ref w_points_a, .ref w_tired_a, .ref w_near_a, .int (f_X8_withBit w_there xp (1 : Int32)), .int (f_X8_withBit w_free xp xf), .int w_held, .int w_wind, .int w_oil, .int w_hour, .int w_sights, .int w_agreedTo, .int w_refused])), (w_points_a, .inl (cI, 7, .inl (upd w_points xp.toNatClampNeg xw))), (w_tired_a, .inl (cI, 7, .inl (upd w_tired xp.toNatClampNeg xt)))] H := hP
    have hD : va_D _ [(w, .inr (7, [.ref w_points_a, .ref w_tired_a, .ref w_near_a, .int (f_X8_withBit w_there xp (1 : Int32)), .int (f_X8_withBit w_free xp xf), .int w_held, .int w_wind, .int w_oil, .int w_hour, .int w_sights, .int w_agreedTo, .int w_refused])), (w_points_a, .inl (cI, 7, .inl (upd w_points xp.toNatClampNeg xw))), (w_tired_a, .inl (cI, 7, .inl (upd w_tired xp.toNatClampNeg xt)))] := hD
    obtain ⟨rfl, rfl, rfl, rfl⟩ := prodI4 hR
    exact rw_vret hx hb hr hlocks hP hS dX7_settle_48


theorem in_X7_see_X7 : ∀ w ∈ u_ws RX7 TX7 12, w ∈ wsX7_see := by decide +kernel
def f_X7_see (w_sights : Int32) (w_agreedTo : Int32) (w_refused : Int32) (xt : Int32) (xa : Int32) : Int32 × Int32 × Int32 :=
  (if (xa = 0) then ((w_sights + (1 : Int32)), w_agreedTo, (f_X8_withBit w_refused xt (1 : Int32))) else ((w_sights + (1 : Int32)), (f_X8_withBit w_agreedTo xt (1 : Int32)), w_refused))
set_option maxHeartbeats 4000000 in
set_option maxRecDepth 100000 in
theorem c_X7_see (l : Launch) (D : va_G) (cI cJ cZ : ClassId) (w : Nat) (w_points_a : Nat) (w_tired_a : Nat) (w_near_a : Nat) (w_there : Int32) (w_free : Int32) (w_held : Int32) (w_wind : Int32) (w_oil : Int32) (w_hour : Int32) (w_sights : Int32) (w_agreedTo : Int32) (w_refused : Int32) (xt : Int32) (xa : Int32) : RW l yX7_see wsX7_see ({ frames := 1, cells := 0, slots := 0, locals := 22 }) [.ref w, .int xt, .int xa] D cI cJ cZ [(w, .inr (7, [.ref w_points_a, .ref w_tired_a, .ref w_near_a, .int w_there, .int w_free, .int w_held, .int w_wind, .int w_oil, .int w_hour, .int w_sights, .int w_agreedTo, .int w_refused]))] none [(w, .inr (7, [.ref w_points_a, .ref w_tired_a, .ref w_near_a, .int w_there, .int w_free, .int w_held, .int w_wind, .int w_oil, .int w_hour, .int ((f_X7_see w_sights w_agreedTo w_refused xt xa).1), .int ((f_X7_see w_sights w_agreedTo w_refused xt xa).2.1), .int ((f_X7_see w_sights w_agreedTo w_refused xt xa).2.2)]))] := by
  obtain ⟨R0, R1, R2, hR⟩ := prodE3 (f_X7_see w_sights w_agreedTo w_refused xt xa)
  rw [hR]
  dsimp only
  refine rw_start (cc := cX7_see) (maxL := 3) (ret := none) (by decide) rfl (Nat.le_of_ble_eq_true rfl) ?_
  intro p e s m args below meth c hx hb hr hml hown hts hlocks hP hD hS hK ls hl
  have hown : s.vm.findClass RX7 = some m.cls := hown
  have hl : lv_has ls 3 [(0, .ref w), (1, .int xt), (2, .int xa)] := hl
  have hq0 := hts (.fieldLink RX7 40 "StuckVanes$World" "sights" "I") (by decide +kernel)
  have hq1 := hts (.fieldLink RX7 46 "StuckVanes$World" "refused" "I") (by decide +kernel)
  have hq2 := hts (.initialized RX8) (by decide +kernel)
  have hq3 := hts (.static yX8_withBit) (by decide +kernel)
  have hq4 := hts (.fieldLink RX7 43 "StuckVanes$World" "agreedTo" "I") (by decide +kernel)
  rw [f_X7_see] at hR
  refine lv_aload_n hx hb dX7_see_0 rfl (lv_at hl 0 rfl) ?_
  refine lv_dup hx hb dX7_see_1 rfl ?_
  refine va_get (D := D) (ci := 7) (v := .int w_sights) (C := RX7) (T := TX7) (N := 12) hx hb hts in_X7_see_X7 hown hK.1 hP 0 rfl rfl 9 (by decide) hq0 (fun _ h9 => h9) rfl dX7_see_2 ?_
  refine lv_iconst (v := (1 : Int32)) hx hb dX7_see_5 (by decide) ?_
  refine lv_iadd hx hb dX7_see_6 ?_
  refine va_put (D := D) (ci := 7) (v := .int (w_sights + (1 : Int32))) (ty := .int) (C := RX7) (T := TX7) (N := 12) hx hb hts in_X7_see_X7 tyX7 tyX7_ok nmX7 hown hK.1 hP hD hS 0 rfl rfl 9 (by decide) hq0 (fun _ h9 => h9) rfl (by decide +kernel) rfl rfl (Nat.le_of_ble_eq_true rfl) dX7_see_7 (fun H locs hP hD hS => ?_)
  have hP : va_P D vwCl [(w, .inr (7, [.ref w_points_a, .ref w_tired_a, .ref w_near_a, .int w_there, .int w_free, .int w_held, .int w_wind, .int w_oil, .int w_hour, .int (w_sights + (1 : Int32)), .int w_agreedTo, .int w_refused]))] H := hP
  have hD : va_D _ [(w, .inr (7, [.ref w_points_a, .ref w_tired_a, .ref w_near_a, .int w_there, .int w_free, .int w_held, .int w_wind, .int w_oil, .int w_hour, .int (w_sights + (1 : Int32)), .int w_agreedTo, .int w_refused]))] := hD
  refine lv_iload_n hx hb dX7_see_10 rfl (lv_at hl 2 rfl) ?_
  refine lv_if_eq (tgt := 30) hx hb dX7_see_11 (by decide) (fun c11 => ?_) (fun c11 => ?_)
  · rw [if_pos c11] at hR
    refine lv_aload_n hx hb dX7_see_30 rfl (lv_at hl 0 rfl) ?_
    refine lv_aload_n hx hb dX7_see_31 rfl (lv_at hl 0 rfl) ?_
    refine va_get (D := D) (ci := 7) (v := .int w_refused) (C := RX7) (T := TX7) (N := 12) hx hb hts in_X7_see_X7 hown hK.1 hP 0 rfl rfl 11 (by decide) hq1 (fun _ h9 => h9) rfl dX7_see_32 ?_
    refine lv_iload_n hx hb dX7_see_35 rfl (lv_at hl 1 rfl) ?_
    refine lv_iconst (v := (1 : Int32)) hx hb dX7_see_36 (by decide) ?_
    refine ro_SN (As := [.int w_refused, .int xt, .int (1 : Int32)]) (rest := [.ref w]) ⟨hx, hb, hml, hown, hts⟩ hK (c_X8_withBit l D cI cJ cZ w_refused xt (1 : Int32)) va_P_nil (va_cnB 3 hts gX7_see_X8_withBit_n53 rfl rfl rfl (hK.2 _ gN_36) hq2 hd_X8_withBit ⟨(Nat.le_of_ble_eq_true rfl), (Nat.le_of_ble_eq_true rfl)⟩) hq3 rfl hl.1 rfl (Nat.le_of_ble_eq_true rfl) dX7_see_37 (Nat.zero_le _) (Nat.zero_le _) ?_
    refine va_put (D := D) (ci := 7) (v := .int (f_X8_withBit w_refused xt (1 : Int32))) (ty := .int) (C := RX7) (T := TX7) (N := 12) hx hb hts in_X7_see_X7 tyX7 tyX7_ok nmX7 hown hK.1 hP hD hS 0 rfl rfl 11 (by decide) hq1 (fun _ h9 => h9) rfl (by decide +kernel) rfl rfl (Nat.le_of_ble_eq_true rfl) dX7_see_40 (fun H locs hP hD hS => ?_)
    have hP : va_P D vwCl [(w, .inr (7, [.ref w_points_a, .ref w_tired_a, .ref w_near_a, .int w_there, .int w_free, .int w_held, .int w_wind, .int w_oil, .int w_hour, .int (w_sights + (1 : Int32)), .int w_agreedTo, .int (f_X8_withBit w_refused xt (1 : Int32))]))] H := hP
    have hD : va_D _ [(w, .inr (7, [.ref w_points_a, .ref w_tired_a, .ref w_near_a, .int w_there, .int w_free, .int w_held, .int w_wind, .int w_oil, .int w_hour, .int (w_sights + (1 : Int32)), .int w_agreedTo, .int (f_X8_withBit w_refused xt (1 : Int32))]))] := hD
    obtain ⟨rfl, rfl, rfl⟩ := prodI3 hR
    exact rw_vret hx hb hr hlocks hP hS dX7_see_43
  · rw [if_neg c11] at hR
    refine lv_aload_n hx hb dX7_see_14 rfl (lv_at hl 0 rfl) ?_
    refine lv_aload_n hx hb dX7_see_15 rfl (lv_at hl 0 rfl) ?_
    refine va_get (D := D) (ci := 7) (v := .int w_agreedTo) (C := RX7) (T := TX7) (N := 12) hx hb hts in_X7_see_X7 hown hK.1 hP 0 rfl rfl 10 (by decide) hq4 (fun _ h9 => h9) rfl dX7_see_16 ?_
    refine lv_iload_n hx hb dX7_see_19 rfl (lv_at hl 1 rfl) ?_
    refine lv_iconst (v := (1 : Int32)) hx hb dX7_see_20 (by decide) ?_
    refine ro_SN (As := [.int w_agreedTo, .int xt, .int (1 : Int32)]) (rest := [.ref w]) ⟨hx, hb, hml, hown, hts⟩ hK (c_X8_withBit l D cI cJ cZ w_agreedTo xt (1 : Int32)) va_P_nil (va_cnB 3 hts gX7_see_X8_withBit_n53 rfl rfl rfl (hK.2 _ gN_36) hq2 hd_X8_withBit ⟨(Nat.le_of_ble_eq_true rfl), (Nat.le_of_ble_eq_true rfl)⟩) hq3 rfl hl.1 rfl (Nat.le_of_ble_eq_true rfl) dX7_see_21 (Nat.zero_le _) (Nat.zero_le _) ?_
    refine va_put (D := D) (ci := 7) (v := .int (f_X8_withBit w_agreedTo xt (1 : Int32))) (ty := .int) (C := RX7) (T := TX7) (N := 12) hx hb hts in_X7_see_X7 tyX7 tyX7_ok nmX7 hown hK.1 hP hD hS 0 rfl rfl 10 (by decide) hq4 (fun _ h9 => h9) rfl (by decide +kernel) rfl rfl (Nat.le_of_ble_eq_true rfl) dX7_see_24 (fun H locs hP hD hS => ?_)
    have hP : va_P D vwCl [(w, .inr (7, [.ref w_points_a, .ref w_tired_a, .ref w_near_a, .int w_there, .int w_free, .int w_held, .int w_wind, .int w_oil, .int w_hour, .int (w_sights + (1 : Int32)), .int (f_X8_withBit w_agreedTo xt (1 : Int32)), .int w_refused]))] H := hP
    have hD : va_D _ [(w, .inr (7, [.ref w_points_a, .ref w_tired_a, .ref w_near_a, .int w_there, .int w_free, .int w_held, .int w_wind, .int w_oil, .int w_hour, .int (w_sights + (1 : Int32)), .int (f_X8_withBit w_agreedTo xt (1 : Int32)), .int w_refused]))] := hD
    refine lv_goto (tgt := 43) hx hb dX7_see_27 (by decide) ?_
    obtain ⟨rfl, rfl, rfl⟩ := prodI3 hR
    exact rw_vret hx hb hr hlocks hP hS dX7_see_43


theorem in_X7_becomeLike_X7 : ∀ w ∈ u_ws RX7 TX7 12, w ∈ wsX7_becomeLike := by decide +kernel
def lp_X7_becomeLike_2 (o_points : Nat → Int32) (o_tired : Nat → Int32) (o_near : Nat → Int32) : Nat → Nat → (Nat → Int32) → (Nat → Int32) → (Nat → Int32) → (Nat → Int32) × (Nat → Int32) × (Nat → Int32)
  | 0, _, r1_2, r2_2, r3_2 => (r1_2, r2_2, r3_2)
  | k2 + 1, i2, r1_2, r2_2, r3_2 => (lp_X7_becomeLike_2 o_points o_tired o_near k2 (i2 + 1) (upd r1_2 i2 (o_points i2)) (upd r2_2 i2 (o_tired i2)) (upd r3_2 i2 (o_near i2)))
def f_X7_becomeLike (w_points : Nat → Int32) (w_tired : Nat → Int32) (w_near : Nat → Int32) (o_there : Int32) (o_free : Int32) (o_held : Int32) (o_wind : Int32) (o_oil : Int32) (o_hour : Int32) (o_sights : Int32) (o_agreedTo : Int32) (o_refused : Int32) (o_points : Nat → Int32) (o_tired : Nat → Int32) (o_near : Nat → Int32) : Int32 × Int32 × Int32 × Int32 × Int32 × Int32 × Int32 × Int32 × Int32 × (Nat → Int32) × (Nat → Int32) × (Nat → Int32) :=
  (o_there, o_free, o_held, o_wind, o_oil, o_hour, o_sights, o_agreedTo, o_refused, (lp_X7_becomeLike_2 o_points o_tired o_near 7 0 w_points w_tired w_near).1, (lp_X7_becomeLike_2 o_points o_tired o_near 7 0 w_points w_tired w_near).2.1, (lp_X7_becomeLike_2 o_points o_tired o_near 7 0 w_points w_tired w_near).2.2)
set_option maxHeartbeats 4000000 in
set_option maxRecDepth 100000 in
theorem c_X7_becomeLike (l : Launch) (D : va_G) (cI cJ cZ : ClassId) (w : Nat) (w_points_a : Nat) (w_tired_a : Nat) (w_near_a : Nat) (w_there : Int32) (w_free : Int32) (w_held : Int32) (w_wind : Int32) (w_oil : Int32) (w_hour : Int32) (w_sights : Int32) (w_agreedTo : Int32) (w_refused : Int32) (w_points : Nat → Int32) (w_tired : Nat → Int32) (w_near : Nat → Int32) (o : Nat) (o_points_a : Nat) (o_tired_a : Nat) (o_near_a : Nat) (o_there : Int32) (o_free : Int32) (o_held : Int32) (o_wind : Int32) (o_oil : Int32) (o_hour : Int32) (o_sights : Int32) (o_agreedTo : Int32) (o_refused : Int32) (o_points : Nat → Int32) (o_tired : Nat → Int32) (o_near : Nat → Int32) : RW l yX7_becomeLike wsX7_becomeLike ({ frames := 0, cells := 0, slots := 0, locals := 0 }) [.ref w, .ref o] D cI cJ cZ [(w, .inr (7, [.ref w_points_a, .ref w_tired_a, .ref w_near_a, .int w_there, .int w_free, .int w_held, .int w_wind, .int w_oil, .int w_hour, .int w_sights, .int w_agreedTo, .int w_refused])), (w_points_a, .inl (cI, 7, .inl w_points)), (w_tired_a, .inl (cI, 7, .inl w_tired)), (w_near_a, .inl (cI, 7, .inl w_near)), (o, .inr (7, [.ref o_points_a, .ref o_tired_a, .ref o_near_a, .int o_there, .int o_free, .int o_held, .int o_wind, .int o_oil, .int o_hour, .int o_sights, .int o_agreedTo, .int o_refused])), (o_points_a, .inl (cI, 7, .inl o_points)), (o_tired_a, .inl (cI, 7, .inl o_tired)), (o_near_a, .inl (cI, 7, .inl o_near))] none [(w, .inr (7, [.ref w_points_a, .ref w_tired_a, .ref w_near_a, .int ((f_X7_becomeLike w_points w_tired w_near o_there o_free o_held o_wind o_oil o_hour o_sights o_agreedTo o_refused o_points o_tired o_near).1), .int ((f_X7_becomeLike w_points w_tired w_near o_there o_free o_held o_wind o_oil o_hour o_sights o_agreedTo o_refused o_points o_tired o_near).2.1), .int ((f_X7_becomeLike w_points w_tired w_near o_there o_free o_held o_wind o_oil o_hour o_sights o_agreedTo o_refused o_points o_tired o_near).2.2.1), .int ((f_X7_becomeLike w_points w_tired w_near o_there o_free o_held o_wind o_oil o_hour o_sights o_agreedTo o_refused o_points o_tired o_near).2.2.2.1), .int ((f_X7_becomeLike w_points w_tired w_near o_there o_free o_held o_wind o_oil o_hour o_sights o_agreedTo o_refused o_points o_tired o_near).2.2.2.2.1), .int ((f_X7_becomeLike w_points w_tired w_near o_there o_free o_held o_wind o_oil o_hour o_sights o_agreedTo o_refused o_points o_tired o_near).2.2.2.2.2.1), .int ((f_X7_becomeLike w_points w_tired w_near o_there o_free o_held o_wind o_oil o_hour o_sights o_agreedTo o_refused o_points o_tired o_near).2.2.2.2.2.2.1), .int ((f_X7_becomeLike w_points w_tired w_near o_there o_free o_held o_wind o_oil o_hour o_sights o_agreedTo o_refused o_points o_tired o_near).2.2.2.2.2.2.2.1), .int ((f_X7_becomeLike w_points w_tired w_near o_there o_free o_held o_wind o_oil o_hour o_sights o_agreedTo o_refused o_points o_tired o_near).2.2.2.2.2.2.2.2.1)])), (w_points_a, .inl (cI, 7, .inl ((f_X7_becomeLike w_points w_tired w_near o_there o_free o_held o_wind o_oil o_hour o_sights o_agreedTo o_refused o_points o_tired o_near).2.2.2.2.2.2.2.2.2.1))), (w_tired_a, .inl (cI, 7, .inl ((f_X7_becomeLike w_points w_tired w_near o_there o_free o_held o_wind o_oil o_hour o_sights o_agreedTo o_refused o_points o_tired o_near).2.2.2.2.2.2.2.2.2.2.1))), (w_near_a, .inl (cI, 7, .inl ((f_X7_becomeLike w_points w_tired w_near o_there o_free o_held o_wind o_oil o_hour o_sights o_agreedTo o_refused o_points o_tired o_near).2.2.2.2.2.2.2.2.2.2.2))), (o, .inr (7, [.ref o_points_a, .ref o_tired_a, .ref o_near_a, .int o_there, .int o_free, .int o_held, .int o_wind, .int o_oil, .int o_hour, .int o_sights, .int o_agreedTo, .int o_refused])), (o_points_a, .inl (cI, 7, .inl o_points)), (o_tired_a, .inl (cI, 7, .inl o_tired)), (o_near_a, .inl (cI, 7, .inl o_near))] := by
  obtain ⟨R0, R1, R2, R3, R4, R5, R6, R7, R8, R9, R10, R11, hR⟩ := prodE12 (f_X7_becomeLike w_points w_tired w_near o_there o_free o_held o_wind o_oil o_hour o_sights o_agreedTo o_refused o_points o_tired o_near)
  rw [hR]
  dsimp only
  refine rw_start (cc := cX7_becomeLike) (maxL := 3) (ret := none) (by decide) rfl (Nat.le_of_ble_eq_true rfl) ?_
  intro p e s m args below meth c hx hb hr hml hown hts hlocks hP hD hS hK ls hl
  have hown : s.vm.findClass RX7 = some m.cls := hown
  have hl : lv_has ls 3 [(0, .ref w), (1, .ref o)] := hl
  have hq0 := hts (.fieldLink RX7 9 "StuckVanes$World" "points" "[I") (by decide +kernel)
  have hq1 := hts (.fieldLink RX7 15 "StuckVanes$World" "tired" "[I") (by decide +kernel)
  have hq10 := hts (.fieldLink RX7 43 "StuckVanes$World" "agreedTo" "I") (by decide +kernel)
  have hq11 := hts (.fieldLink RX7 46 "StuckVanes$World" "refused" "I") (by decide +kernel)
  have hq2 := hts (.fieldLink RX7 18 "StuckVanes$World" "near" "[I") (by decide +kernel)
  have hq3 := hts (.fieldLink RX7 25 "StuckVanes$World" "there" "I") (by decide +kernel)
  have hq4 := hts (.fieldLink RX7 28 "StuckVanes$World" "free" "I") (by decide +kernel)
  have hq5 := hts (.fieldLink RX7 31 "StuckVanes$World" "held" "I") (by decide +kernel)
  have hq6 := hts (.fieldLink RX7 34 "StuckVanes$World" "wind" "I") (by decide +kernel)
  have hq7 := hts (.fieldLink RX7 21 "StuckVanes$World" "oil" "I") (by decide +kernel)
  have hq8 := hts (.fieldLink RX7 37 "StuckVanes$World" "hour" "I") (by decide +kernel)
  have hq9 := hts (.fieldLink RX7 40 "StuckVanes$World" "sights" "I") (by decide +kernel)
  rw [f_X7_becomeLike] at hR
  refine lv_iconst (v := (0 : Int32)) hx hb dX7_becomeLike_0 (by decide) ?_
  refine lv_istore_n (lv' := [(2, .int (0 : Int32)), (0, .ref w), (1, .ref o)]) hx hb dX7_becomeLike_1 rfl hl (by decide) rfl (fun ls hl => ?_)
  obtain ⟨F2_1, hF2_1⟩ : ∃ x, (lp_X7_becomeLike_2 o_points o_tired o_near 7 0 w_points w_tired w_near) = x := ⟨_, rfl⟩
  try rw [hF2_1] at hR
  have hexit2 : ∀ (H : Heap) (locs : List Loc), va_P D vwCl [(w, .inr (7, [.ref w_points_a, .ref w_tired_a, .ref w_near_a, .int w_there, .int w_free, .int w_held, .int w_wind, .int w_oil, .int w_hour, .int w_sights, .int w_agreedTo, .int w_refused])), (w_points_a, .inl (cI, 7, .inl F2_1.1)), (w_tired_a, .inl (cI, 7, .inl F2_1.2.1)), (w_near_a, .inl (cI, 7, .inl F2_1.2.2)), (o, .inr (7, [.ref o_points_a, .ref o_tired_a, .ref o_near_a, .int o_there, .int o_free, .int o_held, .int o_wind, .int o_oil, .int o_hour, .int o_sights, .int o_agreedTo, .int o_refused])), (o_points_a, .inl (cI, 7, .inl o_points)), (o_tired_a, .inl (cI, 7, .inl o_tired)), (o_near_a, .inl (cI, 7, .inl o_near))] H → va_D (va_In [(w, .inr (7, [.ref w_points_a, .ref w_tired_a, .ref w_near_a, .int w_there, .int w_free, .int w_held, .int w_wind, .int w_oil, .int w_hour, .int w_sights, .int w_agreedTo, .int w_refused])), (w_points_a, .inl (cI, 7, .inl w_points)), (w_tired_a, .inl (cI, 7, .inl w_tired)), (w_near_a, .inl (cI, 7, .inl w_near)), (o, .inr (7, [.ref o_points_a, .ref o_tired_a, .ref o_near_a, .int o_there, .int o_free, .int o_held, .int o_wind, .int o_oil, .int o_hour, .int o_sights, .int o_agreedTo, .int o_refused])), (o_points_a, .inl (cI, 7, .inl o_points)), (o_tired_a, .inl (cI, 7, .inl o_tired)), (o_near_a, .inl (cI, 7, .inl o_near))]) [(w, .inr (7, [.ref w_points_a, .ref w_tired_a, .ref w_near_a, .int w_there, .int w_free, .int w_held, .int w_wind, .int w_oil, .int w_hour, .int w_sights, .int w_agreedTo, .int w_refused])), (w_points_a, .inl (cI, 7, .inl F2_1.1)), (w_tired_a, .inl (cI, 7, .inl F2_1.2.1)), (w_near_a, .inl (cI, 7, .inl F2_1.2.2)), (o, .inr (7, [.ref o_points_a, .ref o_tired_a, .ref o_near_a, .int o_there, .int o_free, .int o_held, .int o_wind, .int o_oil, .int o_hour, .int o_sights, .int o_agreedTo, .int o_refused])), (o_points_a, .inl (cI, 7, .inl o_points)), (o_tired_a, .inl (cI, 7, .inl o_tired)), (o_near_a, .inl (cI, 7, .inl o_near))] → va_S (va_In [(w, .inr (7, [.ref w_points_a, .ref w_tired_a, .ref w_near_a, .int w_there, .int w_free, .int w_held, .int w_wind, .int w_oil, .int w_hour, .int w_sights, .int w_agreedTo, .int w_refused])), (w_points_a, .inl (cI, 7, .inl w_points)), (w_tired_a, .inl (cI, 7, .inl w_tired)), (w_near_a, .inl (cI, 7, .inl w_near)), (o, .inr (7, [.ref o_points_a, .ref o_tired_a, .ref o_near_a, .int o_there, .int o_free, .int o_held, .int o_wind, .int o_oil, .int o_hour, .int o_sights, .int o_agreedTo, .int o_refused])), (o_points_a, .inl (cI, 7, .inl o_points)), (o_tired_a, .inl (cI, 7, .inl o_tired)), (o_near_a, .inl (cI, 7, .inl o_near))]) s.heap H locs → ∀ (ls : Array Slot), lv_has ls 3 [(0, .ref w), (1, .ref o)] → W p l e ({ frames := 0, cells := 0, slots := 0, locals := 0 }) s m args below meth c H locs 0 0 (MQ below (rw_Q D none [(w, .inr (7, [.ref w_points_a, .ref w_tired_a, .ref w_near_a, .int w_there, .int w_free, .int w_held, .int w_wind, .int w_oil, .int w_hour, .int w_sights, .int w_agreedTo, .int w_refused])), (w_points_a, .inl (cI, 7, .inl w_points)), (w_tired_a, .inl (cI, 7, .inl w_tired)), (w_near_a, .inl (cI, 7, .inl w_near)), (o, .inr (7, [.ref o_points_a, .ref o_tired_a, .ref o_near_a, .int o_there, .int o_free, .int o_held, .int o_wind, .int o_oil, .int o_hour, .int o_sights, .int o_agreedTo, .int o_refused])), (o_points_a, .inl (cI, 7, .inl o_points)), (o_tired_a, .inl (cI, 7, .inl o_tired)), (o_near_a, .inl (cI, 7, .inl o_near))] [(w, .inr (7, [.ref w_points_a, .ref w_tired_a, .ref w_near_a, .int R0, .int R1, .int R2, .int R3, .int R4, .int R5, .int R6, .int R7, .int R8])), (w_points_a, .inl (cI, 7, .inl R9)), (w_tired_a, .inl (cI, 7, .inl R10)), (w_near_a, .inl (cI, 7, .inl R11)), (o, .inr (7, [.ref o_points_a, .ref o_tired_a, .ref o_near_a, .int o_there, .int o_free, .int o_held, .int o_wind, .int o_oil, .int o_hour, .int o_sights, .int o_agreedTo, .int o_refused])), (o_points_a, .inl (cI, 7, .inl o_points)), (o_tired_a, .inl (cI, 7, .inl o_tired)), (o_near_a, .inl (cI, 7, .inl o_near))]) args s 0 0 (va_In [(w, .inr (7, [.ref w_points_a, .ref w_tired_a, .ref w_near_a, .int w_there, .int w_free, .int w_held, .int w_wind, .int w_oil, .int w_hour, .int w_sights, .int w_agreedTo, .int w_refused])), (w_points_a, .inl (cI, 7, .inl w_points)), (w_tired_a, .inl (cI, 7, .inl w_tired)), (w_near_a, .inl (cI, 7, .inl w_near)), (o, .inr (7, [.ref o_points_a, .ref o_tired_a, .ref o_near_a, .int o_there, .int o_free, .int o_held, .int o_wind, .int o_oil, .int o_hour, .int o_sights, .int o_agreedTo, .int o_refused])), (o_points_a, .inl (cI, 7, .inl o_points)), (o_tired_a, .inl (cI, 7, .inl o_tired)), (o_near_a, .inl (cI, 7, .inl o_near))])) (F0 m 50 ls []) := by
    intro H locs hP hD hS ls hl
    refine lv_aload_n hx hb dX7_becomeLike_50 rfl (lv_at hl 0 rfl) ?_
    refine lv_aload_n hx hb dX7_becomeLike_51 rfl (lv_at hl 1 rfl) ?_
    refine va_get (D := D) (ci := 7) (v := .int o_there) (C := RX7) (T := TX7) (N := 12) hx hb hts in_X7_becomeLike_X7 hown hK.1 hP 4 rfl rfl 3 (by decide) hq3 (fun _ h9 => h9) rfl dX7_becomeLike_52 ?_
    refine va_put (D := D) (ci := 7) (v := .int o_there) (ty := .int) (C := RX7) (T := TX7) (N := 12) hx hb hts in_X7_becomeLike_X7 tyX7 tyX7_ok nmX7 hown hK.1 hP hD hS 0 rfl rfl 3 (by decide) hq3 (fun _ h9 => h9) rfl (by decide +kernel) rfl rfl (Nat.le_of_ble_eq_true rfl) dX7_becomeLike_55 (fun H locs hP hD hS => ?_)
    have hP : va_P D vwCl [(w, .inr (7, [.ref w_points_a, .ref w_tired_a, .ref w_near_a, .int o_there, .int w_free, .int w_held, .int w_wind, .int w_oil, .int w_hour, .int w_sights, .int w_agreedTo, .int w_refused])), (w_points_a, .inl (cI, 7, .inl F2_1.1)), (w_tired_a, .inl (cI, 7, .inl F2_1.2.1)), (w_near_a, .inl (cI, 7, .inl F2_1.2.2)), (o, .inr (7, [.ref o_points_a, .ref o_tired_a, .ref o_near_a, .int o_there, .int o_free, .int o_held, .int o_wind, .int o_oil, .int o_hour, .int o_sights, .int o_agreedTo, .int o_refused])), (o_points_a, .inl (cI, 7, .inl o_points)), (o_tired_a, .inl (cI, 7, .inl o_tired)), (o_near_a, .inl (cI, 7, .inl o_near))] H := hP
    have hD : va_D _ [(w, .inr (7, [.ref w_points_a, .ref w_tired_a, .ref w_near_a, .int o_there, .int w_free, .int w_held, .int w_wind, .int w_oil, .int w_hour, .int w_sights, .int w_agreedTo, .int w_refused])), (w_points_a, .inl (cI, 7, .inl F2_1.1)), (w_tired_a, .inl (cI, 7, .inl F2_1.2.1)), (w_near_a, .inl (cI, 7, .inl F2_1.2.2)), (o, .inr (7, [.ref o_points_a, .ref o_tired_a, .ref o_near_a, .int o_there, .int o_free, .int o_held, .int o_wind, .int o_oil, .int o_hour, .int o_sights, .int o_agreedTo, .int o_refused])), (o_points_a, .inl (cI, 7, .inl o_points)), (o_tired_a, .inl (cI, 7, .inl o_tired)), (o_near_a, .inl (cI, 7, .inl o_near))] := hD
    refine lv_aload_n hx hb dX7_becomeLike_58 rfl (lv_at hl 0 rfl) ?_
    refine lv_aload_n hx hb dX7_becomeLike_59 rfl (lv_at hl 1 rfl) ?_
    refine va_get (D := D) (ci := 7) (v := .int o_free) (C := RX7) (T := TX7) (N := 12) hx hb hts in_X7_becomeLike_X7 hown hK.1 hP 4 rfl rfl 4 (by decide) hq4 (fun _ h9 => h9) rfl dX7_becomeLike_60 ?_
    refine va_put (D := D) (ci := 7) (v := .int o_free) (ty := .int) (C := RX7) (T := TX7) (N := 12) hx hb hts in_X7_becomeLike_X7 tyX7 tyX7_ok nmX7 hown hK.1 hP hD hS 0 rfl rfl 4 (by decide) hq4 (fun _ h9 => h9) rfl (by decide +kernel) rfl rfl (Nat.le_of_ble_eq_true rfl) dX7_becomeLike_63 (fun H locs hP hD hS => ?_)
    have hP : va_P D vwCl [(w, .inr (7, [.ref w_points_a, .ref w_tired_a, .ref w_near_a, .int o_there, .int o_free, .int w_held, .int w_wind, .int w_oil, .int w_hour, .int w_sights, .int w_agreedTo, .int w_refused])), (w_points_a, .inl (cI, 7, .inl F2_1.1)), (w_tired_a, .inl (cI, 7, .inl F2_1.2.1)), (w_near_a, .inl (cI, 7, .inl F2_1.2.2)), (o, .inr (7, [.ref o_points_a, .ref o_tired_a, .ref o_near_a, .int o_there, .int o_free, .int o_held, .int o_wind, .int o_oil, .int o_hour, .int o_sights, .int o_agreedTo, .int o_refused])), (o_points_a, .inl (cI, 7, .inl o_points)), (o_tired_a, .inl (cI, 7, .inl o_tired)), (o_near_a, .inl (cI, 7, .inl o_near))] H := hP
    have hD : va_D _ [(w, .inr (7, [.ref w_points_a, .ref w_tired_a, .ref w_near_a, .int o_there, .int o_free, .int w_held, .int w_wind, .int w_oil, .int w_hour, .int w_sights, .int w_agreedTo, .int w_refused])), (w_points_a, .inl (cI, 7, .inl F2_1.1)), (w_tired_a, .inl (cI, 7, .inl F2_1.2.1)), (w_near_a, .inl (cI, 7, .inl F2_1.2.2)), (o, .inr (7, [.ref o_points_a, .ref o_tired_a, .ref o_near_a, .int o_there, .int o_free, .int o_held, .int o_wind, .int o_oil, .int o_hour, .int o_sights, .int o_agreedTo, .int o_refused])), (o_points_a, .inl (cI, 7, .inl o_points)), (o_tired_a, .inl (cI, 7, .inl o_tired)), (o_near_a, .inl (cI, 7, .inl o_near))] := hD
    refine lv_aload_n hx hb dX7_becomeLike_66 rfl (lv_at hl 0 rfl) ?_
    refine lv_aload_n hx hb dX7_becomeLike_67 rfl (lv_at hl 1 rfl) ?_
    refine va_get (D := D) (ci := 7) (v := .int o_held) (C := RX7) (T := TX7) (N := 12) hx hb hts in_X7_becomeLike_X7 hown hK.1 hP 4 rfl rfl 5 (by decide) hq5 (fun _ h9 => h9) rfl dX7_becomeLike_68 ?_
    refine va_put (D := D) (ci := 7) (v := .int o_held) (ty := .int) (C := RX7) (T := TX7) (N := 12) hx hb hts in_X7_becomeLike_X7 tyX7 tyX7_ok nmX7 hown hK.1 hP hD hS 0 rfl rfl 5 (by decide) hq5 (fun _ h9 => h9) rfl (by decide +kernel) rfl rfl (Nat.le_of_ble_eq_true rfl) dX7_becomeLike_71 (fun H locs hP hD hS => ?_)
    have hP : va_P D vwCl [(w, .inr (7, [.ref w_points_a, .ref w_tired_a, .ref w_near_a, .int o_there, .int o_free, .int o_held, .int w_wind, .int w_oil, .int w_hour, .int w_sights, .int w_agreedTo, .int w_refused])), (w_points_a, .inl (cI, 7, .inl F2_1.1)), (w_tired_a, .inl (cI, 7, .inl F2_1.2.1)), (w_near_a, .inl (cI, 7, .inl F2_1.2.2)), (o, .inr (7, [.ref o_points_a, .ref o_tired_a, .ref o_near_a, .int o_there, .int o_free, .int o_held, .int o_wind, .int o_oil, .int o_hour, .int o_sights, .int o_agreedTo, .int o_refused])), (o_points_a, .inl (cI, 7, .inl o_points)), (o_tired_a, .inl (cI, 7, .inl o_tired)), (o_near_a, .inl (cI, 7, .inl o_near))] H := hP
    have hD : va_D _ [(w, .inr (7, [.ref w_points_a, .ref w_tired_a, .ref w_near_a, .int o_there, .int o_free, .int o_held, .int w_wind, .int w_oil, .int w_hour, .int w_sights, .int w_agreedTo, .int w_refused])), (w_points_a, .inl (cI, 7, .inl F2_1.1)), (w_tired_a, .inl (cI, 7, .inl F2_1.2.1)), (w_near_a, .inl (cI, 7, .inl F2_1.2.2)), (o, .inr (7, [.ref o_points_a, .ref o_tired_a, .ref o_near_a, .int o_there, .int o_free, .int o_held, .int o_wind, .int o_oil, .int o_hour, .int o_sights, .int o_agreedTo, .int o_refused])), (o_points_a, .inl (cI, 7, .inl o_points)), (o_tired_a, .inl (cI, 7, .inl o_tired)), (o_near_a, .inl (cI, 7, .inl o_near))] := hD
    refine lv_aload_n hx hb dX7_becomeLike_74 rfl (lv_at hl 0 rfl) ?_
    refine lv_aload_n hx hb dX7_becomeLike_75 rfl (lv_at hl 1 rfl) ?_
    refine va_get (D := D) (ci := 7) (v := .int o_wind) (C := RX7) (T := TX7) (N := 12) hx hb hts in_X7_becomeLike_X7 hown hK.1 hP 4 rfl rfl 6 (by decide) hq6 (fun _ h9 => h9) rfl dX7_becomeLike_76 ?_
    refine va_put (D := D) (ci := 7) (v := .int o_wind) (ty := .int) (C := RX7) (T := TX7) (N := 12) hx hb hts in_X7_becomeLike_X7 tyX7 tyX7_ok nmX7 hown hK.1 hP hD hS 0 rfl rfl 6 (by decide) hq6 (fun _ h9 => h9) rfl (by decide +kernel) rfl rfl (Nat.le_of_ble_eq_true rfl) dX7_becomeLike_79 (fun H locs hP hD hS => ?_)
    have hP : va_P D vwCl [(w, .inr (7, [.ref w_points_a, .ref w_tired_a, .ref w_near_a, .int o_there, .int o_free, .int o_held, .int o_wind, .int w_oil, .int w_hour, .int w_sights, .int w_agreedTo, .int w_refused])), (w_points_a, .inl (cI, 7, .inl F2_1.1)), (w_tired_a, .inl (cI, 7, .inl F2_1.2.1)), (w_near_a, .inl (cI, 7, .inl F2_1.2.2)), (o, .inr (7, [.ref o_points_a, .ref o_tired_a, .ref o_near_a, .int o_there, .int o_free, .int o_held, .int o_wind, .int o_oil, .int o_hour, .int o_sights, .int o_agreedTo, .int o_refused])), (o_points_a, .inl (cI, 7, .inl o_points)), (o_tired_a, .inl (cI, 7, .inl o_tired)), (o_near_a, .inl (cI, 7, .inl o_near))] H := hP
    have hD : va_D _ [(w, .inr (7, [.ref w_points_a, .ref w_tired_a, .ref w_near_a, .int o_there, .int o_free, .int o_held, .int o_wind, .int w_oil, .int w_hour, .int w_sights, .int w_agreedTo, .int w_refused])), (w_points_a, .inl (cI, 7, .inl F2_1.1)), (w_tired_a, .inl (cI, 7, .inl F2_1.2.1)), (w_near_a, .inl (cI, 7, .inl F2_1.2.2)), (o, .inr (7, [.ref o_points_a, .ref o_tired_a, .ref o_near_a, .int o_there, .int o_free, .int o_held, .int o_wind, .int o_oil, .int o_hour, .int o_sights, .int o_agreedTo, .int o_refused])), (o_points_a, .inl (cI, 7, .inl o_points)), (o_tired_a, .inl (cI, 7, .inl o_tired)), (o_near_a, .inl (cI, 7, .inl o_near))] := hD
    refine lv_aload_n hx hb dX7_becomeLike_82 rfl (lv_at hl 0 rfl) ?_
    refine lv_aload_n hx hb dX7_becomeLike_83 rfl (lv_at hl 1 rfl) ?_
    refine va_get (D := D) (ci := 7) (v := .int o_oil) (C := RX7) (T := TX7) (N := 12) hx hb hts in_X7_becomeLike_X7 hown hK.1 hP 4 rfl rfl 7 (by decide) hq7 (fun _ h9 => h9) rfl dX7_becomeLike_84 ?_
    refine va_put (D := D) (ci := 7) (v := .int o_oil) (ty := .int) (C := RX7) (T := TX7) (N := 12) hx hb hts in_X7_becomeLike_X7 tyX7 tyX7_ok nmX7 hown hK.1 hP hD hS 0 rfl rfl 7 (by decide) hq7 (fun _ h9 => h9) rfl (by decide +kernel) rfl rfl (Nat.le_of_ble_eq_true rfl) dX7_becomeLike_87 (fun H locs hP hD hS => ?_)
    have hP : va_P D vwCl [(w, .inr (7, [.ref w_points_a, .ref w_tired_a, .ref w_near_a, .int o_there, .int o_free, .int o_held, .int o_wind, .int o_oil, .int w_hour, .int w_sights, .int w_agreedTo, .int w_refused])), (w_points_a, .inl (cI, 7, .inl F2_1.1)), (w_tired_a, .inl (cI, 7, .inl F2_1.2.1)), (w_near_a, .inl (cI, 7, .inl F2_1.2.2)), (o, .inr (7, [.ref o_points_a, .ref o_tired_a, .ref o_near_a, .int o_there, .int o_free, .int o_held, .int o_wind, .int o_oil, .int o_hour, .int o_sights, .int o_agreedTo, .int o_refused])), (o_points_a, .inl (cI, 7, .inl o_points)), (o_tired_a, .inl (cI, 7, .inl o_tired)), (o_near_a, .inl (cI, 7, .inl o_near))] H := hP
    have hD : va_D _ [(w, .inr (7, [.ref w_points_a, .ref w_tired_a, .ref w_near_a, .int o_there, .int o_free, .int o_held, .int o_wind, .int o_oil, .int w_hour, .int w_sights, .int w_agreedTo, .int w_refused])), (w_points_a, .inl (cI, 7, .inl F2_1.1)), (w_tired_a, .inl (cI, 7, .inl F2_1.2.1)), (w_near_a, .inl (cI, 7, .inl F2_1.2.2)), (o, .inr (7, [.ref o_points_a, .ref o_tired_a, .ref o_near_a, .int o_there, .int o_free, .int o_held, .int o_wind, .int o_oil, .int o_hour, .int o_sights, .int o_agreedTo, .int o_refused])), (o_points_a, .inl (cI, 7, .inl o_points)), (o_tired_a, .inl (cI, 7, .inl o_tired)), (o_near_a, .inl (cI, 7, .inl o_near))] := hD
    refine lv_aload_n hx hb dX7_becomeLike_90 rfl (lv_at hl 0 rfl) ?_
    refine lv_aload_n hx hb dX7_becomeLike_91 rfl (lv_at hl 1 rfl) ?_
    refine va_get (D := D) (ci := 7) (v := .int o_hour) (C := RX7) (T := TX7) (N := 12) hx hb hts in_X7_becomeLike_X7 hown hK.1 hP 4 rfl rfl 8 (by decide) hq8 (fun _ h9 => h9) rfl dX7_becomeLike_92 ?_
    refine va_put (D := D) (ci := 7) (v := .int o_hour) (ty := .int) (C := RX7) (T := TX7) (N := 12) hx hb hts in_X7_becomeLike_X7 tyX7 tyX7_ok nmX7 hown hK.1 hP hD hS 0 rfl rfl 8 (by decide) hq8 (fun _ h9 => h9) rfl (by decide +kernel) rfl rfl (Nat.le_of_ble_eq_true rfl) dX7_becomeLike_95 (fun H locs hP hD hS => ?_)
    have hP : va_P D vwCl [(w, .inr (7, [.ref w_points_a, .ref w_tired_a, .ref w_near_a, .int o_there, .int o_free, .int o_held, .int o_wind, .int o_oil, .int o_hour, .int w_sights, .int w_agreedTo, .int w_refused])), (w_points_a, .inl (cI, 7, .inl F2_1.1)), (w_tired_a, .inl (cI, 7, .inl F2_1.2.1)), (w_near_a, .inl (cI, 7, .inl F2_1.2.2)), (o, .inr (7, [.ref o_points_a, .ref o_tired_a, .ref o_near_a, .int o_there, .int o_free, .int o_held, .int o_wind, .int o_oil, .int o_hour, .int o_sights, .int o_agreedTo, .int o_refused])), (o_points_a, .inl (cI, 7, .inl o_points)), (o_tired_a, .inl (cI, 7, .inl o_tired)), (o_near_a, .inl (cI, 7, .inl o_near))] H := hP
    have hD : va_D _ [(w, .inr (7, [.ref w_points_a, .ref w_tired_a, .ref w_near_a, .int o_there, .int o_free, .int o_held, .int o_wind, .int o_oil, .int o_hour, .int w_sights, .int w_agreedTo, .int w_refused])), (w_points_a, .inl (cI, 7, .inl F2_1.1)), (w_tired_a, .inl (cI, 7, .inl F2_1.2.1)), (w_near_a, .inl (cI, 7, .inl F2_1.2.2)), (o, .inr (7, [.ref o_points_a, .ref o_tired_a, .ref o_near_a, .int o_there, .int o_free, .int o_held, .int o_wind, .int o_oil, .int o_hour, .int o_sights, .int o_agreedTo, .int o_refused])), (o_points_a, .inl (cI, 7, .inl o_points)), (o_tired_a, .inl (cI, 7, .inl o_tired)), (o_near_a, .inl (cI, 7, .inl o_near))] := hD
    refine lv_aload_n hx hb dX7_becomeLike_98 rfl (lv_at hl 0 rfl) ?_
    refine lv_aload_n hx hb dX7_becomeLike_99 rfl (lv_at hl 1 rfl) ?_
    refine va_get (D := D) (ci := 7) (v := .int o_sights) (C := RX7) (T := TX7) (N := 12) hx hb hts in_X7_becomeLike_X7 hown hK.1 hP 4 rfl rfl 9 (by decide) hq9 (fun _ h9 => h9) rfl dX7_becomeLike_100 ?_
    refine va_put (D := D) (ci := 7) (v := .int o_sights) (ty := .int) (C := RX7) (T := TX7) (N := 12) hx hb hts in_X7_becomeLike_X7 tyX7 tyX7_ok nmX7 hown hK.1 hP hD hS 0 rfl rfl 9 (by decide) hq9 (fun _ h9 => h9) rfl (by decide +kernel) rfl rfl (Nat.le_of_ble_eq_true rfl) dX7_becomeLike_103 (fun H locs hP hD hS => ?_)
    have hP : va_P D vwCl [(w, .inr (7, [.ref w_points_a, .ref w_tired_a, .ref w_near_a, .int o_there, .int o_free, .int o_held, .int o_wind, .int o_oil, .int o_hour, .int o_sights, .int w_agreedTo, .int w_refused])), (w_points_a, .inl (cI, 7, .inl F2_1.1)), (w_tired_a, .inl (cI, 7, .inl F2_1.2.1)), (w_near_a, .inl (cI, 7, .inl F2_1.2.2)), (o, .inr (7, [.ref o_points_a, .ref o_tired_a, .ref o_near_a, .int o_there, .int o_free, .int o_held, .int o_wind, .int o_oil, .int o_hour, .int o_sights, .int o_agreedTo, .int o_refused])), (o_points_a, .inl (cI, 7, .inl o_points)), (o_tired_a, .inl (cI, 7, .inl o_tired)), (o_near_a, .inl (cI, 7, .inl o_near))] H := hP
    have hD : va_D _ [(w, .inr (7, [.ref w_points_a, .ref w_tired_a, .ref w_near_a, .int o_there, .int o_free, .int o_held, .int o_wind, .int o_oil, .int o_hour, .int o_sights, .int w_agreedTo, .int w_refused])), (w_points_a, .inl (cI, 7, .inl F2_1.1)), (w_tired_a, .inl (cI, 7, .inl F2_1.2.1)), (w_near_a, .inl (cI, 7, .inl F2_1.2.2)), (o, .inr (7, [.ref o_points_a, .ref o_tired_a, .ref o_near_a, .int o_there, .int o_free, .int o_held, .int o_wind, .int o_oil, .int o_hour, .int o_sights, .int o_agreedTo, .int o_refused])), (o_points_a, .inl (cI, 7, .inl o_points)), (o_tired_a, .inl (cI, 7, .inl o_tired)), (o_near_a, .inl (cI, 7, .inl o_near))] := hD
    refine lv_aload_n hx hb dX7_becomeLike_106 rfl (lv_at hl 0 rfl) ?_
    refine lv_aload_n hx hb dX7_becomeLike_107 rfl (lv_at hl 1 rfl) ?_
    refine va_get (D := D) (ci := 7) (v := .int o_agreedTo) (C := RX7) (T := TX7) (N := 12) hx hb hts in_X7_becomeLike_X7 hown hK.1 hP 4 rfl rfl 10 (by decide) hq10 (fun _ h9 => h9) rfl dX7_becomeLike_108 ?_
    refine va_put (D := D) (ci := 7) (v := .int o_agreedTo) (ty := .int) (C := RX7) (T := TX7) (N := 12) hx hb hts in_X7_becomeLike_X7 tyX7 tyX7_ok nmX7 hown hK.1 hP hD hS 0 rfl rfl 10 (by decide) hq10 (fun _ h9 => h9) rfl (by decide +kernel) rfl rfl (Nat.le_of_ble_eq_true rfl) dX7_becomeLike_111 (fun H locs hP hD hS => ?_)
    have hP : va_P D vwCl [(w, .inr (7, [.ref w_points_a, .ref w_tired_a, .ref w_near_a, .int o_there, .int o_free, .int o_held, .int o_wind, .int o_oil, .int o_hour, .int o_sights, .int o_agreedTo, .int w_refused])), (w_points_a, .inl (cI, 7, .inl F2_1.1)), (w_tired_a, .inl (cI, 7, .inl F2_1.2.1)), (w_near_a, .inl (cI, 7, .inl F2_1.2.2)), (o, .inr (7, [.ref o_points_a, .ref o_tired_a, .ref o_near_a, .int o_there, .int o_free, .int o_held, .int o_wind, .int o_oil, .int o_hour, .int o_sights, .int o_agreedTo, .int o_refused])), (o_points_a, .inl (cI, 7, .inl o_points)), (o_tired_a, .inl (cI, 7, .inl o_tired)), (o_near_a, .inl (cI, 7, .inl o_near))] H := hP
    have hD : va_D _ [(w, .inr (7, [.ref w_points_a, .ref w_tired_a, .ref w_near_a, .int o_there, .int o_free, .int o_held, .int o_wind, .int o_oil, .int o_hour, .int o_sights, .int o_agreedTo, .int w_refused])), (w_points_a, .inl (cI, 7, .inl F2_1.1)), (w_tired_a, .inl (cI, 7, .inl F2_1.2.1)), (w_near_a, .inl (cI, 7, .inl F2_1.2.2)), (o, .inr (7, [.ref o_points_a, .ref o_tired_a, .ref o_near_a, .int o_there, .int o_free, .int o_held, .int o_wind, .int o_oil, .int o_hour, .int o_sights, .int o_agreedTo, .int o_refused])), (o_points_a, .inl (cI, 7, .inl o_points)), (o_tired_a, .inl (cI, 7, .inl o_tired)), (o_near_a, .inl (cI, 7, .inl o_near))] := hD
    refine lv_aload_n hx hb dX7_becomeLike_114 rfl (lv_at hl 0 rfl) ?_
    refine lv_aload_n hx hb dX7_becomeLike_115 rfl (lv_at hl 1 rfl) ?_
    refine va_get (D := D) (ci := 7) (v := .int o_refused) (C := RX7) (T := TX7) (N := 12) hx hb hts in_X7_becomeLike_X7 hown hK.1 hP 4 rfl rfl 11 (by decide) hq11 (fun _ h9 => h9) rfl dX7_becomeLike_116 ?_
    refine va_put (D := D) (ci := 7) (v := .int o_refused) (ty := .int) (C := RX7) (T := TX7) (N := 12) hx hb hts in_X7_becomeLike_X7 tyX7 tyX7_ok nmX7 hown hK.1 hP hD hS 0 rfl rfl 11 (by decide) hq11 (fun _ h9 => h9) rfl (by decide +kernel) rfl rfl (Nat.le_of_ble_eq_true rfl) dX7_becomeLike_119 (fun H locs hP hD hS => ?_)
    have hP : va_P D vwCl [(w, .inr (7, [.ref w_points_a, .ref w_tired_a, .ref w_near_a, .int o_there, .int o_free, .int o_held, .int o_wind, .int o_oil, .int o_hour, .int o_sights, .int o_agreedTo, .int o_refused])), (w_points_a, .inl (cI, 7, .inl F2_1.1)), (w_tired_a, .inl (cI, 7, .inl F2_1.2.1)), (w_near_a, .inl (cI, 7, .inl F2_1.2.2)), (o, .inr (7, [.ref o_points_a, .ref o_tired_a, .ref o_near_a, .int o_there, .int o_free, .int o_held, .int o_wind, .int o_oil, .int o_hour, .int o_sights, .int o_agreedTo, .int o_refused])), (o_points_a, .inl (cI, 7, .inl o_points)), (o_tired_a, .inl (cI, 7, .inl o_tired)), (o_near_a, .inl (cI, 7, .inl o_near))] H := hP
    have hD : va_D _ [(w, .inr (7, [.ref w_points_a, .ref w_tired_a, .ref w_near_a, .int o_there, .int o_free, .int o_held, .int o_wind, .int o_oil, .int o_hour, .int o_sights, .int o_agreedTo, .int o_refused])), (w_points_a, .inl (cI, 7, .inl F2_1.1)), (w_tired_a, .inl (cI, 7, .inl F2_1.2.1)), (w_near_a, .inl (cI, 7, .inl F2_1.2.2)), (o, .inr (7, [.ref o_points_a, .ref o_tired_a, .ref o_near_a, .int o_there, .int o_free, .int o_held, .int o_wind, .int o_oil, .int o_hour, .int o_sights, .int o_agreedTo, .int o_refused])), (o_points_a, .inl (cI, 7, .inl o_points)), (o_tired_a, .inl (cI, 7, .inl o_tired)), (o_near_a, .inl (cI, 7, .inl o_near))] := hD
    obtain ⟨rfl, rfl, rfl, rfl, rfl, rfl, rfl, rfl, rfl, rfl, rfl, rfl⟩ := prodI12 hR
    exact rw_vret hx hb hr hlocks hP hS dX7_becomeLike_122
  have hloop2 : ∀ (k2 i2 : Nat) (r1_2 : Nat → Int32) (r2_2 : Nat → Int32) (r3_2 : Nat → Int32), i2 + k2 = 7 → ∀ (H : Heap) (locs : List Loc), va_P D vwCl [(w, .inr (7, [.ref w_points_a, .ref w_tired_a, .ref w_near_a, .int w_there, .int w_free, .int w_held, .int w_wind, .int w_oil, .int w_hour, .int w_sights, .int w_agreedTo, .int w_refused])), (w_points_a, .inl (cI, 7, .inl r1_2)), (w_tired_a, .inl (cI, 7, .inl r2_2)), (w_near_a, .inl (cI, 7, .inl r3_2)), (o, .inr (7, [.ref o_points_a, .ref o_tired_a, .ref o_near_a, .int o_there, .int o_free, .int o_held, .int o_wind, .int o_oil, .int o_hour, .int o_sights, .int o_agreedTo, .int o_refused])), (o_points_a, .inl (cI, 7, .inl o_points)), (o_tired_a, .inl (cI, 7, .inl o_tired)), (o_near_a, .inl (cI, 7, .inl o_near))] H → va_D (va_In [(w, .inr (7, [.ref w_points_a, .ref w_tired_a, .ref w_near_a, .int w_there, .int w_free, .int w_held, .int w_wind, .int w_oil, .int w_hour, .int w_sights, .int w_agreedTo, .int w_refused])), (w_points_a, .inl (cI, 7, .inl w_points)), (w_tired_a, .inl (cI, 7, .inl w_tired)), (w_near_a, .inl (cI, 7, .inl w_near)), (o, .inr (7, [.ref o_points_a, .ref o_tired_a, .ref o_near_a, .int o_there, .int o_free, .int o_held, .int o_wind, .int o_oil, .int o_hour, .int o_sights, .int o_agreedTo, .int o_refused])), (o_points_a, .inl (cI, 7, .inl o_points)), (o_tired_a, .inl (cI, 7, .inl o_tired)), (o_near_a, .inl (cI, 7, .inl o_near))]) [(w, .inr (7, [.ref w_points_a, .ref w_tired_a, .ref w_near_a, .int w_there, .int w_free, .int w_held, .int w_wind, .int w_oil, .int w_hour, .int w_sights, .int w_agreedTo, .int w_refused])), (w_points_a, .inl (cI, 7, .inl r1_2)), (w_tired_a, .inl (cI, 7, .inl r2_2)), (w_near_a, .inl (cI, 7, .inl r3_2)), (o, .inr (7, [.ref o_points_a, .ref o_tired_a, .ref o_near_a, .int o_there, .int o_free, .int o_held, .int o_wind, .int o_oil, .int o_hour, .int o_sights, .int o_agreedTo, .int o_refused])), (o_points_a, .inl (cI, 7, .inl o_points)), (o_tired_a, .inl (cI, 7, .inl o_tired)), (o_near_a, .inl (cI, 7, .inl o_near))] → va_S (va_In [(w, .inr (7, [.ref w_points_a, .ref w_tired_a, .ref w_near_a, .int w_there, .int w_free, .int w_held, .int w_wind, .int w_oil, .int w_hour, .int w_sights, .int w_agreedTo, .int w_refused])), (w_points_a, .inl (cI, 7, .inl w_points)), (w_tired_a, .inl (cI, 7, .inl w_tired)), (w_near_a, .inl (cI, 7, .inl w_near)), (o, .inr (7, [.ref o_points_a, .ref o_tired_a, .ref o_near_a, .int o_there, .int o_free, .int o_held, .int o_wind, .int o_oil, .int o_hour, .int o_sights, .int o_agreedTo, .int o_refused])), (o_points_a, .inl (cI, 7, .inl o_points)), (o_tired_a, .inl (cI, 7, .inl o_tired)), (o_near_a, .inl (cI, 7, .inl o_near))]) s.heap H locs → ∀ (ls : Array Slot), lv_has ls 3 [(2, .int (nI i2)), (0, .ref w), (1, .ref o)] → lp_X7_becomeLike_2 o_points o_tired o_near k2 i2 r1_2 r2_2 r3_2 = F2_1 → W p l e ({ frames := 0, cells := 0, slots := 0, locals := 0 }) s m args below meth c H locs 0 0 (MQ below (rw_Q D none [(w, .inr (7, [.ref w_points_a, .ref w_tired_a, .ref w_near_a, .int w_there, .int w_free, .int w_held, .int w_wind, .int w_oil, .int w_hour, .int w_sights, .int w_agreedTo, .int w_refused])), (w_points_a, .inl (cI, 7, .inl w_points)), (w_tired_a, .inl (cI, 7, .inl w_tired)), (w_near_a, .inl (cI, 7, .inl w_near)), (o, .inr (7, [.ref o_points_a, .ref o_tired_a, .ref o_near_a, .int o_there, .int o_free, .int o_held, .int o_wind, .int o_oil, .int o_hour, .int o_sights, .int o_agreedTo, .int o_refused])), (o_points_a, .inl (cI, 7, .inl o_points)), (o_tired_a, .inl (cI, 7, .inl o_tired)), (o_near_a, .inl (cI, 7, .inl o_near))] [(w, .inr (7, [.ref w_points_a, .ref w_tired_a, .ref w_near_a, .int R0, .int R1, .int R2, .int R3, .int R4, .int R5, .int R6, .int R7, .int R8])), (w_points_a, .inl (cI, 7, .inl R9)), (w_tired_a, .inl (cI, 7, .inl R10)), (w_near_a, .inl (cI, 7, .inl R11)), (o, .inr (7, [.ref o_points_a, .ref o_tired_a, .ref o_near_a, .int o_there, .int o_free, .int o_held, .int o_wind, .int o_oil, .int o_hour, .int o_sights, .int o_agreedTo, .int o_refused])), (o_points_a, .inl (cI, 7, .inl o_points)), (o_tired_a, .inl (cI, 7, .inl o_tired)), (o_near_a, .inl (cI, 7, .inl o_near))]) args s 0 0 (va_In [(w, .inr (7, [.ref w_points_a, .ref w_tired_a, .ref w_near_a, .int w_there, .int w_free, .int w_held, .int w_wind, .int w_oil, .int w_hour, .int w_sights, .int w_agreedTo, .int w_refused])), (w_points_a, .inl (cI, 7, .inl w_points)), (w_tired_a, .inl (cI, 7, .inl w_tired)), (w_near_a, .inl (cI, 7, .inl w_near)), (o, .inr (7, [.ref o_points_a, .ref o_tired_a, .ref o_near_a, .int o_there, .int o_free, .int o_held, .int o_wind, .int o_oil, .int o_hour, .int o_sights, .int o_agreedTo, .int o_refused])), (o_points_a, .inl (cI, 7, .inl o_points)), (o_tired_a, .inl (cI, 7, .inl o_tired)), (o_near_a, .inl (cI, 7, .inl o_near))])) (F0 m 2 ls []) := by
    intro k2
    induction k2 with
    | zero =>
      intro i2 r1_2 r2_2 r3_2 h2  H locs hP hD hS ls hl hR
      obtain rfl : 7 = i2 := by omega
      rw [lp_X7_becomeLike_2] at hR
      refine lv_iload_n hx hb dX7_becomeLike_2 rfl (lv_at hl 0 rfl) ?_
      refine lv_bipush (v := (7 : Int32)) hx hb dX7_becomeLike_3 (by decide +kernel) ?_
      refine lv_icmp_ge (tgt := 50) hx hb dX7_becomeLike_5 (by decide) (fun _ => ?_) (fun h => absurd (cle_t (a := 7) (b := 7) rfl rfl (by omega) (by omega)) h)
      subst hR
      exact hexit2 _ _ hP hD hS _ (lv_sub hl [1, 2] rfl)
    | succ k2 ih2 =>
      intro i2 r1_2 r2_2 r3_2 h2  H locs hP hD hS ls hl hR
      rw [lp_X7_becomeLike_2] at hR
      refine lv_iload_n hx hb dX7_becomeLike_2 rfl (lv_at hl 0 rfl) ?_
      refine lv_bipush (v := (7 : Int32)) hx hb dX7_becomeLike_3 (by decide +kernel) ?_
      refine lv_icmp_ge (tgt := 50) hx hb dX7_becomeLike_5 (by decide) (fun h => absurd h (cle_f (a := 7) (b := i2) rfl rfl (by omega) (by omega))) (fun _ => ?_)
      refine lv_aload_n hx hb dX7_becomeLike_8 rfl (lv_at hl 1 rfl) ?_
      refine va_get (D := D) (ci := 7) (v := .ref w_points_a) (C := RX7) (T := TX7) (N := 12) hx hb hts in_X7_becomeLike_X7 hown hK.1 hP 0 rfl rfl 0 (by decide) hq0 (fun _ h9 => h9) rfl dX7_becomeLike_9 ?_
      refine lv_iload_n hx hb dX7_becomeLike_12 rfl (lv_at hl 0 rfl) ?_
      refine lv_aload_n hx hb dX7_becomeLike_13 rfl (lv_at hl 2 rfl) ?_
      refine va_get (D := D) (ci := 7) (v := .ref o_points_a) (C := RX7) (T := TX7) (N := 12) hx hb hts in_X7_becomeLike_X7 hown hK.1 hP 4 rfl rfl 0 (by decide) hq0 (fun _ h9 => h9) rfl dX7_becomeLike_14 ?_
      refine lv_iload_n hx hb dX7_becomeLike_17 rfl (lv_at hl 0 rfl) ?_
      refine ia_ld hx hb hK hP 5 rfl (i := i2) (by omega) (by decide) dX7_becomeLike_18 ?_
      refine ia_st hx hb hK hP hD hS 1 rfl (i := i2) (by omega) (by decide) dX7_becomeLike_19 (fun H locs hP hD hS => ?_)
      have hP : va_P D vwCl [(w, .inr (7, [.ref w_points_a, .ref w_tired_a, .ref w_near_a, .int w_there, .int w_free, .int w_held, .int w_wind, .int w_oil, .int w_hour, .int w_sights, .int w_agreedTo, .int w_refused])), (w_points_a, .inl (cI, 7, .inl (upd r1_2 i2 (o_points i2)))), (w_tired_a, .inl (cI, 7, .inl r2_2)), (w_near_a, .inl (cI, 7, .inl r3_2)), (o, .inr (7, [.ref o_points_a, .ref o_tired_a, .ref o_near_a, .int o_there, .int o_free, .int o_held, .int o_wind, .int o_oil, .int o_hour, .int o_sights, .int o_agreedTo, .int o_refused])), (o_points_a, .inl (cI, 7, .inl o_points)), (o_tired_a, .inl (cI, 7, .inl o_tired)), (o_near_a, .inl (cI, 7, .inl o_near))] H := hP
      have hD : va_D _ [(w, .inr (7, [.ref w_points_a, .ref w_tired_a, .ref w_near_a, .int w_there, .int w_free, .int w_held, .int w_wind, .int w_oil, .int w_hour, .int w_sights, .int w_agreedTo, .int w_refused])), (w_points_a, .inl (cI, 7, .inl (upd r1_2 i2 (o_points i2)))), (w_tired_a, .inl (cI, 7, .inl r2_2)), (w_near_a, .inl (cI, 7, .inl r3_2)), (o, .inr (7, [.ref o_points_a, .ref o_tired_a, .ref o_near_a, .int o_there, .int o_free, .int o_held, .int o_wind, .int o_oil, .int o_hour, .int o_sights, .int o_agreedTo, .int o_refused])), (o_points_a, .inl (cI, 7, .inl o_points)), (o_tired_a, .inl (cI, 7, .inl o_tired)), (o_near_a, .inl (cI, 7, .inl o_near))] := hD
      refine lv_aload_n hx hb dX7_becomeLike_20 rfl (lv_at hl 1 rfl) ?_
      refine va_get (D := D) (ci := 7) (v := .ref w_tired_a) (C := RX7) (T := TX7) (N := 12) hx hb hts in_X7_becomeLike_X7 hown hK.1 hP 0 rfl rfl 1 (by decide) hq1 (fun _ h9 => h9) rfl dX7_becomeLike_21 ?_
      refine lv_iload_n hx hb dX7_becomeLike_24 rfl (lv_at hl 0 rfl) ?_
      refine lv_aload_n hx hb dX7_becomeLike_25 rfl (lv_at hl 2 rfl) ?_
      refine va_get (D := D) (ci := 7) (v := .ref o_tired_a) (C := RX7) (T := TX7) (N := 12) hx hb hts in_X7_becomeLike_X7 hown hK.1 hP 4 rfl rfl 1 (by decide) hq1 (fun _ h9 => h9) rfl dX7_becomeLike_26 ?_
      refine lv_iload_n hx hb dX7_becomeLike_29 rfl (lv_at hl 0 rfl) ?_
      refine ia_ld hx hb hK hP 6 rfl (i := i2) (by omega) (by decide) dX7_becomeLike_30 ?_
      refine ia_st hx hb hK hP hD hS 2 rfl (i := i2) (by omega) (by decide) dX7_becomeLike_31 (fun H locs hP hD hS => ?_)
      have hP : va_P D vwCl [(w, .inr (7, [.ref w_points_a, .ref w_tired_a, .ref w_near_a, .int w_there, .int w_free, .int w_held, .int w_wind, .int w_oil, .int w_hour, .int w_sights, .int w_agreedTo, .int w_refused])), (w_points_a, .inl (cI, 7, .inl (upd r1_2 i2 (o_points i2)))), (w_tired_a, .inl (cI, 7, .inl (upd r2_2 i2 (o_tired i2)))), (w_near_a, .inl (cI, 7, .inl r3_2)), (o, .inr (7, [.ref o_points_a, .ref o_tired_a, .ref o_near_a, .int o_there, .int o_free, .int o_held, .int o_wind, .int o_oil, .int o_hour, .int o_sights, .int o_agreedTo, .int o_refused])), (o_points_a, .inl (cI, 7, .inl o_points)), (o_tired_a, .inl (cI, 7, .inl o_tired)), (o_near_a, .inl (cI, 7, .inl o_near))] H := hP
      have hD : va_D _ [(w, .inr (7, [.ref w_points_a, .ref w_tired_a, .ref w_near_a, .int w_there, .int w_free, .int w_held, .int w_wind, .int w_oil, .int w_hour, .int w_sights, .int w_agreedTo, .int w_refused])), (w_points_a, .inl (cI, 7, .inl (upd r1_2 i2 (o_points i2)))), (w_tired_a, .inl (cI, 7, .inl (upd r2_2 i2 (o_tired i2)))), (w_near_a, .inl (cI, 7, .inl r3_2)), (o, .inr (7, [.ref o_points_a, .ref o_tired_a, .ref o_near_a, .int o_there, .int o_free, .int o_held, .int o_wind, .int o_oil, .int o_hour, .int o_sights, .int o_agreedTo, .int o_refused])), (o_points_a, .inl (cI, 7, .inl o_points)), (o_tired_a, .inl (cI, 7, .inl o_tired)), (o_near_a, .inl (cI, 7, .inl o_near))] := hD
      refine lv_aload_n hx hb dX7_becomeLike_32 rfl (lv_at hl 1 rfl) ?_
      refine va_get (D := D) (ci := 7) (v := .ref w_near_a) (C := RX7) (T := TX7) (N := 12) hx hb hts in_X7_becomeLike_X7 hown hK.1 hP 0 rfl rfl 2 (by decide) hq2 (fun _ h9 => h9) rfl dX7_becomeLike_33 ?_
      refine lv_iload_n hx hb dX7_becomeLike_36 rfl (lv_at hl 0 rfl) ?_
      refine lv_aload_n hx hb dX7_becomeLike_37 rfl (lv_at hl 2 rfl) ?_
      refine va_get (D := D) (ci := 7) (v := .ref o_near_a) (C := RX7) (T := TX7) (N := 12) hx hb hts in_X7_becomeLike_X7 hown hK.1 hP 4 rfl rfl 2 (by decide) hq2 (fun _ h9 => h9) rfl dX7_becomeLike_38 ?_
      refine lv_iload_n hx hb dX7_becomeLike_41 rfl (lv_at hl 0 rfl) ?_
      refine ia_ld hx hb hK hP 7 rfl (i := i2) (by omega) (by decide) dX7_becomeLike_42 ?_
      refine ia_st hx hb hK hP hD hS 3 rfl (i := i2) (by omega) (by decide) dX7_becomeLike_43 (fun H locs hP hD hS => ?_)
      have hP : va_P D vwCl [(w, .inr (7, [.ref w_points_a, .ref w_tired_a, .ref w_near_a, .int w_there, .int w_free, .int w_held, .int w_wind, .int w_oil, .int w_hour, .int w_sights, .int w_agreedTo, .int w_refused])), (w_points_a, .inl (cI, 7, .inl (upd r1_2 i2 (o_points i2)))), (w_tired_a, .inl (cI, 7, .inl (upd r2_2 i2 (o_tired i2)))), (w_near_a, .inl (cI, 7, .inl (upd r3_2 i2 (o_near i2)))), (o, .inr (7, [.ref o_points_a, .ref o_tired_a, .ref o_near_a, .int o_there, .int o_free, .int o_held, .int o_wind, .int o_oil, .int o_hour, .int o_sights, .int o_agreedTo, .int o_refused])), (o_points_a, .inl (cI, 7, .inl o_points)), (o_tired_a, .inl (cI, 7, .inl o_tired)), (o_near_a, .inl (cI, 7, .inl o_near))] H := hP
      have hD : va_D _ [(w, .inr (7, [.ref w_points_a, .ref w_tired_a, .ref w_near_a, .int w_there, .int w_free, .int w_held, .int w_wind, .int w_oil, .int w_hour, .int w_sights, .int w_agreedTo, .int w_refused])), (w_points_a, .inl (cI, 7, .inl (upd r1_2 i2 (o_points i2)))), (w_tired_a, .inl (cI, 7, .inl (upd r2_2 i2 (o_tired i2)))), (w_near_a, .inl (cI, 7, .inl (upd r3_2 i2 (o_near i2)))), (o, .inr (7, [.ref o_points_a, .ref o_tired_a, .ref o_near_a, .int o_there, .int o_free, .int o_held, .int o_wind, .int o_oil, .int o_hour, .int o_sights, .int o_agreedTo, .int o_refused])), (o_points_a, .inl (cI, 7, .inl o_points)), (o_tired_a, .inl (cI, 7, .inl o_tired)), (o_near_a, .inl (cI, 7, .inl o_near))] := hD
      refine lv_iinc (v := (nI (i2 + 1))) (lv' := [(2, .int (nI (i2 + 1))), (0, .ref w), (1, .ref o)]) hx hb dX7_becomeLike_44 hl (k := 0) rfl (by exact nI_add i2 1) (by decide) rfl (fun ls hl => ?_)
      refine lv_goto (tgt := 2) hx hb dX7_becomeLike_47 (by decide) ?_
      exact ih2 _ _ _ _ (by omega) _ _ hP hD hS _ (lv_sub hl [0, 1, 2] rfl) hR
  exact hloop2 7 0 _ _ _ (by omega) _ _ hP hD hS _ hl hF2_1


theorem in_X7_reasonAgainstTouching_X7 : ∀ w ∈ u_ws RX7 TX7 12, w ∈ wsX7_reasonAgainstTouching := by decide +kernel
def f_X7_reasonAgainstTouching (w_there : Int32) (w_free : Int32) (w_oil : Int32) (w_points : Nat → Int32) (xk : Int32) (xp : Int32) (xn : Int32) : Int32 :=
  (if ((f_X7_isThere w_there xp) = 0) then (1 : Int32) else (if (xk = 0) then (if ((f_X8_hasBit w_free xp) = (1 : Int32)) then (2 : Int32) else (if (xk = (2 : Int32)) then (if ((w_points xp.toNatClampNeg) = xn) then (3 : Int32) else (if (0 < w_oil) then (0 : Int32) else (4 : Int32))) else (if (0 < w_oil) then (0 : Int32) else (4 : Int32)))) else (if ((f_X8_hasBit w_free xp) = (0 : Int32)) then (2 : Int32) else (if (xk = (2 : Int32)) then (if ((w_points xp.toNatClampNeg) = xn) then (3 : Int32) else (0 : Int32)) else (0 : Int32)))))
set_option maxHeartbeats 4000000 in
set_option maxRecDepth 100000 in
theorem c_X7_reasonAgainstTouching (l : Launch) (D : va_G) (cI cJ cZ : ClassId) (w : Nat) (w_points_a : Nat) (w_tired_a : Nat) (w_near_a : Nat) (w_there : Int32) (w_free : Int32) (w_held : Int32) (w_wind : Int32) (w_oil : Int32) (w_hour : Int32) (w_sights : Int32) (w_agreedTo : Int32) (w_refused : Int32) (w_points : Nat → Int32) (xk : Int32) (xp : Int32) (xn : Int32) : RO l yX7_reasonAgainstTouching wsX7_reasonAgainstTouching ({ frames := 1, cells := 0, slots := 0, locals := 21 }) [.ref w, .int xk, .int xp, .int xn] D cI cJ cZ [(w, .inr (7, [.ref w_points_a, .ref w_tired_a, .ref w_near_a, .int w_there, .int w_free, .int w_held, .int w_wind, .int w_oil, .int w_hour, .int w_sights, .int w_agreedTo, .int w_refused])), (w_points_a, .inl (cI, 7, .inl w_points))] (.int (f_X7_reasonAgainstTouching w_there w_free w_oil w_points xk xp xn)) := by
  obtain ⟨R, hR⟩ : ∃ R, (f_X7_reasonAgainstTouching w_there w_free w_oil w_points xk xp xn) = R := ⟨_, rfl⟩
  rw [hR]
  refine ro_start (cc := cX7_reasonAgainstTouching) (maxL := 4) (ret := (some .int)) (by decide) rfl (Nat.le_of_ble_eq_true rfl) ?_
  intro p e s m args below meth c hx hb hr hml hown hts hlocks hP hK ls hl
  have hown : s.vm.findClass RX7 = some m.cls := hown
  have hl : lv_has ls 4 [(0, .ref w), (1, .int xk), (2, .int xp), (3, .int xn)] := hl
  have hq0 := hts (.fieldLink RX7 28 "StuckVanes$World" "free" "I") (by decide +kernel)
  have hq1 := hts (.initialized RX8) (by decide +kernel)
  have hq2 := hts (.static yX8_hasBit) (by decide +kernel)
  have hq3 := hts (.fieldLink RX7 9 "StuckVanes$World" "points" "[I") (by decide +kernel)
  have hq4 := hts (.fieldLink RX7 21 "StuckVanes$World" "oil" "I") (by decide +kernel)
  rw [f_X7_reasonAgainstTouching] at hR
  refine lv_aload_n hx hb dX7_reasonAgainstTouching_0 rfl (lv_at hl 0 rfl) ?_
  refine lv_iload_n hx hb dX7_reasonAgainstTouching_1 rfl (lv_at hl 2 rfl) ?_
  refine ro_V (As := [.int xp]) (rest := []) ⟨hx, hb, hml, hown, hts⟩ hK (c_X7_isThere l D cI cJ cZ w w_points_a w_tired_a w_near_a w_there w_free w_held w_wind w_oil w_hour w_sights w_agreedTo w_refused xp) hP 0 rfl rfl (rw_sub hP [0] rfl) (cwV 1 hts gX7_reasonAgainstTouching_X7_isThere rfl rfl rfl ⟨rfl, hd_X7_isThere⟩ ⟨(Nat.le_of_ble_eq_true rfl), (Nat.le_of_ble_eq_true rfl)⟩) rfl hl.1 rfl (Nat.le_of_ble_eq_true rfl) dX7_reasonAgainstTouching_2 (Nat.zero_le _) (Nat.zero_le _) ?_
  refine lv_if_ne (tgt := 10) hx hb dX7_reasonAgainstTouching_5 (by decide) (fun c5 => ?_) (fun c5 => ?_)
  · rw [if_neg c5] at hR
    refine lv_aload_n hx hb dX7_reasonAgainstTouching_10 rfl (lv_at hl 0 rfl) ?_
    refine va_get (D := D) (ci := 7) (v := .int w_free) (C := RX7) (T := TX7) (N := 12) hx hb hts in_X7_reasonAgainstTouching_X7 hown hK.1 hP 0 rfl rfl 4 (by decide) hq0 (fun _ h9 => h9) rfl dX7_reasonAgainstTouching_11 ?_
    refine lv_iload_n hx hb dX7_reasonAgainstTouching_14 rfl (lv_at hl 2 rfl) ?_
    refine ro_SN (As := [.int w_free, .int xp]) (rest := []) ⟨hx, hb, hml, hown, hts⟩ hK (c_X8_hasBit l D cI cJ cZ w_free xp) va_P_nil (va_cnB 2 hts gX7_reasonAgainstTouching_X8_hasBit_n66 rfl rfl rfl (hK.2 _ gN_39) hq1 hd_X8_hasBit ⟨(Nat.le_of_ble_eq_true rfl), (Nat.le_of_ble_eq_true rfl)⟩) hq2 rfl hl.1 rfl (Nat.le_of_ble_eq_true rfl) dX7_reasonAgainstTouching_15 (Nat.zero_le _) (Nat.zero_le _) ?_
    refine lv_iload_n hx hb dX7_reasonAgainstTouching_18 rfl (lv_at hl 1 rfl) ?_
    refine lv_if_ne (tgt := 26) hx hb dX7_reasonAgainstTouching_19 (by decide) (fun c19 => ?_) (fun c19 => ?_)
    · rw [if_neg c19] at hR
      refine lv_iconst (v := (0 : Int32)) hx hb dX7_reasonAgainstTouching_26 (by decide) ?_
      refine lv_icmp_ne (tgt := 32) hx hb dX7_reasonAgainstTouching_27 (by decide) (fun c27 => ?_) (fun c27 => ?_)
      · rw [if_neg c27] at hR
        refine lv_iload_n hx hb dX7_reasonAgainstTouching_32 rfl (lv_at hl 1 rfl) ?_
        refine lv_iconst (v := (2 : Int32)) hx hb dX7_reasonAgainstTouching_33 (by decide) ?_
        refine lv_icmp_ne (tgt := 49) hx hb dX7_reasonAgainstTouching_34 (by decide) (fun c34 => ?_) (fun c34 => ?_)
        · rw [if_neg c34] at hR
          refine lv_iload_n hx hb dX7_reasonAgainstTouching_49 rfl (lv_at hl 1 rfl) ?_
          refine lv_if_ne (tgt := 64) hx hb dX7_reasonAgainstTouching_50 (by decide) (fun _ => ?_) (fun h => absurd h c19)
          refine lv_iconst (v := (0 : Int32)) hx hb dX7_reasonAgainstTouching_64 (by decide) ?_
          subst hR
          exact ro_iret hx hb hr hlocks dX7_reasonAgainstTouching_65
        · rw [if_pos c34] at hR
          refine lv_aload_n hx hb dX7_reasonAgainstTouching_37 rfl (lv_at hl 0 rfl) ?_
          refine va_get (D := D) (ci := 7) (v := .ref w_points_a) (C := RX7) (T := TX7) (N := 12) hx hb hts in_X7_reasonAgainstTouching_X7 hown hK.1 hP 0 rfl rfl 0 (by decide) hq3 (fun _ h9 => h9) rfl dX7_reasonAgainstTouching_38 ?_
          refine lv_iload_n hx hb dX7_reasonAgainstTouching_41 rfl (lv_at hl 2 rfl) ?_
          refine va_iald hx hb hK.1 hP 1 0 rfl rfl (vp_there c5) dX7_reasonAgainstTouching_42 ?_
          refine lv_iload_n hx hb dX7_reasonAgainstTouching_43 rfl (lv_at hl 3 rfl) ?_
          refine lv_icmp_ne (tgt := 49) hx hb dX7_reasonAgainstTouching_44 (by decide) (fun c44 => ?_) (fun c44 => ?_)
          · rw [if_neg c44] at hR
            refine lv_iload_n hx hb dX7_reasonAgainstTouching_49 rfl (lv_at hl 1 rfl) ?_
            refine lv_if_ne (tgt := 64) hx hb dX7_reasonAgainstTouching_50 (by decide) (fun _ => ?_) (fun h => absurd h c19)
            refine lv_iconst (v := (0 : Int32)) hx hb dX7_reasonAgainstTouching_64 (by decide) ?_
            subst hR
            exact ro_iret hx hb hr hlocks dX7_reasonAgainstTouching_65
          · rw [if_pos c44] at hR
            refine lv_iconst (v := (3 : Int32)) hx hb dX7_reasonAgainstTouching_47 (by decide) ?_
            subst hR
            exact ro_iret hx hb hr hlocks dX7_reasonAgainstTouching_48
      · rw [if_pos c27] at hR
        refine lv_iconst (v := (2 : Int32)) hx hb dX7_reasonAgainstTouching_30 (by decide) ?_
        subst hR
        exact ro_iret hx hb hr hlocks dX7_reasonAgainstTouching_31
    · rw [if_pos c19] at hR
      refine lv_iconst (v := (1 : Int32)) hx hb dX7_reasonAgainstTouching_22 (by decide) ?_
      refine lv_goto (tgt := 27) hx hb dX7_reasonAgainstTouching_23 (by decide) ?_
      refine lv_icmp_ne (tgt := 32) hx hb dX7_reasonAgainstTouching_27 (by decide) (fun c27 => ?_) (fun c27 => ?_)
      · rw [if_neg c27] at hR
        refine lv_iload_n hx hb dX7_reasonAgainstTouching_32 rfl (lv_at hl 1 rfl) ?_
        refine lv_iconst (v := (2 : Int32)) hx hb dX7_reasonAgainstTouching_33 (by decide) ?_
        refine lv_icmp_ne (tgt := 49) hx hb dX7_reasonAgainstTouching_34 (by decide) (fun c34 => ?_) (fun c34 => ?_)
        · rw [if_neg c34] at hR
          refine lv_iload_n hx hb dX7_reasonAgainstTouching_49 rfl (lv_at hl 1 rfl) ?_
          refine lv_if_ne (tgt := 64) hx hb dX7_reasonAgainstTouching_50 (by decide) (fun h => absurd c19 h) (fun _ => ?_)
          refine lv_aload_n hx hb dX7_reasonAgainstTouching_53 rfl (lv_at hl 0 rfl) ?_
          refine va_get (D := D) (ci := 7) (v := .int w_oil) (C := RX7) (T := TX7) (N := 12) hx hb hts in_X7_reasonAgainstTouching_X7 hown hK.1 hP 0 rfl rfl 7 (by decide) hq4 (fun _ h9 => h9) rfl dX7_reasonAgainstTouching_54 ?_
          refine lv_if_gt (tgt := 64) hx hb dX7_reasonAgainstTouching_57 (by decide) (fun c57 => ?_) (fun c57 => ?_)
          · rw [if_pos c57] at hR
            refine lv_iconst (v := (0 : Int32)) hx hb dX7_reasonAgainstTouching_64 (by decide) ?_
            subst hR
            exact ro_iret hx hb hr hlocks dX7_reasonAgainstTouching_65
          · rw [if_neg c57] at hR
            refine lv_iconst (v := (4 : Int32)) hx hb dX7_reasonAgainstTouching_60 (by decide) ?_
            refine lv_goto (tgt := 65) hx hb dX7_reasonAgainstTouching_61 (by decide) ?_
            subst hR
            exact ro_iret hx hb hr hlocks dX7_reasonAgainstTouching_65
        · rw [if_pos c34] at hR
          refine lv_aload_n hx hb dX7_reasonAgainstTouching_37 rfl (lv_at hl 0 rfl) ?_
          refine va_get (D := D) (ci := 7) (v := .ref w_points_a) (C := RX7) (T := TX7) (N := 12) hx hb hts in_X7_reasonAgainstTouching_X7 hown hK.1 hP 0 rfl rfl 0 (by decide) hq3 (fun _ h9 => h9) rfl dX7_reasonAgainstTouching_38 ?_
          refine lv_iload_n hx hb dX7_reasonAgainstTouching_41 rfl (lv_at hl 2 rfl) ?_
          refine va_iald hx hb hK.1 hP 1 0 rfl rfl (vp_there c5) dX7_reasonAgainstTouching_42 ?_
          refine lv_iload_n hx hb dX7_reasonAgainstTouching_43 rfl (lv_at hl 3 rfl) ?_
          refine lv_icmp_ne (tgt := 49) hx hb dX7_reasonAgainstTouching_44 (by decide) (fun c44 => ?_) (fun c44 => ?_)
          · rw [if_neg c44] at hR
            refine lv_iload_n hx hb dX7_reasonAgainstTouching_49 rfl (lv_at hl 1 rfl) ?_
            refine lv_if_ne (tgt := 64) hx hb dX7_reasonAgainstTouching_50 (by decide) (fun h => absurd c19 h) (fun _ => ?_)
            refine lv_aload_n hx hb dX7_reasonAgainstTouching_53 rfl (lv_at hl 0 rfl) ?_
            refine va_get (D := D) (ci := 7) (v := .int w_oil) (C := RX7) (T := TX7) (N := 12) hx hb hts in_X7_reasonAgainstTouching_X7 hown hK.1 hP 0 rfl rfl 7 (by decide) hq4 (fun _ h9 => h9) rfl dX7_reasonAgainstTouching_54 ?_
            refine lv_if_gt (tgt := 64) hx hb dX7_reasonAgainstTouching_57 (by decide) (fun c57 => ?_) (fun c57 => ?_)
            · rw [if_pos c57] at hR
              refine lv_iconst (v := (0 : Int32)) hx hb dX7_reasonAgainstTouching_64 (by decide) ?_
              subst hR
              exact ro_iret hx hb hr hlocks dX7_reasonAgainstTouching_65
            · rw [if_neg c57] at hR
              refine lv_iconst (v := (4 : Int32)) hx hb dX7_reasonAgainstTouching_60 (by decide) ?_
              refine lv_goto (tgt := 65) hx hb dX7_reasonAgainstTouching_61 (by decide) ?_
              subst hR
              exact ro_iret hx hb hr hlocks dX7_reasonAgainstTouching_65
          · rw [if_pos c44] at hR
            refine lv_iconst (v := (3 : Int32)) hx hb dX7_reasonAgainstTouching_47 (by decide) ?_
            subst hR
            exact ro_iret hx hb hr hlocks dX7_reasonAgainstTouching_48
      · rw [if_pos c27] at hR
        refine lv_iconst (v := (2 : Int32)) hx hb dX7_reasonAgainstTouching_30 (by decide) ?_
        subst hR
        exact ro_iret hx hb hr hlocks dX7_reasonAgainstTouching_31
  · rw [if_pos c5] at hR
    refine lv_iconst (v := (1 : Int32)) hx hb dX7_reasonAgainstTouching_8 (by decide) ?_
    subst hR
    exact ro_iret hx hb hr hlocks dX7_reasonAgainstTouching_9


theorem in_X7_reasonAgainst_X7 : ∀ w ∈ u_ws RX7 TX7 12, w ∈ wsX7_reasonAgainst := by decide +kernel
theorem hd_X7_reasonAgainstTouching : yX7_reasonAgainstTouching.cls ≠ "java/lang/invoke/MethodHandle" ∧ yX7_reasonAgainstTouching.cls ≠ "java/lang/invoke/VarHandle" ∧ (parseMethodDescriptor yX7_reasonAgainstTouching.desc).map (fun d => d.parameters.length) = some 3 := by decide +kernel
def f_X7_reasonAgainst (w_there : Int32) (w_free : Int32) (w_wind : Int32) (w_oil : Int32) (w_hour : Int32) (w_points : Nat → Int32) (xk : Int32) (xp : Int32) (xn : Int32) : Int32 :=
  (if (xk = (0 : Int32)) then (f_X7_reasonAgainstTouching w_there w_free w_oil w_points xk xp xn) else (if (xk = (1 : Int32)) then (f_X7_reasonAgainstTouching w_there w_free w_oil w_points xk xp xn) else (if (xk = (2 : Int32)) then (f_X7_reasonAgainstTouching w_there w_free w_oil w_points xk xp xn) else (if (xk = (3 : Int32)) then (if (w_wind = xn) then (5 : Int32) else (0 : Int32)) else (if (xk = (4 : Int32)) then (if (w_there = 0) then (6 : Int32) else (0 : Int32)) else (if (w_hour < (99 : Int32)) then (0 : Int32) else (7 : Int32)))))))
set_option maxHeartbeats 4000000 in
set_option maxRecDepth 100000 in
theorem c_X7_reasonAgainst (l : Launch) (D : va_G) (cI cJ cZ : ClassId) (w : Nat) (w_points_a : Nat) (w_tired_a : Nat) (w_near_a : Nat) (w_there : Int32) (w_free : Int32) (w_held : Int32) (w_wind : Int32) (w_oil : Int32) (w_hour : Int32) (w_sights : Int32) (w_agreedTo : Int32) (w_refused : Int32) (w_points : Nat → Int32) (xk : Int32) (xp : Int32) (xn : Int32) : RO l yX7_reasonAgainst wsX7_reasonAgainst ({ frames := 2, cells := 0, slots := 0, locals := 44 }) [.ref w, .int xk, .int xp, .int xn] D cI cJ cZ [(w, .inr (7, [.ref w_points_a, .ref w_tired_a, .ref w_near_a, .int w_there, .int w_free, .int w_held, .int w_wind, .int w_oil, .int w_hour, .int w_sights, .int w_agreedTo, .int w_refused])), (w_points_a, .inl (cI, 7, .inl w_points))] (.int (f_X7_reasonAgainst w_there w_free w_wind w_oil w_hour w_points xk xp xn)) := by
  obtain ⟨R, hR⟩ : ∃ R, (f_X7_reasonAgainst w_there w_free w_wind w_oil w_hour w_points xk xp xn) = R := ⟨_, rfl⟩
  rw [hR]
  refine ro_start (cc := cX7_reasonAgainst) (maxL := 4) (ret := (some .int)) (by decide) rfl (Nat.le_of_ble_eq_true rfl) ?_
  intro p e s m args below meth c hx hb hr hml hown hts hlocks hP hK ls hl
  have hown : s.vm.findClass RX7 = some m.cls := hown
  have hl : lv_has ls 4 [(0, .ref w), (1, .int xk), (2, .int xp), (3, .int xn)] := hl
  have hq0 := hts (.fieldLink RX7 34 "StuckVanes$World" "wind" "I") (by decide +kernel)
  have hq1 := hts (.fieldLink RX7 25 "StuckVanes$World" "there" "I") (by decide +kernel)
  have hq2 := hts (.fieldLink RX7 37 "StuckVanes$World" "hour" "I") (by decide +kernel)
  rw [f_X7_reasonAgainst] at hR
  refine lv_iload_n hx hb dX7_reasonAgainst_0 rfl (lv_at hl 1 rfl) ?_
  by_cases c1_0 : (xk = (0 : Int32))
  · rw [if_pos c1_0] at hR
    refine lv_tableIn (off := 35) (tgt := 36) hx hb dX7_reasonAgainst_1 (by rw [c1_0]; decide) (by rw [c1_0]; decide) (by rw [c1_0]; rfl) (by decide) ?_
    refine lv_aload_n hx hb dX7_reasonAgainst_36 rfl (lv_at hl 0 rfl) ?_
    refine lv_iload_n hx hb dX7_reasonAgainst_37 rfl (lv_at hl 1 rfl) ?_
    refine lv_iload_n hx hb dX7_reasonAgainst_38 rfl (lv_at hl 2 rfl) ?_
    refine lv_iload_n hx hb dX7_reasonAgainst_39 rfl (lv_at hl 3 rfl) ?_
    refine ro_V (As := [.int xk, .int xp, .int xn]) (rest := []) ⟨hx, hb, hml, hown, hts⟩ hK (c_X7_reasonAgainstTouching l D cI cJ cZ w w_points_a w_tired_a w_near_a w_there w_free w_held w_wind w_oil w_hour w_sights w_agreedTo w_refused w_points xk xp xn) hP 0 rfl rfl (rw_sub hP [0, 1] rfl) (cwV 3 hts gX7_reasonAgainst_X7_reasonAgainstTouching rfl rfl rfl ⟨rfl, hd_X7_reasonAgainstTouching⟩ ⟨(Nat.le_of_ble_eq_true rfl), (Nat.le_of_ble_eq_true rfl)⟩) rfl hl.1 rfl (Nat.le_of_ble_eq_true rfl) dX7_reasonAgainst_40 (Nat.zero_le _) (Nat.zero_le _) ?_
    subst hR
    exact ro_iret hx hb hr hlocks dX7_reasonAgainst_43
  · rw [if_neg c1_0] at hR
    by_cases c1_1 : (xk = (1 : Int32))
    · rw [if_pos c1_1] at hR
      refine lv_tableIn (off := 35) (tgt := 36) hx hb dX7_reasonAgainst_1 (by rw [c1_1]; decide) (by rw [c1_1]; decide) (by rw [c1_1]; rfl) (by decide) ?_
      refine lv_aload_n hx hb dX7_reasonAgainst_36 rfl (lv_at hl 0 rfl) ?_
      refine lv_iload_n hx hb dX7_reasonAgainst_37 rfl (lv_at hl 1 rfl) ?_
      refine lv_iload_n hx hb dX7_reasonAgainst_38 rfl (lv_at hl 2 rfl) ?_
      refine lv_iload_n hx hb dX7_reasonAgainst_39 rfl (lv_at hl 3 rfl) ?_
      refine ro_V (As := [.int xk, .int xp, .int xn]) (rest := []) ⟨hx, hb, hml, hown, hts⟩ hK (c_X7_reasonAgainstTouching l D cI cJ cZ w w_points_a w_tired_a w_near_a w_there w_free w_held w_wind w_oil w_hour w_sights w_agreedTo w_refused w_points xk xp xn) hP 0 rfl rfl (rw_sub hP [0, 1] rfl) (cwV 3 hts gX7_reasonAgainst_X7_reasonAgainstTouching rfl rfl rfl ⟨rfl, hd_X7_reasonAgainstTouching⟩ ⟨(Nat.le_of_ble_eq_true rfl), (Nat.le_of_ble_eq_true rfl)⟩) rfl hl.1 rfl (Nat.le_of_ble_eq_true rfl) dX7_reasonAgainst_40 (Nat.zero_le _) (Nat.zero_le _) ?_
      subst hR
      exact ro_iret hx hb hr hlocks dX7_reasonAgainst_43
    · rw [if_neg c1_1] at hR
      by_cases c1_2 : (xk = (2 : Int32))
      · rw [if_pos c1_2] at hR
        refine lv_tableIn (off := 35) (tgt := 36) hx hb dX7_reasonAgainst_1 (by rw [c1_2]; decide) (by rw [c1_2]; decide) (by rw [c1_2]; rfl) (by decide) ?_
        refine lv_aload_n hx hb dX7_reasonAgainst_36 rfl (lv_at hl 0 rfl) ?_
        refine lv_iload_n hx hb dX7_reasonAgainst_37 rfl (lv_at hl 1 rfl) ?_
        refine lv_iload_n hx hb dX7_reasonAgainst_38 rfl (lv_at hl 2 rfl) ?_
        refine lv_iload_n hx hb dX7_reasonAgainst_39 rfl (lv_at hl 3 rfl) ?_
        refine ro_V (As := [.int xk, .int xp, .int xn]) (rest := []) ⟨hx, hb, hml, hown, hts⟩ hK (c_X7_reasonAgainstTouching l D cI cJ cZ w w_points_a w_tired_a w_near_a w_there w_free w_held w_wind w_oil w_hour w_sights w_agreedTo w_refused w_points xk xp xn) hP 0 rfl rfl (rw_sub hP [0, 1] rfl) (cwV 3 hts gX7_reasonAgainst_X7_reasonAgainstTouching rfl rfl rfl ⟨rfl, hd_X7_reasonAgainstTouching⟩ ⟨(Nat.le_of_ble_eq_true rfl), (Nat.le_of_ble_eq_true rfl)⟩) rfl hl.1 rfl (Nat.le_of_ble_eq_true rfl) dX7_reasonAgainst_40 (Nat.zero_le _) (Nat.zero_le _) ?_
        subst hR
        exact ro_iret hx hb hr hlocks dX7_reasonAgainst_43
      · rw [if_neg c1_2] at hR
        by_cases c1_3 : (xk = (3 : Int32))
        · rw [if_pos c1_3] at hR
          refine lv_tableIn (off := 43) (tgt := 44) hx hb dX7_reasonAgainst_1 (by rw [c1_3]; decide) (by rw [c1_3]; decide) (by rw [c1_3]; rfl) (by decide) ?_
          refine lv_aload_n hx hb dX7_reasonAgainst_44 rfl (lv_at hl 0 rfl) ?_
          refine va_get (D := D) (ci := 7) (v := .int w_wind) (C := RX7) (T := TX7) (N := 12) hx hb hts in_X7_reasonAgainst_X7 hown hK.1 hP 0 rfl rfl 6 (by decide) hq0 (fun _ h9 => h9) rfl dX7_reasonAgainst_45 ?_
          refine lv_iload_n hx hb dX7_reasonAgainst_48 rfl (lv_at hl 3 rfl) ?_
          refine lv_icmp_ne (tgt := 56) hx hb dX7_reasonAgainst_49 (by decide) (fun c49 => ?_) (fun c49 => ?_)
          · rw [if_neg c49] at hR
            refine lv_iconst (v := (0 : Int32)) hx hb dX7_reasonAgainst_56 (by decide) ?_
            subst hR
            exact ro_iret hx hb hr hlocks dX7_reasonAgainst_57
          · rw [if_pos c49] at hR
            refine lv_iconst (v := (5 : Int32)) hx hb dX7_reasonAgainst_52 (by decide) ?_
            refine lv_goto (tgt := 57) hx hb dX7_reasonAgainst_53 (by decide) ?_
            subst hR
            exact ro_iret hx hb hr hlocks dX7_reasonAgainst_57
        · rw [if_neg c1_3] at hR
          by_cases c1_4 : (xk = (4 : Int32))
          · rw [if_pos c1_4] at hR
            refine lv_tableIn (off := 57) (tgt := 58) hx hb dX7_reasonAgainst_1 (by rw [c1_4]; decide) (by rw [c1_4]; decide) (by rw [c1_4]; rfl) (by decide) ?_
            refine lv_aload_n hx hb dX7_reasonAgainst_58 rfl (lv_at hl 0 rfl) ?_
            refine va_get (D := D) (ci := 7) (v := .int w_there) (C := RX7) (T := TX7) (N := 12) hx hb hts in_X7_reasonAgainst_X7 hown hK.1 hP 0 rfl rfl 3 (by decide) hq1 (fun _ h9 => h9) rfl dX7_reasonAgainst_59 ?_
            refine lv_if_ne (tgt := 70) hx hb dX7_reasonAgainst_62 (by decide) (fun c62 => ?_) (fun c62 => ?_)
            · rw [if_neg c62] at hR
              refine lv_iconst (v := (0 : Int32)) hx hb dX7_reasonAgainst_70 (by decide) ?_
              subst hR
              exact ro_iret hx hb hr hlocks dX7_reasonAgainst_71
            · rw [if_pos c62] at hR
              refine lv_bipush (v := (6 : Int32)) hx hb dX7_reasonAgainst_65 (by decide +kernel) ?_
              refine lv_goto (tgt := 71) hx hb dX7_reasonAgainst_67 (by decide) ?_
              subst hR
              exact ro_iret hx hb hr hlocks dX7_reasonAgainst_71
          · rw [if_neg c1_4] at hR
            refine lv_tableOut (tgt := 72) hx hb dX7_reasonAgainst_1 (by have z0 := sw_toInt (n := 0) (by decide) c1_0; have z1 := sw_toInt (n := 1) (by decide) c1_1; have z2 := sw_toInt (n := 2) (by decide) c1_2; have z3 := sw_toInt (n := 3) (by decide) c1_3; have z4 := sw_toInt (n := 4) (by decide) c1_4; omega) (by decide) ?_
            refine lv_aload_n hx hb dX7_reasonAgainst_72 rfl (lv_at hl 0 rfl) ?_
            refine va_get (D := D) (ci := 7) (v := .int w_hour) (C := RX7) (T := TX7) (N := 12) hx hb hts in_X7_reasonAgainst_X7 hown hK.1 hP 0 rfl rfl 8 (by decide) hq2 (fun _ h9 => h9) rfl dX7_reasonAgainst_73 ?_
            refine lv_bipush (v := (99 : Int32)) hx hb dX7_reasonAgainst_76 (by decide +kernel) ?_
            refine lv_icmp_lt (tgt := 86) hx hb dX7_reasonAgainst_78 (by decide) (fun c78 => ?_) (fun c78 => ?_)
            · rw [if_pos c78] at hR
              refine lv_iconst (v := (0 : Int32)) hx hb dX7_reasonAgainst_86 (by decide) ?_
              subst hR
              exact ro_iret hx hb hr hlocks dX7_reasonAgainst_87
            · rw [if_neg c78] at hR
              refine lv_bipush (v := (7 : Int32)) hx hb dX7_reasonAgainst_81 (by decide +kernel) ?_
              refine lv_goto (tgt := 87) hx hb dX7_reasonAgainst_83 (by decide) ?_
              subst hR
              exact ro_iret hx hb hr hlocks dX7_reasonAgainst_87


theorem in_X7_turnByHand_X7 : ∀ w ∈ u_ws RX7 TX7 12, w ∈ wsX7_turnByHand := by decide +kernel
def f_X7_turnByHand (w_there : Int32) (w_points : Nat → Int32) (xp : Int32) (xw : Int32) : (Nat → Int32) :=
  (if ((f_X7_isThere w_there xp) = 0) then w_points else (upd w_points xp.toNatClampNeg xw))
set_option maxHeartbeats 4000000 in
set_option maxRecDepth 100000 in
theorem c_X7_turnByHand (l : Launch) (D : va_G) (cI cJ cZ : ClassId) (w : Nat) (w_points_a : Nat) (w_tired_a : Nat) (w_near_a : Nat) (w_there : Int32) (w_free : Int32) (w_held : Int32) (w_wind : Int32) (w_oil : Int32) (w_hour : Int32) (w_sights : Int32) (w_agreedTo : Int32) (w_refused : Int32) (w_points : Nat → Int32) (xp : Int32) (xw : Int32) : RW l yX7_turnByHand wsX7_turnByHand ({ frames := 1, cells := 0, slots := 0, locals := 21 }) [.ref w, .int xp, .int xw] D cI cJ cZ [(w, .inr (7, [.ref w_points_a, .ref w_tired_a, .ref w_near_a, .int w_there, .int w_free, .int w_held, .int w_wind, .int w_oil, .int w_hour, .int w_sights, .int w_agreedTo, .int w_refused])), (w_points_a, .inl (cI, 7, .inl w_points))] none [(w, .inr (7, [.ref w_points_a, .ref w_tired_a, .ref w_near_a, .int w_there, .int w_free, .int w_held, .int w_wind, .int w_oil, .int w_hour, .int w_sights, .int w_agreedTo, .int w_refused])), (w_points_a, .inl (cI, 7, .inl (f_X7_turnByHand w_there w_points xp xw)))] := by
  obtain ⟨R, hR⟩ : ∃ R, (f_X7_turnByHand w_there w_points xp xw) = R := ⟨_, rfl⟩
  rw [hR]
  refine rw_start (cc := cX7_turnByHand) (maxL := 3) (ret := none) (by decide) rfl (Nat.le_of_ble_eq_true rfl) ?_
  intro p e s m args below meth c hx hb hr hml hown hts hlocks hP hD hS hK ls hl
  have hown : s.vm.findClass RX7 = some m.cls := hown
  have hl : lv_has ls 3 [(0, .ref w), (1, .int xp), (2, .int xw)] := hl
  have hq0 := hts (.fieldLink RX7 9 "StuckVanes$World" "points" "[I") (by decide +kernel)
  rw [f_X7_turnByHand] at hR
  refine lv_aload_n hx hb dX7_turnByHand_0 rfl (lv_at hl 0 rfl) ?_
  refine lv_iload_n hx hb dX7_turnByHand_1 rfl (lv_at hl 1 rfl) ?_
  refine ro_V (As := [.int xp]) (rest := []) ⟨hx, hb, hml, hown, hts⟩ hK (c_X7_isThere l D cI cJ cZ w w_points_a w_tired_a w_near_a w_there w_free w_held w_wind w_oil w_hour w_sights w_agreedTo w_refused xp) hP 0 rfl rfl (rw_sub hP [0] rfl) (cwV 1 hts gX7_turnByHand_X7_isThere rfl rfl rfl ⟨rfl, hd_X7_isThere⟩ ⟨(Nat.le_of_ble_eq_true rfl), (Nat.le_of_ble_eq_true rfl)⟩) rfl hl.1 rfl (Nat.le_of_ble_eq_true rfl) dX7_turnByHand_2 (Nat.zero_le _) (Nat.zero_le _) ?_
  refine lv_if_eq (tgt := 15) hx hb dX7_turnByHand_5 (by decide) (fun c5 => ?_) (fun c5 => ?_)
  · rw [if_pos c5] at hR
    subst hR
    exact rw_vret hx hb hr hlocks hP hS dX7_turnByHand_15
  · rw [if_neg c5] at hR
    refine lv_aload_n hx hb dX7_turnByHand_8 rfl (lv_at hl 0 rfl) ?_
    refine va_get (D := D) (ci := 7) (v := .ref w_points_a) (C := RX7) (T := TX7) (N := 12) hx hb hts in_X7_turnByHand_X7 hown hK.1 hP 0 rfl rfl 0 (by decide) hq0 (fun _ h9 => h9) rfl dX7_turnByHand_9 ?_
    refine lv_iload_n hx hb dX7_turnByHand_12 rfl (lv_at hl 1 rfl) ?_
    refine lv_iload_n hx hb dX7_turnByHand_13 rfl (lv_at hl 2 rfl) ?_
    refine va_iast hx hb hK.1 hP hD hS 1 0 rfl rfl (vp_there c5) dX7_turnByHand_14 (fun H locs hP hD hS => ?_)
    have hP : va_P D vwCl [(w, .inr (7, [.ref w_points_a, .ref w_tired_a, .ref w_near_a, .int w_there, .int w_free, .int w_held, .int w_wind, .int w_oil, .int w_hour, .int w_sights, .int w_agreedTo, .int w_refused])), (w_points_a, .inl (cI, 7, .inl (upd w_points xp.toNatClampNeg xw)))] H := hP
    have hD : va_D _ [(w, .inr (7, [.ref w_points_a, .ref w_tired_a, .ref w_near_a, .int w_there, .int w_free, .int w_held, .int w_wind, .int w_oil, .int w_hour, .int w_sights, .int w_agreedTo, .int w_refused])), (w_points_a, .inl (cI, 7, .inl (upd w_points xp.toNatClampNeg xw)))] := hD
    subst hR
    exact rw_vret hx hb hr hlocks hP hS dX7_turnByHand_15


theorem in_X7_turnVanes_X7 : ∀ w ∈ u_ws RX7 TX7 12, w ∈ wsX7_turnVanes := by decide +kernel
theorem hd_X7_nearer : yX7_nearer.cls ≠ "java/lang/invoke/MethodHandle" ∧ yX7_nearer.cls ≠ "java/lang/invoke/VarHandle" ∧ (parseMethodDescriptor yX7_nearer.desc).map (fun d => d.parameters.length) = some 2 := by decide +kernel
def lp_X7_turnVanes_2 (w_there : Int32) (w_free : Int32) (xg : Int32) : Nat → Nat → (Nat → Int32) → (Nat → Int32) → (Nat → Int32) × (Nat → Int32)
  | 0, _, r1_2, r2_2 => (r1_2, r2_2)
  | k2 + 1, i2, r1_2, r2_2 => (if ((f_X7_isThere w_there (nI i2)) = 0) then (lp_X7_turnVanes_2 w_there w_free xg k2 (i2 + 1) r1_2 r2_2) else (if ((f_X8_hasBit w_free (nI i2)) = 0) then (lp_X7_turnVanes_2 w_there w_free xg k2 (i2 + 1) r1_2 (upd r2_2 i2 (if (0 : Int32) < ((r2_2 i2) - (1 : Int32)) then ((r2_2 i2) - (1 : Int32)) else (0 : Int32)))) else (if ((r1_2 i2) = xg) then (lp_X7_turnVanes_2 w_there w_free xg k2 (i2 + 1) r1_2 (upd r2_2 i2 (if (0 : Int32) < ((r2_2 i2) - (1 : Int32)) then ((r2_2 i2) - (1 : Int32)) else (0 : Int32)))) else (lp_X7_turnVanes_2 w_there w_free xg k2 (i2 + 1) (upd r1_2 i2 (f_X7_nearer (r1_2 i2) xg)) (upd r2_2 i2 (if ((r2_2 i2) + (1 : Int32)) < (9 : Int32) then ((r2_2 i2) + (1 : Int32)) else (9 : Int32)))))))
def f_X7_turnVanes (w_there : Int32) (w_free : Int32) (w_points : Nat → Int32) (w_tired : Nat → Int32) (xg : Int32) : (Nat → Int32) × (Nat → Int32) :=
  ((lp_X7_turnVanes_2 w_there w_free xg 7 0 w_points w_tired).1, (lp_X7_turnVanes_2 w_there w_free xg 7 0 w_points w_tired).2)
set_option maxHeartbeats 4000000 in
set_option maxRecDepth 100000 in
theorem c_X7_turnVanes (l : Launch) (D : va_G) (cI cJ cZ : ClassId) (w : Nat) (w_points_a : Nat) (w_tired_a : Nat) (w_near_a : Nat) (w_there : Int32) (w_free : Int32) (w_held : Int32) (w_wind : Int32) (w_oil : Int32) (w_hour : Int32) (w_sights : Int32) (w_agreedTo : Int32) (w_refused : Int32) (w_points : Nat → Int32) (w_tired : Nat → Int32) (xg : Int32) : RW l yX7_turnVanes wsX7_turnVanes ({ frames := 1, cells := 0, slots := 0, locals := 23 }) [.ref w, .int xg] D cI cJ cZ [(w, .inr (7, [.ref w_points_a, .ref w_tired_a, .ref w_near_a, .int w_there, .int w_free, .int w_held, .int w_wind, .int w_oil, .int w_hour, .int w_sights, .int w_agreedTo, .int w_refused])), (w_points_a, .inl (cI, 7, .inl w_points)), (w_tired_a, .inl (cI, 7, .inl w_tired))] none [(w, .inr (7, [.ref w_points_a, .ref w_tired_a, .ref w_near_a, .int w_there, .int w_free, .int w_held, .int w_wind, .int w_oil, .int w_hour, .int w_sights, .int w_agreedTo, .int w_refused])), (w_points_a, .inl (cI, 7, .inl ((f_X7_turnVanes w_there w_free w_points w_tired xg).1))), (w_tired_a, .inl (cI, 7, .inl ((f_X7_turnVanes w_there w_free w_points w_tired xg).2)))] := by
  obtain ⟨R0, R1, hR⟩ := prodE2 (f_X7_turnVanes w_there w_free w_points w_tired xg)
  rw [hR]
  dsimp only
  refine rw_start (cc := cX7_turnVanes) (maxL := 3) (ret := none) (by decide) rfl (Nat.le_of_ble_eq_true rfl) ?_
  intro p e s m args below meth c hx hb hr hml hown hts hlocks hP hD hS hK ls hl
  have hown : s.vm.findClass RX7 = some m.cls := hown
  have hl : lv_has ls 3 [(0, .ref w), (1, .int xg)] := hl
  have hq0 := hts (.fieldLink RX7 28 "StuckVanes$World" "free" "I") (by decide +kernel)
  have hq1 := hts (.initialized RX8) (by decide +kernel)
  have hq10 := hts (.static Lib.Math.min.name) (by decide +kernel)
  have hq11 := hts (.code Lib.Math.min.name Lib.Math.min.code 2 (some .int)) (by decide +kernel)
  have hq2 := hts (.static yX8_hasBit) (by decide +kernel)
  have hq3 := hts (.fieldLink RX7 15 "StuckVanes$World" "tired" "[I") (by decide +kernel)
  have hq4 := hts (.methodLink RX7 104 Lib.Math.max.name) (by decide +kernel)
  have hq5 := hts (.static Lib.Math.max.name) (by decide +kernel)
  have hq6 := hts (.initialized "java/lang/Math") (by decide +kernel)
  have hq7 := hts (.code Lib.Math.max.name Lib.Math.max.code 2 (some .int)) (by decide +kernel)
  have hq8 := hts (.fieldLink RX7 9 "StuckVanes$World" "points" "[I") (by decide +kernel)
  have hq9 := hts (.methodLink RX7 99 Lib.Math.min.name) (by decide +kernel)
  rw [f_X7_turnVanes] at hR
  refine lv_iconst (v := (0 : Int32)) hx hb dX7_turnVanes_0 (by decide) ?_
  refine lv_istore_n (lv' := [(2, .int (0 : Int32)), (0, .ref w), (1, .int xg)]) hx hb dX7_turnVanes_1 rfl hl (by decide) rfl (fun ls hl => ?_)
  obtain ⟨F2_1, hF2_1⟩ : ∃ x, (lp_X7_turnVanes_2 w_there w_free xg 7 0 w_points w_tired) = x := ⟨_, rfl⟩
  try rw [hF2_1] at hR
  have hexit2 : ∀ (H : Heap) (locs : List Loc), va_P D vwCl [(w, .inr (7, [.ref w_points_a, .ref w_tired_a, .ref w_near_a, .int w_there, .int w_free, .int w_held, .int w_wind, .int w_oil, .int w_hour, .int w_sights, .int w_agreedTo, .int w_refused])), (w_points_a, .inl (cI, 7, .inl F2_1.1)), (w_tired_a, .inl (cI, 7, .inl F2_1.2))] H → va_D (va_In [(w, .inr (7, [.ref w_points_a, .ref w_tired_a, .ref w_near_a, .int w_there, .int w_free, .int w_held, .int w_wind, .int w_oil, .int w_hour, .int w_sights, .int w_agreedTo, .int w_refused])), (w_points_a, .inl (cI, 7, .inl w_points)), (w_tired_a, .inl (cI, 7, .inl w_tired))]) [(w, .inr (7, [.ref w_points_a, .ref w_tired_a, .ref w_near_a, .int w_there, .int w_free, .int w_held, .int w_wind, .int w_oil, .int w_hour, .int w_sights, .int w_agreedTo, .int w_refused])), (w_points_a, .inl (cI, 7, .inl F2_1.1)), (w_tired_a, .inl (cI, 7, .inl F2_1.2))] → va_S (va_In [(w, .inr (7, [.ref w_points_a, .ref w_tired_a, .ref w_near_a, .int w_there, .int w_free, .int w_held, .int w_wind, .int w_oil, .int w_hour, .int w_sights, .int w_agreedTo, .int w_refused])), (w_points_a, .inl (cI, 7, .inl w_points)), (w_tired_a, .inl (cI, 7, .inl w_tired))]) s.heap H locs → ∀ (ls : Array Slot), lv_has ls 3 [(0, .ref w), (1, .int xg)] → W p l e ({ frames := 1, cells := 0, slots := 0, locals := 23 }) s m args below meth c H locs 0 0 (MQ below (rw_Q D none [(w, .inr (7, [.ref w_points_a, .ref w_tired_a, .ref w_near_a, .int w_there, .int w_free, .int w_held, .int w_wind, .int w_oil, .int w_hour, .int w_sights, .int w_agreedTo, .int w_refused])), (w_points_a, .inl (cI, 7, .inl w_points)), (w_tired_a, .inl (cI, 7, .inl w_tired))] [(w, .inr (7, [.ref w_points_a, .ref w_tired_a, .ref w_near_a, .int w_there, .int w_free, .int w_held, .int w_wind, .int w_oil, .int w_hour, .int w_sights, .int w_agreedTo, .int w_refused])), (w_points_a, .inl (cI, 7, .inl R0)), (w_tired_a, .inl (cI, 7, .inl R1))]) args s 0 0 (va_In [(w, .inr (7, [.ref w_points_a, .ref w_tired_a, .ref w_near_a, .int w_there, .int w_free, .int w_held, .int w_wind, .int w_oil, .int w_hour, .int w_sights, .int w_agreedTo, .int w_refused])), (w_points_a, .inl (cI, 7, .inl w_points)), (w_tired_a, .inl (cI, 7, .inl w_tired))])) (F0 m 102 ls []) := by
    intro H locs hP hD hS ls hl
    obtain ⟨rfl, rfl⟩ := prodI2 hR
    exact rw_vret hx hb hr hlocks hP hS dX7_turnVanes_102
  have hloop2 : ∀ (k2 i2 : Nat) (r1_2 : Nat → Int32) (r2_2 : Nat → Int32), i2 + k2 = 7 → ∀ (H : Heap) (locs : List Loc), va_P D vwCl [(w, .inr (7, [.ref w_points_a, .ref w_tired_a, .ref w_near_a, .int w_there, .int w_free, .int w_held, .int w_wind, .int w_oil, .int w_hour, .int w_sights, .int w_agreedTo, .int w_refused])), (w_points_a, .inl (cI, 7, .inl r1_2)), (w_tired_a, .inl (cI, 7, .inl r2_2))] H → va_D (va_In [(w, .inr (7, [.ref w_points_a, .ref w_tired_a, .ref w_near_a, .int w_there, .int w_free, .int w_held, .int w_wind, .int w_oil, .int w_hour, .int w_sights, .int w_agreedTo, .int w_refused])), (w_points_a, .inl (cI, 7, .inl w_points)), (w_tired_a, .inl (cI, 7, .inl w_tired))]) [(w, .inr (7, [.ref w_points_a, .ref w_tired_a, .ref w_near_a, .int w_there, .int w_free, .int w_held, .int w_wind, .int w_oil, .int w_hour, .int w_sights, .int w_agreedTo, .int w_refused])), (w_points_a, .inl (cI, 7, .inl r1_2)), (w_tired_a, .inl (cI, 7, .inl r2_2))] → va_S (va_In [(w, .inr (7, [.ref w_points_a, .ref w_tired_a, .ref w_near_a, .int w_there, .int w_free, .int w_held, .int w_wind, .int w_oil, .int w_hour, .int w_sights, .int w_agreedTo, .int w_refused])), (w_points_a, .inl (cI, 7, .inl w_points)), (w_tired_a, .inl (cI, 7, .inl w_tired))]) s.heap H locs → ∀ (ls : Array Slot), lv_has ls 3 [(2, .int (nI i2)), (0, .ref w), (1, .int xg)] → lp_X7_turnVanes_2 w_there w_free xg k2 i2 r1_2 r2_2 = F2_1 → W p l e ({ frames := 1, cells := 0, slots := 0, locals := 23 }) s m args below meth c H locs 0 0 (MQ below (rw_Q D none [(w, .inr (7, [.ref w_points_a, .ref w_tired_a, .ref w_near_a, .int w_there, .int w_free, .int w_held, .int w_wind, .int w_oil, .int w_hour, .int w_sights, .int w_agreedTo, .int w_refused])), (w_points_a, .inl (cI, 7, .inl w_points)), (w_tired_a, .inl (cI, 7, .inl w_tired))] [(w, .inr (7, [.ref w_points_a, .ref w_tired_a, .ref w_near_a, .int w_there, .int w_free, .int w_held, .int w_wind, .int w_oil, .int w_hour, .int w_sights, .int w_agreedTo, .int w_refused])), (w_points_a, .inl (cI, 7, .inl R0)), (w_tired_a, .inl (cI, 7, .inl R1))]) args s 0 0 (va_In [(w, .inr (7, [.ref w_points_a, .ref w_tired_a, .ref w_near_a, .int w_there, .int w_free, .int w_held, .int w_wind, .int w_oil, .int w_hour, .int w_sights, .int w_agreedTo, .int w_refused])), (w_points_a, .inl (cI, 7, .inl w_points)), (w_tired_a, .inl (cI, 7, .inl w_tired))])) (F0 m 2 ls []) := by
    intro k2
    induction k2 with
    | zero =>
      intro i2 r1_2 r2_2 h2  H locs hP hD hS ls hl hR
      obtain rfl : 7 = i2 := by omega
      rw [lp_X7_turnVanes_2] at hR
      refine lv_iload_n hx hb dX7_turnVanes_2 rfl (lv_at hl 0 rfl) ?_
      refine lv_bipush (v := (7 : Int32)) hx hb dX7_turnVanes_3 (by decide +kernel) ?_
      refine lv_icmp_ge (tgt := 102) hx hb dX7_turnVanes_5 (by decide) (fun _ => ?_) (fun h => absurd (cle_t (a := 7) (b := 7) rfl rfl (by omega) (by omega)) h)
      subst hR
      exact hexit2 _ _ hP hD hS _ (lv_sub hl [1, 2] rfl)
    | succ k2 ih2 =>
      intro i2 r1_2 r2_2 h2  H locs hP hD hS ls hl hR
      rw [lp_X7_turnVanes_2] at hR
      refine lv_iload_n hx hb dX7_turnVanes_2 rfl (lv_at hl 0 rfl) ?_
      refine lv_bipush (v := (7 : Int32)) hx hb dX7_turnVanes_3 (by decide +kernel) ?_
      refine lv_icmp_ge (tgt := 102) hx hb dX7_turnVanes_5 (by decide) (fun h => absurd h (cle_f (a := 7) (b := i2) rfl rfl (by omega) (by omega))) (fun _ => ?_)
      refine lv_aload_n hx hb dX7_turnVanes_8 rfl (lv_at hl 1 rfl) ?_
      refine lv_iload_n hx hb dX7_turnVanes_9 rfl (lv_at hl 0 rfl) ?_
      refine ro_V (As := [.int (nI i2)]) (rest := []) ⟨hx, hb, hml, hown, hts⟩ hK (c_X7_isThere l D cI cJ cZ w w_points_a w_tired_a w_near_a w_there w_free w_held w_wind w_oil w_hour w_sights w_agreedTo w_refused (nI i2)) hP 0 rfl rfl (rw_sub hP [0] rfl) (cwV 1 hts gX7_turnVanes_X7_isThere rfl rfl rfl ⟨rfl, hd_X7_isThere⟩ ⟨(Nat.le_of_ble_eq_true rfl), (Nat.le_of_ble_eq_true rfl)⟩) rfl hl.1 rfl (Nat.le_of_ble_eq_true rfl) dX7_turnVanes_10 (Nat.zero_le _) (Nat.zero_le _) ?_
      refine lv_if_ne (tgt := 19) hx hb dX7_turnVanes_13 (by decide) (fun c13 => ?_) (fun c13 => ?_)
      · rw [if_neg c13] at hR
        refine lv_aload_n hx hb dX7_turnVanes_19 rfl (lv_at hl 1 rfl) ?_
        refine va_get (D := D) (ci := 7) (v := .int w_free) (C := RX7) (T := TX7) (N := 12) hx hb hts in_X7_turnVanes_X7 hown hK.1 hP 0 rfl rfl 4 (by decide) hq0 (fun _ h9 => h9) rfl dX7_turnVanes_20 ?_
        refine lv_iload_n hx hb dX7_turnVanes_23 rfl (lv_at hl 0 rfl) ?_
        refine ro_SN (As := [.int w_free, .int (nI i2)]) (rest := []) ⟨hx, hb, hml, hown, hts⟩ hK (c_X8_hasBit l D cI cJ cZ w_free (nI i2)) va_P_nil (va_cnB 2 hts gX7_turnVanes_X8_hasBit_n66 rfl rfl rfl (hK.2 _ gN_39) hq1 hd_X8_hasBit ⟨(Nat.le_of_ble_eq_true rfl), (Nat.le_of_ble_eq_true rfl)⟩) hq2 rfl hl.1 rfl (Nat.le_of_ble_eq_true rfl) dX7_turnVanes_24 (Nat.zero_le _) (Nat.zero_le _) ?_
        refine lv_if_eq (tgt := 78) hx hb dX7_turnVanes_27 (by decide) (fun c27 => ?_) (fun c27 => ?_)
        · rw [if_pos c27] at hR
          refine lv_aload_n hx hb dX7_turnVanes_78 rfl (lv_at hl 1 rfl) ?_
          refine va_get (D := D) (ci := 7) (v := .ref w_tired_a) (C := RX7) (T := TX7) (N := 12) hx hb hts in_X7_turnVanes_X7 hown hK.1 hP 0 rfl rfl 1 (by decide) hq3 (fun _ h9 => h9) rfl dX7_turnVanes_79 ?_
          refine lv_iload_n hx hb dX7_turnVanes_82 rfl (lv_at hl 0 rfl) ?_
          refine lv_iconst (v := (0 : Int32)) hx hb dX7_turnVanes_83 (by decide) ?_
          refine lv_aload_n hx hb dX7_turnVanes_84 rfl (lv_at hl 1 rfl) ?_
          refine va_get (D := D) (ci := 7) (v := .ref w_tired_a) (C := RX7) (T := TX7) (N := 12) hx hb hts in_X7_turnVanes_X7 hown hK.1 hP 0 rfl rfl 1 (by decide) hq3 (fun _ h9 => h9) rfl dX7_turnVanes_85 ?_
          refine lv_iload_n hx hb dX7_turnVanes_88 rfl (lv_at hl 0 rfl) ?_
          refine ia_ld hx hb hK hP 2 rfl (i := i2) (by omega) (by decide) dX7_turnVanes_89 ?_
          refine lv_iconst (v := (1 : Int32)) hx hb dX7_turnVanes_90 (by decide) ?_
          refine lv_isub hx hb dX7_turnVanes_91 ?_
          refine va_mmax (rest := [.int (nI i2), .ref w_tired_a]) hx hb (hml.trans hl.1.symm) hown hq4 hq5 hq6 hq7 (Nat.le_of_ble_eq_true rfl) (Nat.le_of_ble_eq_true rfl) (Nat.zero_le _) (Nat.zero_le _) dX7_turnVanes_92 ?_
          refine ia_st hx hb hK hP hD hS 2 rfl (i := i2) (by omega) (by decide) dX7_turnVanes_95 (fun H locs hP hD hS => ?_)
          have hP : va_P D vwCl [(w, .inr (7, [.ref w_points_a, .ref w_tired_a, .ref w_near_a, .int w_there, .int w_free, .int w_held, .int w_wind, .int w_oil, .int w_hour, .int w_sights, .int w_agreedTo, .int w_refused])), (w_points_a, .inl (cI, 7, .inl r1_2)), (w_tired_a, .inl (cI, 7, .inl (upd r2_2 i2 (if (0 : Int32) < ((r2_2 i2) - (1 : Int32)) then ((r2_2 i2) - (1 : Int32)) else (0 : Int32)))))] H := hP
          have hD : va_D _ [(w, .inr (7, [.ref w_points_a, .ref w_tired_a, .ref w_near_a, .int w_there, .int w_free, .int w_held, .int w_wind, .int w_oil, .int w_hour, .int w_sights, .int w_agreedTo, .int w_refused])), (w_points_a, .inl (cI, 7, .inl r1_2)), (w_tired_a, .inl (cI, 7, .inl (upd r2_2 i2 (if (0 : Int32) < ((r2_2 i2) - (1 : Int32)) then ((r2_2 i2) - (1 : Int32)) else (0 : Int32)))))] := hD
          refine lv_iinc (v := (nI (i2 + 1))) (lv' := [(2, .int (nI (i2 + 1))), (0, .ref w), (1, .int xg)]) hx hb dX7_turnVanes_96 hl (k := 0) rfl (by exact nI_add i2 1) (by decide) rfl (fun ls hl => ?_)
          refine lv_goto (tgt := 2) hx hb dX7_turnVanes_99 (by decide) ?_
          exact ih2 _ _ _ (by omega) _ _ hP hD hS _ (lv_sub hl [0, 1, 2] rfl) hR
        · rw [if_neg c27] at hR
          refine lv_aload_n hx hb dX7_turnVanes_30 rfl (lv_at hl 1 rfl) ?_
          refine va_get (D := D) (ci := 7) (v := .ref w_points_a) (C := RX7) (T := TX7) (N := 12) hx hb hts in_X7_turnVanes_X7 hown hK.1 hP 0 rfl rfl 0 (by decide) hq8 (fun _ h9 => h9) rfl dX7_turnVanes_31 ?_
          refine lv_iload_n hx hb dX7_turnVanes_34 rfl (lv_at hl 0 rfl) ?_
          refine ia_ld hx hb hK hP 1 rfl (i := i2) (by omega) (by decide) dX7_turnVanes_35 ?_
          refine lv_iload_n hx hb dX7_turnVanes_36 rfl (lv_at hl 2 rfl) ?_
          refine lv_icmp_eq (tgt := 78) hx hb dX7_turnVanes_37 (by decide) (fun c37 => ?_) (fun c37 => ?_)
          · rw [if_pos c37] at hR
            refine lv_aload_n hx hb dX7_turnVanes_78 rfl (lv_at hl 1 rfl) ?_
            refine va_get (D := D) (ci := 7) (v := .ref w_tired_a) (C := RX7) (T := TX7) (N := 12) hx hb hts in_X7_turnVanes_X7 hown hK.1 hP 0 rfl rfl 1 (by decide) hq3 (fun _ h9 => h9) rfl dX7_turnVanes_79 ?_
            refine lv_iload_n hx hb dX7_turnVanes_82 rfl (lv_at hl 0 rfl) ?_
            refine lv_iconst (v := (0 : Int32)) hx hb dX7_turnVanes_83 (by decide) ?_
            refine lv_aload_n hx hb dX7_turnVanes_84 rfl (lv_at hl 1 rfl) ?_
            refine va_get (D := D) (ci := 7) (v := .ref w_tired_a) (C := RX7) (T := TX7) (N := 12) hx hb hts in_X7_turnVanes_X7 hown hK.1 hP 0 rfl rfl 1 (by decide) hq3 (fun _ h9 => h9) rfl dX7_turnVanes_85 ?_
            refine lv_iload_n hx hb dX7_turnVanes_88 rfl (lv_at hl 0 rfl) ?_
            refine ia_ld hx hb hK hP 2 rfl (i := i2) (by omega) (by decide) dX7_turnVanes_89 ?_
            refine lv_iconst (v := (1 : Int32)) hx hb dX7_turnVanes_90 (by decide) ?_
            refine lv_isub hx hb dX7_turnVanes_91 ?_
            refine va_mmax (rest := [.int (nI i2), .ref w_tired_a]) hx hb (hml.trans hl.1.symm) hown hq4 hq5 hq6 hq7 (Nat.le_of_ble_eq_true rfl) (Nat.le_of_ble_eq_true rfl) (Nat.zero_le _) (Nat.zero_le _) dX7_turnVanes_92 ?_
            refine ia_st hx hb hK hP hD hS 2 rfl (i := i2) (by omega) (by decide) dX7_turnVanes_95 (fun H locs hP hD hS => ?_)
            have hP : va_P D vwCl [(w, .inr (7, [.ref w_points_a, .ref w_tired_a, .ref w_near_a, .int w_there, .int w_free, .int w_held, .int w_wind, .int w_oil, .int w_hour, .int w_sights, .int w_agreedTo, .int w_refused])), (w_points_a, .inl (cI, 7, .inl r1_2)), (w_tired_a, .inl (cI, 7, .inl (upd r2_2 i2 (if (0 : Int32) < ((r2_2 i2) - (1 : Int32)) then ((r2_2 i2) - (1 : Int32)) else (0 : Int32)))))] H := hP
            have hD : va_D _ [(w, .inr (7, [.ref w_points_a, .ref w_tired_a, .ref w_near_a, .int w_there, .int w_free, .int w_held, .int w_wind, .int w_oil, .int w_hour, .int w_sights, .int w_agreedTo, .int w_refused])), (w_points_a, .inl (cI, 7, .inl r1_2)), (w_tired_a, .inl (cI, 7, .inl (upd r2_2 i2 (if (0 : Int32) < ((r2_2 i2) - (1 : Int32)) then ((r2_2 i2) - (1 : Int32)) else (0 : Int32)))))] := hD
            refine lv_iinc (v := (nI (i2 + 1))) (lv' := [(2, .int (nI (i2 + 1))), (0, .ref w), (1, .int xg)]) hx hb dX7_turnVanes_96 hl (k := 0) rfl (by exact nI_add i2 1) (by decide) rfl (fun ls hl => ?_)
            refine lv_goto (tgt := 2) hx hb dX7_turnVanes_99 (by decide) ?_
            exact ih2 _ _ _ (by omega) _ _ hP hD hS _ (lv_sub hl [0, 1, 2] rfl) hR
          · rw [if_neg c37] at hR
            refine lv_aload_n hx hb dX7_turnVanes_40 rfl (lv_at hl 1 rfl) ?_
            refine va_get (D := D) (ci := 7) (v := .ref w_points_a) (C := RX7) (T := TX7) (N := 12) hx hb hts in_X7_turnVanes_X7 hown hK.1 hP 0 rfl rfl 0 (by decide) hq8 (fun _ h9 => h9) rfl dX7_turnVanes_41 ?_
            refine lv_iload_n hx hb dX7_turnVanes_44 rfl (lv_at hl 0 rfl) ?_
            refine lv_aload_n hx hb dX7_turnVanes_45 rfl (lv_at hl 1 rfl) ?_
            refine va_get (D := D) (ci := 7) (v := .ref w_points_a) (C := RX7) (T := TX7) (N := 12) hx hb hts in_X7_turnVanes_X7 hown hK.1 hP 0 rfl rfl 0 (by decide) hq8 (fun _ h9 => h9) rfl dX7_turnVanes_46 ?_
            refine lv_iload_n hx hb dX7_turnVanes_49 rfl (lv_at hl 0 rfl) ?_
            refine ia_ld hx hb hK hP 1 rfl (i := i2) (by omega) (by decide) dX7_turnVanes_50 ?_
            refine lv_iload_n hx hb dX7_turnVanes_51 rfl (lv_at hl 2 rfl) ?_
            refine ro_S (As := [.int (r1_2 i2), .int xg]) (rest := [.int (nI i2), .ref w_points_a]) ⟨hx, hb, hml, hown, hts⟩ hK (c_X7_nearer l D cI cJ cZ (r1_2 i2) xg) va_P_nil (va_cwS 2 hts gX7_turnVanes_X7_nearer rfl rfl rfl hd_X7_nearer ⟨(Nat.le_of_ble_eq_true rfl), (Nat.le_of_ble_eq_true rfl)⟩) rfl hl.1 rfl (Nat.le_of_ble_eq_true rfl) dX7_turnVanes_52 (Nat.zero_le _) (Nat.zero_le _) ?_
            refine ia_st hx hb hK hP hD hS 1 rfl (i := i2) (by omega) (by decide) dX7_turnVanes_55 (fun H locs hP hD hS => ?_)
            have hP : va_P D vwCl [(w, .inr (7, [.ref w_points_a, .ref w_tired_a, .ref w_near_a, .int w_there, .int w_free, .int w_held, .int w_wind, .int w_oil, .int w_hour, .int w_sights, .int w_agreedTo, .int w_refused])), (w_points_a, .inl (cI, 7, .inl (upd r1_2 i2 (f_X7_nearer (r1_2 i2) xg)))), (w_tired_a, .inl (cI, 7, .inl r2_2))] H := hP
            have hD : va_D _ [(w, .inr (7, [.ref w_points_a, .ref w_tired_a, .ref w_near_a, .int w_there, .int w_free, .int w_held, .int w_wind, .int w_oil, .int w_hour, .int w_sights, .int w_agreedTo, .int w_refused])), (w_points_a, .inl (cI, 7, .inl (upd r1_2 i2 (f_X7_nearer (r1_2 i2) xg)))), (w_tired_a, .inl (cI, 7, .inl r2_2))] := hD
            refine lv_aload_n hx hb dX7_turnVanes_56 rfl (lv_at hl 1 rfl) ?_
            refine va_get (D := D) (ci := 7) (v := .ref w_tired_a) (C := RX7) (T := TX7) (N := 12) hx hb hts in_X7_turnVanes_X7 hown hK.1 hP 0 rfl rfl 1 (by decide) hq3 (fun _ h9 => h9) rfl dX7_turnVanes_57 ?_
            refine lv_iload_n hx hb dX7_turnVanes_60 rfl (lv_at hl 0 rfl) ?_
            refine lv_bipush (v := (9 : Int32)) hx hb dX7_turnVanes_61 (by decide +kernel) ?_
            refine lv_aload_n hx hb dX7_turnVanes_63 rfl (lv_at hl 1 rfl) ?_
            refine va_get (D := D) (ci := 7) (v := .ref w_tired_a) (C := RX7) (T := TX7) (N := 12) hx hb hts in_X7_turnVanes_X7 hown hK.1 hP 0 rfl rfl 1 (by decide) hq3 (fun _ h9 => h9) rfl dX7_turnVanes_64 ?_
            refine lv_iload_n hx hb dX7_turnVanes_67 rfl (lv_at hl 0 rfl) ?_
            refine ia_ld hx hb hK hP 2 rfl (i := i2) (by omega) (by decide) dX7_turnVanes_68 ?_
            refine lv_iconst (v := (1 : Int32)) hx hb dX7_turnVanes_69 (by decide) ?_
            refine lv_iadd hx hb dX7_turnVanes_70 ?_
            refine va_mmin (rest := [.int (nI i2), .ref w_tired_a]) hx hb (hml.trans hl.1.symm) hown hq9 hq10 hq6 hq11 (Nat.le_of_ble_eq_true rfl) (Nat.le_of_ble_eq_true rfl) (Nat.zero_le _) (Nat.zero_le _) dX7_turnVanes_71 ?_
            refine ia_st hx hb hK hP hD hS 2 rfl (i := i2) (by omega) (by decide) dX7_turnVanes_74 (fun H locs hP hD hS => ?_)
            have hP : va_P D vwCl [(w, .inr (7, [.ref w_points_a, .ref w_tired_a, .ref w_near_a, .int w_there, .int w_free, .int w_held, .int w_wind, .int w_oil, .int w_hour, .int w_sights, .int w_agreedTo, .int w_refused])), (w_points_a, .inl (cI, 7, .inl (upd r1_2 i2 (f_X7_nearer (r1_2 i2) xg)))), (w_tired_a, .inl (cI, 7, .inl (upd r2_2 i2 (if ((r2_2 i2) + (1 : Int32)) < (9 : Int32) then ((r2_2 i2) + (1 : Int32)) else (9 : Int32)))))] H := hP
            have hD : va_D _ [(w, .inr (7, [.ref w_points_a, .ref w_tired_a, .ref w_near_a, .int w_there, .int w_free, .int w_held, .int w_wind, .int w_oil, .int w_hour, .int w_sights, .int w_agreedTo, .int w_refused])), (w_points_a, .inl (cI, 7, .inl (upd r1_2 i2 (f_X7_nearer (r1_2 i2) xg)))), (w_tired_a, .inl (cI, 7, .inl (upd r2_2 i2 (if ((r2_2 i2) + (1 : Int32)) < (9 : Int32) then ((r2_2 i2) + (1 : Int32)) else (9 : Int32)))))] := hD
            refine lv_goto (tgt := 96) hx hb dX7_turnVanes_75 (by decide) ?_
            refine lv_iinc (v := (nI (i2 + 1))) (lv' := [(2, .int (nI (i2 + 1))), (0, .ref w), (1, .int xg)]) hx hb dX7_turnVanes_96 hl (k := 0) rfl (by exact nI_add i2 1) (by decide) rfl (fun ls hl => ?_)
            refine lv_goto (tgt := 2) hx hb dX7_turnVanes_99 (by decide) ?_
            exact ih2 _ _ _ (by omega) _ _ hP hD hS _ (lv_sub hl [0, 1, 2] rfl) hR
      · rw [if_pos c13] at hR
        refine lv_goto (tgt := 96) hx hb dX7_turnVanes_16 (by decide) ?_
        refine lv_iinc (v := (nI (i2 + 1))) (lv' := [(2, .int (nI (i2 + 1))), (0, .ref w), (1, .int xg)]) hx hb dX7_turnVanes_96 hl (k := 0) rfl (by exact nI_add i2 1) (by decide) rfl (fun ls hl => ?_)
        refine lv_goto (tgt := 2) hx hb dX7_turnVanes_99 (by decide) ?_
        exact ih2 _ _ _ (by omega) _ _ hP hD hS _ (lv_sub hl [0, 1, 2] rfl) hR
  exact hloop2 7 0 _ _ (by omega) _ _ hP hD hS _ hl hF2_1


theorem in_X7_carryOut_X7 : ∀ w ∈ u_ws RX7 TX7 12, w ∈ wsX7_carryOut := by decide +kernel
theorem hd_X7_turnByHand : yX7_turnByHand.cls ≠ "java/lang/invoke/MethodHandle" ∧ yX7_turnByHand.cls ≠ "java/lang/invoke/VarHandle" ∧ (parseMethodDescriptor yX7_turnByHand.desc).map (fun d => d.parameters.length) = some 2 := by decide +kernel
theorem hd_X7_turnVanes : yX7_turnVanes.cls ≠ "java/lang/invoke/MethodHandle" ∧ yX7_turnVanes.cls ≠ "java/lang/invoke/VarHandle" ∧ (parseMethodDescriptor yX7_turnVanes.desc).map (fun d => d.parameters.length) = some 1 := by decide +kernel
theorem hd_X7_wouldCarry : yX7_wouldCarry.cls ≠ "java/lang/invoke/MethodHandle" ∧ yX7_wouldCarry.cls ≠ "java/lang/invoke/VarHandle" ∧ (parseMethodDescriptor yX7_wouldCarry.desc).map (fun d => d.parameters.length) = some 1 := by decide +kernel
def f_X7_carryOut (w_there : Int32) (w_free : Int32) (w_held : Int32) (w_wind : Int32) (w_oil : Int32) (w_hour : Int32) (w_points : Nat → Int32) (w_tired : Nat → Int32) (xk : Int32) (xp : Int32) (xn : Int32) : Int32 × Int32 × Int32 × Int32 × Int32 × (Nat → Int32) × (Nat → Int32) :=
  (if (xk = (0 : Int32)) then ((f_X8_withBit w_free xp (1 : Int32)), w_held, w_wind, (w_oil - (1 : Int32)), w_hour, w_points, w_tired) else (if (xk = (1 : Int32)) then ((f_X8_withBit w_free xp (0 : Int32)), w_held, w_wind, w_oil, w_hour, w_points, w_tired) else (if (xk = (2 : Int32)) then (w_free, w_held, w_wind, w_oil, w_hour, (f_X7_turnByHand w_there w_points xp xn), w_tired) else (if (xk = (3 : Int32)) then (w_free, w_held, xn, w_oil, w_hour, w_points, w_tired) else (if (xk = (4 : Int32)) then (w_free, (f_X8_withBit w_held xn (f_X7_wouldCarry w_there w_points xn)), w_wind, w_oil, w_hour, w_points, w_tired) else (w_free, w_held, w_wind, w_oil, (w_hour + (1 : Int32)), ((f_X7_turnVanes w_there w_free w_points w_tired w_wind).1), ((f_X7_turnVanes w_there w_free w_points w_tired w_wind).2)))))))
set_option maxHeartbeats 4000000 in
set_option maxRecDepth 100000 in
theorem c_X7_carryOut (l : Launch) (D : va_G) (cI cJ cZ : ClassId) (w : Nat) (w_points_a : Nat) (w_tired_a : Nat) (w_near_a : Nat) (w_there : Int32) (w_free : Int32) (w_held : Int32) (w_wind : Int32) (w_oil : Int32) (w_hour : Int32) (w_sights : Int32) (w_agreedTo : Int32) (w_refused : Int32) (w_points : Nat → Int32) (w_tired : Nat → Int32) (xk : Int32) (xp : Int32) (xn : Int32) : RW l yX7_carryOut wsX7_carryOut ({ frames := 4, cells := 0, slots := 0, locals := 87 }) [.ref w, .int xk, .int xp, .int xn] D cI cJ cZ [(w, .inr (7, [.ref w_points_a, .ref w_tired_a, .ref w_near_a, .int w_there, .int w_free, .int w_held, .int w_wind, .int w_oil, .int w_hour, .int w_sights, .int w_agreedTo, .int w_refused])), (w_points_a, .inl (cI, 7, .inl w_points)), (w_tired_a, .inl (cI, 7, .inl w_tired))] none [(w, .inr (7, [.ref w_points_a, .ref w_tired_a, .ref w_near_a, .int w_there, .int ((f_X7_carryOut w_there w_free w_held w_wind w_oil w_hour w_points w_tired xk xp xn).1), .int ((f_X7_carryOut w_there w_free w_held w_wind w_oil w_hour w_points w_tired xk xp xn).2.1), .int ((f_X7_carryOut w_there w_free w_held w_wind w_oil w_hour w_points w_tired xk xp xn).2.2.1), .int ((f_X7_carryOut w_there w_free w_held w_wind w_oil w_hour w_points w_tired xk xp xn).2.2.2.1), .int ((f_X7_carryOut w_there w_free w_held w_wind w_oil w_hour w_points w_tired xk xp xn).2.2.2.2.1), .int w_sights, .int w_agreedTo, .int w_refused])), (w_points_a, .inl (cI, 7, .inl ((f_X7_carryOut w_there w_free w_held w_wind w_oil w_hour w_points w_tired xk xp xn).2.2.2.2.2.1))), (w_tired_a, .inl (cI, 7, .inl ((f_X7_carryOut w_there w_free w_held w_wind w_oil w_hour w_points w_tired xk xp xn).2.2.2.2.2.2)))] := by
  obtain ⟨R0, R1, R2, R3, R4, R5, R6, hR⟩ := prodE7 (f_X7_carryOut w_there w_free w_held w_wind w_oil w_hour w_points w_tired xk xp xn)
  rw [hR]
  dsimp only
  refine rw_start (cc := cX7_carryOut) (maxL := 4) (ret := none) (by decide) rfl (Nat.le_of_ble_eq_true rfl) ?_
  intro p e s m args below meth c hx hb hr hml hown hts hlocks hP hD hS hK ls hl
  have hown : s.vm.findClass RX7 = some m.cls := hown
  have hl : lv_has ls 4 [(0, .ref w), (1, .int xk), (2, .int xp), (3, .int xn)] := hl
  have hq0 := hts (.fieldLink RX7 28 "StuckVanes$World" "free" "I") (by decide +kernel)
  have hq1 := hts (.initialized RX8) (by decide +kernel)
  have hq2 := hts (.static yX8_withBit) (by decide +kernel)
  have hq3 := hts (.fieldLink RX7 21 "StuckVanes$World" "oil" "I") (by decide +kernel)
  have hq4 := hts (.fieldLink RX7 34 "StuckVanes$World" "wind" "I") (by decide +kernel)
  have hq5 := hts (.fieldLink RX7 31 "StuckVanes$World" "held" "I") (by decide +kernel)
  have hq6 := hts (.fieldLink RX7 37 "StuckVanes$World" "hour" "I") (by decide +kernel)
  rw [f_X7_carryOut] at hR
  refine lv_iload_n hx hb dX7_carryOut_0 rfl (lv_at hl 1 rfl) ?_
  by_cases c1_0 : (xk = (0 : Int32))
  · rw [if_pos c1_0] at hR
    refine lv_tableIn (off := 35) (tgt := 36) hx hb dX7_carryOut_1 (by rw [c1_0]; decide) (by rw [c1_0]; decide) (by rw [c1_0]; rfl) (by decide) ?_
    refine lv_aload_n hx hb dX7_carryOut_36 rfl (lv_at hl 0 rfl) ?_
    refine lv_aload_n hx hb dX7_carryOut_37 rfl (lv_at hl 0 rfl) ?_
    refine va_get (D := D) (ci := 7) (v := .int w_free) (C := RX7) (T := TX7) (N := 12) hx hb hts in_X7_carryOut_X7 hown hK.1 hP 0 rfl rfl 4 (by decide) hq0 (fun _ h9 => h9) rfl dX7_carryOut_38 ?_
    refine lv_iload_n hx hb dX7_carryOut_41 rfl (lv_at hl 2 rfl) ?_
    refine lv_iconst (v := (1 : Int32)) hx hb dX7_carryOut_42 (by decide) ?_
    refine ro_SN (As := [.int w_free, .int xp, .int (1 : Int32)]) (rest := [.ref w]) ⟨hx, hb, hml, hown, hts⟩ hK (c_X8_withBit l D cI cJ cZ w_free xp (1 : Int32)) va_P_nil (va_cnB 3 hts gX7_carryOut_X8_withBit_n53 rfl rfl rfl (hK.2 _ gN_36) hq1 hd_X8_withBit ⟨(Nat.le_of_ble_eq_true rfl), (Nat.le_of_ble_eq_true rfl)⟩) hq2 rfl hl.1 rfl (Nat.le_of_ble_eq_true rfl) dX7_carryOut_43 (Nat.zero_le _) (Nat.zero_le _) ?_
    refine va_put (D := D) (ci := 7) (v := .int (f_X8_withBit w_free xp (1 : Int32))) (ty := .int) (C := RX7) (T := TX7) (N := 12) hx hb hts in_X7_carryOut_X7 tyX7 tyX7_ok nmX7 hown hK.1 hP hD hS 0 rfl rfl 4 (by decide) hq0 (fun _ h9 => h9) rfl (by decide +kernel) rfl rfl (Nat.le_of_ble_eq_true rfl) dX7_carryOut_46 (fun H locs hP hD hS => ?_)
    have hP : va_P D vwCl [(w, .inr (7, [.ref w_points_a, .ref w_tired_a, .ref w_near_a, .int w_there, .int (f_X8_withBit w_free xp (1 : Int32)), .int w_held, .int w_wind, .int w_oil, .int w_hour, .int w_sights, .int w_agreedTo, .int w_refused])), (w_points_a, .inl (cI, 7, .inl w_points)), (w_tired_a, .inl (cI, 7, .inl w_tired))] H := hP
    have hD : va_D _ [(w, .inr (7, [.ref w_points_a, .ref w_tired_a, .ref w_near_a, .int w_there, .int (f_X8_withBit w_free xp (1 : Int32)), .int w_held, .int w_wind, .int w_oil, .int w_hour, .int w_sights, .int w_agreedTo, .int w_refused])), (w_points_a, .inl (cI, 7, .inl w_points)), (w_tired_a, .inl (cI, 7, .inl w_tired))] := hD
    refine lv_aload_n hx hb dX7_carryOut_49 rfl (lv_at hl 0 rfl) ?_
    refine lv_dup hx hb dX7_carryOut_50 rfl ?_
    refine va_get (D := D) (ci := 7) (v := .int w_oil) (C := RX7) (T := TX7) (N := 12) hx hb hts in_X7_carryOut_X7 hown hK.1 hP 0 rfl rfl 7 (by decide) hq3 (fun _ h9 => h9) rfl dX7_carryOut_51 ?_
    refine lv_iconst (v := (1 : Int32)) hx hb dX7_carryOut_54 (by decide) ?_
    refine lv_isub hx hb dX7_carryOut_55 ?_
    refine va_put (D := D) (ci := 7) (v := .int (w_oil - (1 : Int32))) (ty := .int) (C := RX7) (T := TX7) (N := 12) hx hb hts in_X7_carryOut_X7 tyX7 tyX7_ok nmX7 hown hK.1 hP hD hS 0 rfl rfl 7 (by decide) hq3 (fun _ h9 => h9) rfl (by decide +kernel) rfl rfl (Nat.le_of_ble_eq_true rfl) dX7_carryOut_56 (fun H locs hP hD hS => ?_)
    have hP : va_P D vwCl [(w, .inr (7, [.ref w_points_a, .ref w_tired_a, .ref w_near_a, .int w_there, .int (f_X8_withBit w_free xp (1 : Int32)), .int w_held, .int w_wind, .int (w_oil - (1 : Int32)), .int w_hour, .int w_sights, .int w_agreedTo, .int w_refused])), (w_points_a, .inl (cI, 7, .inl w_points)), (w_tired_a, .inl (cI, 7, .inl w_tired))] H := hP
    have hD : va_D _ [(w, .inr (7, [.ref w_points_a, .ref w_tired_a, .ref w_near_a, .int w_there, .int (f_X8_withBit w_free xp (1 : Int32)), .int w_held, .int w_wind, .int (w_oil - (1 : Int32)), .int w_hour, .int w_sights, .int w_agreedTo, .int w_refused])), (w_points_a, .inl (cI, 7, .inl w_points)), (w_tired_a, .inl (cI, 7, .inl w_tired))] := hD
    refine lv_goto (tgt := 133) hx hb dX7_carryOut_59 (by decide) ?_
    obtain ⟨rfl, rfl, rfl, rfl, rfl, rfl, rfl⟩ := prodI7 hR
    exact rw_vret hx hb hr hlocks hP hS dX7_carryOut_133
  · rw [if_neg c1_0] at hR
    by_cases c1_1 : (xk = (1 : Int32))
    · rw [if_pos c1_1] at hR
      refine lv_tableIn (off := 61) (tgt := 62) hx hb dX7_carryOut_1 (by rw [c1_1]; decide) (by rw [c1_1]; decide) (by rw [c1_1]; rfl) (by decide) ?_
      refine lv_aload_n hx hb dX7_carryOut_62 rfl (lv_at hl 0 rfl) ?_
      refine lv_aload_n hx hb dX7_carryOut_63 rfl (lv_at hl 0 rfl) ?_
      refine va_get (D := D) (ci := 7) (v := .int w_free) (C := RX7) (T := TX7) (N := 12) hx hb hts in_X7_carryOut_X7 hown hK.1 hP 0 rfl rfl 4 (by decide) hq0 (fun _ h9 => h9) rfl dX7_carryOut_64 ?_
      refine lv_iload_n hx hb dX7_carryOut_67 rfl (lv_at hl 2 rfl) ?_
      refine lv_iconst (v := (0 : Int32)) hx hb dX7_carryOut_68 (by decide) ?_
      refine ro_SN (As := [.int w_free, .int xp, .int (0 : Int32)]) (rest := [.ref w]) ⟨hx, hb, hml, hown, hts⟩ hK (c_X8_withBit l D cI cJ cZ w_free xp (0 : Int32)) va_P_nil (va_cnB 3 hts gX7_carryOut_X8_withBit_n53 rfl rfl rfl (hK.2 _ gN_36) hq1 hd_X8_withBit ⟨(Nat.le_of_ble_eq_true rfl), (Nat.le_of_ble_eq_true rfl)⟩) hq2 rfl hl.1 rfl (Nat.le_of_ble_eq_true rfl) dX7_carryOut_69 (Nat.zero_le _) (Nat.zero_le _) ?_
      refine va_put (D := D) (ci := 7) (v := .int (f_X8_withBit w_free xp (0 : Int32))) (ty := .int) (C := RX7) (T := TX7) (N := 12) hx hb hts in_X7_carryOut_X7 tyX7 tyX7_ok nmX7 hown hK.1 hP hD hS 0 rfl rfl 4 (by decide) hq0 (fun _ h9 => h9) rfl (by decide +kernel) rfl rfl (Nat.le_of_ble_eq_true rfl) dX7_carryOut_72 (fun H locs hP hD hS => ?_)
      have hP : va_P D vwCl [(w, .inr (7, [.ref w_points_a, .ref w_tired_a, .ref w_near_a, .int w_there, .int (f_X8_withBit w_free xp (0 : Int32)), .int w_held, .int w_wind, .int w_oil, .int w_hour, .int w_sights, .int w_agreedTo, .int w_refused])), (w_points_a, .inl (cI, 7, .inl w_points)), (w_tired_a, .inl (cI, 7, .inl w_tired))] H := hP
      have hD : va_D _ [(w, .inr (7, [.ref w_points_a, .ref w_tired_a, .ref w_near_a, .int w_there, .int (f_X8_withBit w_free xp (0 : Int32)), .int w_held, .int w_wind, .int w_oil, .int w_hour, .int w_sights, .int w_agreedTo, .int w_refused])), (w_points_a, .inl (cI, 7, .inl w_points)), (w_tired_a, .inl (cI, 7, .inl w_tired))] := hD
      refine lv_goto (tgt := 133) hx hb dX7_carryOut_75 (by decide) ?_
      obtain ⟨rfl, rfl, rfl, rfl, rfl, rfl, rfl⟩ := prodI7 hR
      exact rw_vret hx hb hr hlocks hP hS dX7_carryOut_133
    · rw [if_neg c1_1] at hR
      by_cases c1_2 : (xk = (2 : Int32))
      · rw [if_pos c1_2] at hR
        refine lv_tableIn (off := 77) (tgt := 78) hx hb dX7_carryOut_1 (by rw [c1_2]; decide) (by rw [c1_2]; decide) (by rw [c1_2]; rfl) (by decide) ?_
        refine lv_aload_n hx hb dX7_carryOut_78 rfl (lv_at hl 0 rfl) ?_
        refine lv_iload_n hx hb dX7_carryOut_79 rfl (lv_at hl 2 rfl) ?_
        refine lv_iload_n hx hb dX7_carryOut_80 rfl (lv_at hl 3 rfl) ?_
        refine rw_V (As := [.int xp, .int xn]) (rest := []) (wr := [(w_tired_a, .inl (cI, 7, .inl w_tired))]) (ws2 := [(w, .inr (7, [.ref w_points_a, .ref w_tired_a, .ref w_near_a, .int w_there, .int w_free, .int w_held, .int w_wind, .int w_oil, .int w_hour, .int w_sights, .int w_agreedTo, .int w_refused])), (w_points_a, .inl (cI, 7, .inl (f_X7_turnByHand w_there w_points xp xn))), (w_tired_a, .inl (cI, 7, .inl w_tired))]) (st1 := []) ⟨hx, hb, hml, hown, hts⟩ hK hP hD hS (c_X7_turnByHand l D cI cJ cZ w w_points_a w_tired_a w_near_a w_there w_free w_held w_wind w_oil w_hour w_sights w_agreedTo w_refused w_points xp xn) 0 rfl rfl [0, 1] [2] [1, 2, 0] rfl rfl (by decide) (by decide) rfl rfl rfl (cwV 2 hts gX7_carryOut_X7_turnByHand rfl rfl rfl ⟨rfl, hd_X7_turnByHand⟩ ⟨(Nat.le_of_ble_eq_true rfl), (Nat.le_of_ble_eq_true rfl)⟩) rfl hl.1 rfl (Nat.le_of_ble_eq_true rfl) dX7_carryOut_81 (Nat.zero_le _) (Nat.zero_le _) (fun H locs hP hD hS => ?_)
        refine lv_goto (tgt := 133) hx hb dX7_carryOut_84 (by decide) ?_
        obtain ⟨rfl, rfl, rfl, rfl, rfl, rfl, rfl⟩ := prodI7 hR
        exact rw_vret hx hb hr hlocks hP hS dX7_carryOut_133
      · rw [if_neg c1_2] at hR
        by_cases c1_3 : (xk = (3 : Int32))
        · rw [if_pos c1_3] at hR
          refine lv_tableIn (off := 86) (tgt := 87) hx hb dX7_carryOut_1 (by rw [c1_3]; decide) (by rw [c1_3]; decide) (by rw [c1_3]; rfl) (by decide) ?_
          refine lv_aload_n hx hb dX7_carryOut_87 rfl (lv_at hl 0 rfl) ?_
          refine lv_iload_n hx hb dX7_carryOut_88 rfl (lv_at hl 3 rfl) ?_
          refine va_put (D := D) (ci := 7) (v := .int xn) (ty := .int) (C := RX7) (T := TX7) (N := 12) hx hb hts in_X7_carryOut_X7 tyX7 tyX7_ok nmX7 hown hK.1 hP hD hS 0 rfl rfl 6 (by decide) hq4 (fun _ h9 => h9) rfl (by decide +kernel) rfl rfl (Nat.le_of_ble_eq_true rfl) dX7_carryOut_89 (fun H locs hP hD hS => ?_)
          have hP : va_P D vwCl [(w, .inr (7, [.ref w_points_a, .ref w_tired_a, .ref w_near_a, .int w_there, .int w_free, .int w_held, .int xn, .int w_oil, .int w_hour, .int w_sights, .int w_agreedTo, .int w_refused])), (w_points_a, .inl (cI, 7, .inl w_points)), (w_tired_a, .inl (cI, 7, .inl w_tired))] H := hP
          have hD : va_D _ [(w, .inr (7, [.ref w_points_a, .ref w_tired_a, .ref w_near_a, .int w_there, .int w_free, .int w_held, .int xn, .int w_oil, .int w_hour, .int w_sights, .int w_agreedTo, .int w_refused])), (w_points_a, .inl (cI, 7, .inl w_points)), (w_tired_a, .inl (cI, 7, .inl w_tired))] := hD
          refine lv_goto (tgt := 133) hx hb dX7_carryOut_92 (by decide) ?_
          obtain ⟨rfl, rfl, rfl, rfl, rfl, rfl, rfl⟩ := prodI7 hR
          exact rw_vret hx hb hr hlocks hP hS dX7_carryOut_133
        · rw [if_neg c1_3] at hR
          by_cases c1_4 : (xk = (4 : Int32))
          · rw [if_pos c1_4] at hR
            refine lv_tableIn (off := 94) (tgt := 95) hx hb dX7_carryOut_1 (by rw [c1_4]; decide) (by rw [c1_4]; decide) (by rw [c1_4]; rfl) (by decide) ?_
            refine lv_aload_n hx hb dX7_carryOut_95 rfl (lv_at hl 0 rfl) ?_
            refine lv_aload_n hx hb dX7_carryOut_96 rfl (lv_at hl 0 rfl) ?_
            refine va_get (D := D) (ci := 7) (v := .int w_held) (C := RX7) (T := TX7) (N := 12) hx hb hts in_X7_carryOut_X7 hown hK.1 hP 0 rfl rfl 5 (by decide) hq5 (fun _ h9 => h9) rfl dX7_carryOut_97 ?_
            refine lv_iload_n hx hb dX7_carryOut_100 rfl (lv_at hl 3 rfl) ?_
            refine lv_aload_n hx hb dX7_carryOut_101 rfl (lv_at hl 0 rfl) ?_
            refine lv_iload_n hx hb dX7_carryOut_102 rfl (lv_at hl 3 rfl) ?_
            refine ro_V (As := [.int xn]) (rest := [.int xn, .int w_held, .ref w]) ⟨hx, hb, hml, hown, hts⟩ hK (c_X7_wouldCarry l D cI cJ cZ w w_points_a w_tired_a w_near_a w_there w_free w_held w_wind w_oil w_hour w_sights w_agreedTo w_refused w_points xn) hP 0 rfl rfl (rw_sub hP [0, 1] rfl) (cwV 1 hts gX7_carryOut_X7_wouldCarry rfl rfl rfl ⟨rfl, hd_X7_wouldCarry⟩ ⟨(Nat.le_of_ble_eq_true rfl), (Nat.le_of_ble_eq_true rfl)⟩) rfl hl.1 rfl (Nat.le_of_ble_eq_true rfl) dX7_carryOut_103 (Nat.zero_le _) (Nat.zero_le _) ?_
            refine ro_SN (As := [.int w_held, .int xn, .int (f_X7_wouldCarry w_there w_points xn)]) (rest := [.ref w]) ⟨hx, hb, hml, hown, hts⟩ hK (c_X8_withBit l D cI cJ cZ w_held xn (f_X7_wouldCarry w_there w_points xn)) va_P_nil (va_cnB 3 hts gX7_carryOut_X8_withBit_n53 rfl rfl rfl (hK.2 _ gN_36) hq1 hd_X8_withBit ⟨(Nat.le_of_ble_eq_true rfl), (Nat.le_of_ble_eq_true rfl)⟩) hq2 rfl hl.1 rfl (Nat.le_of_ble_eq_true rfl) dX7_carryOut_106 (Nat.zero_le _) (Nat.zero_le _) ?_
            refine va_put (D := D) (ci := 7) (v := .int (f_X8_withBit w_held xn (f_X7_wouldCarry w_there w_points xn))) (ty := .int) (C := RX7) (T := TX7) (N := 12) hx hb hts in_X7_carryOut_X7 tyX7 tyX7_ok nmX7 hown hK.1 hP hD hS 0 rfl rfl 5 (by decide) hq5 (fun _ h9 => h9) rfl (by decide +kernel) rfl rfl (Nat.le_of_ble_eq_true rfl) dX7_carryOut_109 (fun H locs hP hD hS => ?_)
            have hP : va_P D vwCl [(w, .inr (7, [.ref w_points_a, .ref w_tired_a, .ref w_near_a, .int w_there, .int w_free, .int (f_X8_withBit w_held xn (f_X7_wouldCarry w_there w_points xn)), .int w_wind, .int w_oil, .int w_hour, .int w_sights, .int w_agreedTo, .int w_refused])), (w_points_a, .inl (cI, 7, .inl w_points)), (w_tired_a, .inl (cI, 7, .inl w_tired))] H := hP
            have hD : va_D _ [(w, .inr (7, [.ref w_points_a, .ref w_tired_a, .ref w_near_a, .int w_there, .int w_free, .int (f_X8_withBit w_held xn (f_X7_wouldCarry w_there w_points xn)), .int w_wind, .int w_oil, .int w_hour, .int w_sights, .int w_agreedTo, .int w_refused])), (w_points_a, .inl (cI, 7, .inl w_points)), (w_tired_a, .inl (cI, 7, .inl w_tired))] := hD
            refine lv_goto (tgt := 133) hx hb dX7_carryOut_112 (by decide) ?_
            obtain ⟨rfl, rfl, rfl, rfl, rfl, rfl, rfl⟩ := prodI7 hR
            exact rw_vret hx hb hr hlocks hP hS dX7_carryOut_133
          · rw [if_neg c1_4] at hR
            refine lv_tableOut (tgt := 115) hx hb dX7_carryOut_1 (by have z0 := sw_toInt (n := 0) (by decide) c1_0; have z1 := sw_toInt (n := 1) (by decide) c1_1; have z2 := sw_toInt (n := 2) (by decide) c1_2; have z3 := sw_toInt (n := 3) (by decide) c1_3; have z4 := sw_toInt (n := 4) (by decide) c1_4; omega) (by decide) ?_
            refine lv_aload_n hx hb dX7_carryOut_115 rfl (lv_at hl 0 rfl) ?_
            refine lv_aload_n hx hb dX7_carryOut_116 rfl (lv_at hl 0 rfl) ?_
            refine va_get (D := D) (ci := 7) (v := .int w_wind) (C := RX7) (T := TX7) (N := 12) hx hb hts in_X7_carryOut_X7 hown hK.1 hP 0 rfl rfl 6 (by decide) hq4 (fun _ h9 => h9) rfl dX7_carryOut_117 ?_
            refine rw_V (As := [.int w_wind]) (rest := []) (wr := []) (ws2 := [(w, .inr (7, [.ref w_points_a, .ref w_tired_a, .ref w_near_a, .int w_there, .int w_free, .int w_held, .int w_wind, .int w_oil, .int w_hour, .int w_sights, .int w_agreedTo, .int w_refused])), (w_points_a, .inl (cI, 7, .inl ((f_X7_turnVanes w_there w_free w_points w_tired w_wind).1))), (w_tired_a, .inl (cI, 7, .inl ((f_X7_turnVanes w_there w_free w_points w_tired w_wind).2)))]) (st1 := []) ⟨hx, hb, hml, hown, hts⟩ hK hP hD hS (c_X7_turnVanes l D cI cJ cZ w w_points_a w_tired_a w_near_a w_there w_free w_held w_wind w_oil w_hour w_sights w_agreedTo w_refused w_points w_tired w_wind) 0 rfl rfl [0, 1, 2] [] [0, 1, 2] rfl rfl (by decide) (by decide) rfl rfl rfl (cwV 1 hts gX7_carryOut_X7_turnVanes rfl rfl rfl ⟨rfl, hd_X7_turnVanes⟩ ⟨(Nat.le_of_ble_eq_true rfl), (Nat.le_of_ble_eq_true rfl)⟩) rfl hl.1 rfl (Nat.le_of_ble_eq_true rfl) dX7_carryOut_120 (Nat.zero_le _) (Nat.zero_le _) (fun H locs hP hD hS => ?_)
            refine lv_aload_n hx hb dX7_carryOut_123 rfl (lv_at hl 0 rfl) ?_
            refine lv_dup hx hb dX7_carryOut_124 rfl ?_
            refine va_get (D := D) (ci := 7) (v := .int w_hour) (C := RX7) (T := TX7) (N := 12) hx hb hts in_X7_carryOut_X7 hown hK.1 hP 0 rfl rfl 8 (by decide) hq6 (fun _ h9 => h9) rfl dX7_carryOut_125 ?_
            refine lv_iconst (v := (1 : Int32)) hx hb dX7_carryOut_128 (by decide) ?_
            refine lv_iadd hx hb dX7_carryOut_129 ?_
            refine va_put (D := D) (ci := 7) (v := .int (w_hour + (1 : Int32))) (ty := .int) (C := RX7) (T := TX7) (N := 12) hx hb hts in_X7_carryOut_X7 tyX7 tyX7_ok nmX7 hown hK.1 hP hD hS 0 rfl rfl 8 (by decide) hq6 (fun _ h9 => h9) rfl (by decide +kernel) rfl rfl (Nat.le_of_ble_eq_true rfl) dX7_carryOut_130 (fun H locs hP hD hS => ?_)
            have hP : va_P D vwCl [(w, .inr (7, [.ref w_points_a, .ref w_tired_a, .ref w_near_a, .int w_there, .int w_free, .int w_held, .int w_wind, .int w_oil, .int (w_hour + (1 : Int32)), .int w_sights, .int w_agreedTo, .int w_refused])), (w_points_a, .inl (cI, 7, .inl ((f_X7_turnVanes w_there w_free w_points w_tired w_wind).1))), (w_tired_a, .inl (cI, 7, .inl ((f_X7_turnVanes w_there w_free w_points w_tired w_wind).2)))] H := hP
            have hD : va_D _ [(w, .inr (7, [.ref w_points_a, .ref w_tired_a, .ref w_near_a, .int w_there, .int w_free, .int w_held, .int w_wind, .int w_oil, .int (w_hour + (1 : Int32)), .int w_sights, .int w_agreedTo, .int w_refused])), (w_points_a, .inl (cI, 7, .inl ((f_X7_turnVanes w_there w_free w_points w_tired w_wind).1))), (w_tired_a, .inl (cI, 7, .inl ((f_X7_turnVanes w_there w_free w_points w_tired w_wind).2)))] := hD
            obtain ⟨rfl, rfl, rfl, rfl, rfl, rfl, rfl⟩ := prodI7 hR
            exact rw_vret hx hb hr hlocks hP hS dX7_carryOut_133

