def f_X9_in (xv : Int32) (xa : Int32) (xb : Int32) : Int32 :=
  (if (xv < xa) then (0 : Int32) else (if (xb < xv) then (0 : Int32) else (1 : Int32)))
set_option maxHeartbeats 4000000 in
set_option maxRecDepth 100000 in
theorem c_X9_in (l : Launch) (D : va_G) (cI cJ cZ : ClassId) (xv : Int32) (xa : Int32) (xb : Int32) : RO l yX9_in wsX9_in ({ frames := 0, cells := 0, slots := 0, locals := 0 }) [.int xv, .int xa, .int xb] D cI cJ cZ [] (.int (f_X9_in xv xa xb)) := by
  obtain ⟨R, hR⟩ : ∃ R, (f_X9_in xv xa xb) = R := ⟨_, rfl⟩
  rw [hR]
  refine ro_start (cc := cX9_in) (maxL := 3) (ret := (some .boolean)) (by decide) rfl (Nat.le_of_ble_eq_true rfl) ?_
  intro p e s m args below meth c hx hb hr hml hown hts hlocks hP hK ls hl
  have hown : s.vm.findClass RX9 = some m.cls := hown
  have hl : lv_has ls 3 [(0, .int xv), (1, .int xa), (2, .int xb)] := hl
  rw [f_X9_in] at hR
  refine lv_iload_n hx hb dX9_in_0 rfl (lv_at hl 0 rfl) ?_
  refine lv_iload_n hx hb dX9_in_1 rfl (lv_at hl 1 rfl) ?_
  refine lv_icmp_lt (tgt := 14) hx hb dX9_in_2 (by decide) (fun c2 => ?_) (fun c2 => ?_)
  · rw [if_pos c2] at hR
    refine lv_iconst (v := (0 : Int32)) hx hb dX9_in_14 (by decide) ?_
    subst hR
    exact ro_zret hx hb hr hlocks (Or.inl rfl) dX9_in_15
  · rw [if_neg c2] at hR
    refine lv_iload_n hx hb dX9_in_5 rfl (lv_at hl 0 rfl) ?_
    refine lv_iload_n hx hb dX9_in_6 rfl (lv_at hl 2 rfl) ?_
    refine lv_icmp_gt (tgt := 14) hx hb dX9_in_7 (by decide) (fun c7 => ?_) (fun c7 => ?_)
    · rw [if_pos c7] at hR
      refine lv_iconst (v := (0 : Int32)) hx hb dX9_in_14 (by decide) ?_
      subst hR
      exact ro_zret hx hb hr hlocks (Or.inl rfl) dX9_in_15
    · rw [if_neg c7] at hR
      refine lv_iconst (v := (1 : Int32)) hx hb dX9_in_10 (by decide) ?_
      refine lv_goto (tgt := 15) hx hb dX9_in_11 (by decide) ?_
      subst hR
      exact ro_zret hx hb hr hlocks (Or.inr rfl) dX9_in_15

theorem z_X9_in (xv : Int32) (xa : Int32) (xb : Int32) : (f_X9_in xv xa xb) = 0 ∨ (f_X9_in xv xa xb) = 1 := by
  unfold f_X9_in
  (repeat' split) <;> first | exact Or.inl rfl | exact Or.inr rfl

theorem vp_mono {x : Int32} {n m : Nat} (h : vp_in x n) (hn : n < 2 ^ 31) (hm : m < 2 ^ 31) (hnm : n ≤ m) : vp_in x m := by
  obtain ⟨j, hj, rfl⟩ := vp_in_of h hn
  exact vp_in_nI (by omega) hm
theorem vp_addc {x : Int32} {n c : Nat} (h : vp_in x n) (hn : n + c < 2 ^ 31) : vp_in (nI c + x) (n + c) := by
  obtain ⟨j, hj, rfl⟩ := vp_in_of h (by omega)
  rw [nI_add]
  exact vp_in_nI (by omega) hn
theorem vp_in9 {x : Int32} (h : ¬ f_X9_in x 0 6 = 0) : vp_in x 7 := by
  unfold f_X9_in at h
  split at h
  · exact absurd rfl h
  · split at h
    · exact absurd rfl h
    · next h0 h1 => exact vp_of2 (n := 6) h0 h1 (by decide)
theorem of_ne {a b : Nat} (h : ¬ nI a = nI b) : a ≠ b := fun e => h (by rw [e])

def f_X9_has (xs : Int32) (xk : Int32) : Int32 :=
  (if (((xs >>> (xk &&& 31)) &&& (1 : Int32)) = (1 : Int32)) then (1 : Int32) else (0 : Int32))
set_option maxHeartbeats 4000000 in
set_option maxRecDepth 100000 in
theorem c_X9_has (l : Launch) (D : va_G) (cI cJ cZ : ClassId) (xs : Int32) (xk : Int32) : RO l yX9_has wsX9_has ({ frames := 0, cells := 0, slots := 0, locals := 0 }) [.int xs, .int xk] D cI cJ cZ [] (.int (f_X9_has xs xk)) := by
  obtain ⟨R, hR⟩ : ∃ R, (f_X9_has xs xk) = R := ⟨_, rfl⟩
  rw [hR]
  refine ro_start (cc := cX9_has) (maxL := 2) (ret := (some .boolean)) (by decide) rfl (Nat.le_of_ble_eq_true rfl) ?_
  intro p e s m args below meth c hx hb hr hml hown hts hlocks hP hK ls hl
  have hown : s.vm.findClass RX9 = some m.cls := hown
  have hl : lv_has ls 2 [(0, .int xs), (1, .int xk)] := hl
  rw [f_X9_has] at hR
  refine lv_iload_n hx hb dX9_has_0 rfl (lv_at hl 0 rfl) ?_
  refine lv_iload_n hx hb dX9_has_1 rfl (lv_at hl 1 rfl) ?_
  refine lv_ishr hx hb dX9_has_2 ?_
  refine lv_iconst (v := (1 : Int32)) hx hb dX9_has_3 (by decide) ?_
  refine lv_iand hx hb dX9_has_4 ?_
  refine lv_iconst (v := (1 : Int32)) hx hb dX9_has_5 (by decide) ?_
  refine lv_icmp_ne (tgt := 13) hx hb dX9_has_6 (by decide) (fun c6 => ?_) (fun c6 => ?_)
  · rw [if_neg c6] at hR
    refine lv_iconst (v := (0 : Int32)) hx hb dX9_has_13 (by decide) ?_
    subst hR
    exact ro_zret hx hb hr hlocks (Or.inl rfl) dX9_has_14
  · rw [if_pos c6] at hR
    refine lv_iconst (v := (1 : Int32)) hx hb dX9_has_9 (by decide) ?_
    refine lv_goto (tgt := 14) hx hb dX9_has_10 (by decide) ?_
    subst hR
    exact ro_zret hx hb hr hlocks (Or.inr rfl) dX9_has_14

theorem z_X9_has (xs : Int32) (xk : Int32) : (f_X9_has xs xk) = 0 ∨ (f_X9_has xs xk) = 1 := by
  unfold f_X9_has
  (repeat' split) <;> first | exact Or.inl rfl | exact Or.inr rfl


def lp_X9_bits_4 (xs : Int32) : Nat → Nat → Int32 → Int32
  | 0, _, v1_4 => v1_4
  | k4 + 1, i4, v1_4 => (lp_X9_bits_4 xs k4 (i4 + 1) (v1_4 + ((xs >>> ((nI i4) &&& 31)) &&& (1 : Int32))))
def f_X9_bits (xs : Int32) : Int32 :=
  (lp_X9_bits_4 xs 8 0 (0 : Int32))
set_option maxHeartbeats 4000000 in
set_option maxRecDepth 100000 in
theorem c_X9_bits (l : Launch) (D : va_G) (cI cJ cZ : ClassId) (xs : Int32) : RO l yX9_bits wsX9_bits ({ frames := 0, cells := 0, slots := 0, locals := 0 }) [.int xs] D cI cJ cZ [] (.int (f_X9_bits xs)) := by
  obtain ⟨R, hR⟩ : ∃ R, (f_X9_bits xs) = R := ⟨_, rfl⟩
  rw [hR]
  refine ro_start (cc := cX9_bits) (maxL := 3) (ret := (some .int)) (by decide) rfl (Nat.le_of_ble_eq_true rfl) ?_
  intro p e s m args below meth c hx hb hr hml hown hts hlocks hP hK ls hl
  have hown : s.vm.findClass RX9 = some m.cls := hown
  have hl : lv_has ls 3 [(0, .int xs)] := hl
  rw [f_X9_bits] at hR
  refine lv_iconst (v := (0 : Int32)) hx hb dX9_bits_0 (by decide) ?_
  refine lv_istore_n (lv' := [(1, .int (0 : Int32)), (0, .int xs)]) hx hb dX9_bits_1 rfl hl (by decide) rfl (fun ls hl => ?_)
  refine lv_iconst (v := (0 : Int32)) hx hb dX9_bits_2 (by decide) ?_
  refine lv_istore_n (lv' := [(2, .int (0 : Int32)), (1, .int (0 : Int32)), (0, .int xs)]) hx hb dX9_bits_3 rfl hl (by decide) rfl (fun ls hl => ?_)
  obtain ⟨F4_1, hF4_1⟩ : ∃ x, (lp_X9_bits_4 xs 8 0 (0 : Int32)) = x := ⟨_, rfl⟩
  try rw [hF4_1] at hR
  have hexit4 : ∀ (ls : Array Slot), lv_has ls 3 [(1, .int F4_1), (0, .int xs)] → W p l e ({ frames := 0, cells := 0, slots := 0, locals := 0 }) s m args below meth c s.heap [] 0 0 (MQ below (ro_Q (.int R)) args s 0 0 (fun _ => False)) (F0 m 24 ls []) := by
    intro ls hl
    refine lv_iload_n hx hb dX9_bits_24 rfl (lv_at hl 0 rfl) ?_
    subst hR
    exact ro_iret hx hb hr hlocks dX9_bits_25
  have hloop4 : ∀ (k4 i4 : Nat) (v1_4 : Int32), i4 + k4 = 8 → ∀ (ls : Array Slot), lv_has ls 3 [(2, .int (nI i4)), (1, .int v1_4), (0, .int xs)] → lp_X9_bits_4 xs k4 i4 v1_4 = F4_1 → W p l e ({ frames := 0, cells := 0, slots := 0, locals := 0 }) s m args below meth c s.heap [] 0 0 (MQ below (ro_Q (.int R)) args s 0 0 (fun _ => False)) (F0 m 4 ls []) := by
    intro k4
    induction k4 with
    | zero =>
      intro i4 v1_4 h4  ls hl hR
      obtain rfl : 8 = i4 := by omega
      rw [lp_X9_bits_4] at hR
      refine lv_iload_n hx hb dX9_bits_4 rfl (lv_at hl 0 rfl) ?_
      refine lv_bipush (v := (8 : Int32)) hx hb dX9_bits_5 (by decide +kernel) ?_
      refine lv_icmp_ge (tgt := 24) hx hb dX9_bits_7 (by decide) (fun _ => ?_) (fun h => absurd (cle_t (a := 8) (b := 8) rfl rfl (by omega) (by omega)) h)
      subst hR
      exact hexit4 _ (lv_sub hl [1, 2] rfl)
    | succ k4 ih4 =>
      intro i4 v1_4 h4  ls hl hR
      rw [lp_X9_bits_4] at hR
      refine lv_iload_n hx hb dX9_bits_4 rfl (lv_at hl 0 rfl) ?_
      refine lv_bipush (v := (8 : Int32)) hx hb dX9_bits_5 (by decide +kernel) ?_
      refine lv_icmp_ge (tgt := 24) hx hb dX9_bits_7 (by decide) (fun h => absurd h (cle_f (a := 8) (b := i4) rfl rfl (by omega) (by omega))) (fun _ => ?_)
      refine lv_iload_n hx hb dX9_bits_10 rfl (lv_at hl 1 rfl) ?_
      refine lv_iload_n hx hb dX9_bits_11 rfl (lv_at hl 2 rfl) ?_
      refine lv_iload_n hx hb dX9_bits_12 rfl (lv_at hl 0 rfl) ?_
      refine lv_ishr hx hb dX9_bits_13 ?_
      refine lv_iconst (v := (1 : Int32)) hx hb dX9_bits_14 (by decide) ?_
      refine lv_iand hx hb dX9_bits_15 ?_
      refine lv_iadd hx hb dX9_bits_16 ?_
      refine lv_istore_n (lv' := [(1, .int (v1_4 + ((xs >>> ((nI i4) &&& 31)) &&& (1 : Int32)))), (2, .int (nI i4)), (0, .int xs)]) hx hb dX9_bits_17 rfl hl (by decide) rfl (fun ls hl => ?_)
      refine lv_iinc (v := (nI (i4 + 1))) (lv' := [(2, .int (nI (i4 + 1))), (1, .int (v1_4 + ((xs >>> ((nI i4) &&& 31)) &&& (1 : Int32)))), (0, .int xs)]) hx hb dX9_bits_18 hl (k := 1) rfl (by exact nI_add i4 1) (by decide) rfl (fun ls hl => ?_)
      refine lv_goto (tgt := 4) hx hb dX9_bits_21 (by decide) ?_
      exact ih4 _ _ (by omega) _ (lv_sub hl [0, 1, 2] rfl) hR
  exact hloop4 8 0 _ (by omega) _ hl hF4_1


theorem in_X9_isThere_X9 : ∀ w ∈ u_ws RX9 TX9 19, w ∈ wsX9_isThere := by decide +kernel
theorem hd_X9_has : yX9_has.cls ≠ "java/lang/invoke/MethodHandle" ∧ yX9_has.cls ≠ "java/lang/invoke/VarHandle" ∧ (parseMethodDescriptor yX9_has.desc).map (fun d => d.parameters.length) = some 2 := by decide +kernel
theorem hd_X9_in : yX9_in.cls ≠ "java/lang/invoke/MethodHandle" ∧ yX9_in.cls ≠ "java/lang/invoke/VarHandle" ∧ (parseMethodDescriptor yX9_in.desc).map (fun d => d.parameters.length) = some 3 := by decide +kernel
def f_X9_isThere (mo_there : Int32) (xp : Int32) : Int32 :=
  (if ((f_X9_in xp (0 : Int32) (6 : Int32)) = 0) then (0 : Int32) else (if ((f_X9_has mo_there xp) = 0) then (0 : Int32) else (1 : Int32)))
set_option maxHeartbeats 4000000 in
set_option maxRecDepth 100000 in
theorem c_X9_isThere (l : Launch) (D : va_G) (cI cJ cZ : ClassId) (mo : Nat) (mo_book_a : Nat) (mo_now_a : Nat) (mo_there : Int32) (mo_beside_a : Nat) (mo_sights : Int32) (mo_sight_a : Nat) (mo_signs : Int32) (mo_pad_a : Nat) (mo_heldAt : Int32) (mo_heldThing : Int32) (mo_reason : Int32) (mo_acts : Int32) (mo_lefts_a : Nat) (mo_inWays_a : Nat) (mo_more_a : Nat) (mo_wins_a : Nat) (mo_been_a : Nat) (mo_image_a : Nat) (mo_isKept_a : Nat) (xp : Int32) : RO l yX9_isThere wsX9_isThere ({ frames := 1, cells := 0, slots := 0, locals := 22 }) [.ref mo, .int xp] D cI cJ cZ [(mo, .inr (9, [.ref mo_book_a, .ref mo_now_a, .int mo_there, .ref mo_beside_a, .int mo_sights, .ref mo_sight_a, .int mo_signs, .ref mo_pad_a, .int mo_heldAt, .int mo_heldThing, .int mo_reason, .int mo_acts, .ref mo_lefts_a, .ref mo_inWays_a, .ref mo_more_a, .ref mo_wins_a, .ref mo_been_a, .ref mo_image_a, .ref mo_isKept_a]))] (.int (f_X9_isThere mo_there xp)) := by
  obtain ⟨R, hR⟩ : ∃ R, (f_X9_isThere mo_there xp) = R := ⟨_, rfl⟩
  rw [hR]
  refine ro_start (cc := cX9_isThere) (maxL := 2) (ret := (some .boolean)) (by decide) rfl (Nat.le_of_ble_eq_true rfl) ?_
  intro p e s m args below meth c hx hb hr hml hown hts hlocks hP hK ls hl
  have hown : s.vm.findClass RX9 = some m.cls := hown
  have hl : lv_has ls 2 [(0, .ref mo), (1, .int xp)] := hl
  have hq0 := hts (.fieldLink RX9 52 "StuckVanesModel" "there" "I") (by decide +kernel)
  rw [f_X9_isThere] at hR
  refine lv_iload_n hx hb dX9_isThere_0 rfl (lv_at hl 1 rfl) ?_
  refine lv_iconst (v := (0 : Int32)) hx hb dX9_isThere_1 (by decide) ?_
  refine lv_bipush (v := (6 : Int32)) hx hb dX9_isThere_2 (by decide +kernel) ?_
  refine ro_S (As := [.int xp, .int (0 : Int32), .int (6 : Int32)]) (rest := []) ⟨hx, hb, hml, hown, hts⟩ hK (c_X9_in l D cI cJ cZ xp (0 : Int32) (6 : Int32)) va_P_nil (va_cwS 3 hts gX9_isThere_X9_in rfl rfl rfl hd_X9_in ⟨(Nat.le_of_ble_eq_true rfl), (Nat.le_of_ble_eq_true rfl)⟩) rfl hl.1 rfl (Nat.le_of_ble_eq_true rfl) dX9_isThere_4 (Nat.zero_le _) (Nat.zero_le _) ?_
  refine lv_if_eq (tgt := 25) hx hb dX9_isThere_7 (by decide) (fun c7 => ?_) (fun c7 => ?_)
  · rw [if_pos c7] at hR
    refine lv_iconst (v := (0 : Int32)) hx hb dX9_isThere_25 (by decide) ?_
    subst hR
    exact ro_zret hx hb hr hlocks (Or.inl rfl) dX9_isThere_26
  · rw [if_neg c7] at hR
    refine lv_aload_n hx hb dX9_isThere_10 rfl (lv_at hl 0 rfl) ?_
    refine va_get (D := D) (ci := 9) (v := .int mo_there) (C := RX9) (T := TX9) (N := 19) hx hb hts in_X9_isThere_X9 hown hK.1 hP 0 rfl rfl 2 (by decide) hq0 (fun _ h9 => h9) rfl dX9_isThere_11 ?_
    refine lv_iload_n hx hb dX9_isThere_14 rfl (lv_at hl 1 rfl) ?_
    refine ro_S (As := [.int mo_there, .int xp]) (rest := []) ⟨hx, hb, hml, hown, hts⟩ hK (c_X9_has l D cI cJ cZ mo_there xp) va_P_nil (va_cwS 2 hts gX9_isThere_X9_has rfl rfl rfl hd_X9_has ⟨(Nat.le_of_ble_eq_true rfl), (Nat.le_of_ble_eq_true rfl)⟩) rfl hl.1 rfl (Nat.le_of_ble_eq_true rfl) dX9_isThere_15 (Nat.zero_le _) (Nat.zero_le _) ?_
    refine lv_if_eq (tgt := 25) hx hb dX9_isThere_18 (by decide) (fun c18 => ?_) (fun c18 => ?_)
    · rw [if_pos c18] at hR
      refine lv_iconst (v := (0 : Int32)) hx hb dX9_isThere_25 (by decide) ?_
      subst hR
      exact ro_zret hx hb hr hlocks (Or.inl rfl) dX9_isThere_26
    · rw [if_neg c18] at hR
      refine lv_iconst (v := (1 : Int32)) hx hb dX9_isThere_21 (by decide) ?_
      refine lv_goto (tgt := 26) hx hb dX9_isThere_22 (by decide) ?_
      subst hR
      exact ro_zret hx hb hr hlocks (Or.inr rfl) dX9_isThere_26

theorem z_X9_isThere (mo_there : Int32) (xp : Int32) : (f_X9_isThere mo_there xp) = 0 ∨ (f_X9_isThere mo_there xp) = 1 := by
  unfold f_X9_isThere
  (repeat' split) <;> first | exact Or.inl rfl | exact Or.inr rfl | exact z_X9_has .. | exact z_X9_in ..

theorem vp_there9 {t x : Int32} (h : ¬ f_X9_isThere t x = 0) : vp_in x 7 := by
  unfold f_X9_isThere at h
  split at h
  · exact absurd rfl h
  · next h0 => exact vp_in9 h0

def f_X9_apartOf (xa : Int32) (xb : Int32) : Int32 :=
  (if ((((xb - xa) + (8 : Int32)) - ((xb - xa) + (8 : Int32)) / (8 : Int32) * (8 : Int32)) ≤ (4 : Int32)) then (((xb - xa) + (8 : Int32)) - ((xb - xa) + (8 : Int32)) / (8 : Int32) * (8 : Int32)) else ((8 : Int32) - (((xb - xa) + (8 : Int32)) - ((xb - xa) + (8 : Int32)) / (8 : Int32) * (8 : Int32))))
set_option maxHeartbeats 4000000 in
set_option maxRecDepth 100000 in
theorem c_X9_apartOf (l : Launch) (D : va_G) (cI cJ cZ : ClassId) (xa : Int32) (xb : Int32) : RO l yX9_apartOf wsX9_apartOf ({ frames := 0, cells := 0, slots := 0, locals := 0 }) [.int xa, .int xb] D cI cJ cZ [] (.int (f_X9_apartOf xa xb)) := by
  obtain ⟨R, hR⟩ : ∃ R, (f_X9_apartOf xa xb) = R := ⟨_, rfl⟩
  rw [hR]
  refine ro_start (cc := cX9_apartOf) (maxL := 3) (ret := (some .int)) (by decide) rfl (Nat.le_of_ble_eq_true rfl) ?_
  intro p e s m args below meth c hx hb hr hml hown hts hlocks hP hK ls hl
  have hown : s.vm.findClass RX9 = some m.cls := hown
  have hl : lv_has ls 3 [(0, .int xa), (1, .int xb)] := hl
  rw [f_X9_apartOf] at hR
  refine lv_iload_n hx hb dX9_apartOf_0 rfl (lv_at hl 1 rfl) ?_
  refine lv_iload_n hx hb dX9_apartOf_1 rfl (lv_at hl 0 rfl) ?_
  refine lv_isub hx hb dX9_apartOf_2 ?_
  refine lv_bipush (v := (8 : Int32)) hx hb dX9_apartOf_3 (by decide +kernel) ?_
  refine lv_iadd hx hb dX9_apartOf_5 ?_
  refine lv_bipush (v := (8 : Int32)) hx hb dX9_apartOf_6 (by decide +kernel) ?_
  refine lv_irem hx hb dX9_apartOf_8 (by decide) ?_
  refine lv_istore_n (lv' := [(2, .int (((xb - xa) + (8 : Int32)) - ((xb - xa) + (8 : Int32)) / (8 : Int32) * (8 : Int32))), (0, .int xa), (1, .int xb)]) hx hb dX9_apartOf_9 rfl hl (by decide) rfl (fun ls hl => ?_)
  refine lv_iload_n hx hb dX9_apartOf_10 rfl (lv_at hl 0 rfl) ?_
  refine lv_iconst (v := (4 : Int32)) hx hb dX9_apartOf_11 (by decide) ?_
  refine lv_icmp_le (tgt := 22) hx hb dX9_apartOf_12 (by decide) (fun c12 => ?_) (fun c12 => ?_)
  · rw [if_pos c12] at hR
    refine lv_iload_n hx hb dX9_apartOf_22 rfl (lv_at hl 0 rfl) ?_
    subst hR
    exact ro_iret hx hb hr hlocks dX9_apartOf_23
  · rw [if_neg c12] at hR
    refine lv_bipush (v := (8 : Int32)) hx hb dX9_apartOf_15 (by decide +kernel) ?_
    refine lv_iload_n hx hb dX9_apartOf_17 rfl (lv_at hl 0 rfl) ?_
    refine lv_isub hx hb dX9_apartOf_18 ?_
    refine lv_goto (tgt := 23) hx hb dX9_apartOf_19 (by decide) ?_
    subst hR
    exact ro_iret hx hb hr hlocks dX9_apartOf_23


theorem in_X9_parish_X9 : ∀ w ∈ u_ws RX9 TX9 19, w ∈ wsX9_parish := by decide +kernel
theorem hd_X9_bits : yX9_bits.cls ≠ "java/lang/invoke/MethodHandle" ∧ yX9_bits.cls ≠ "java/lang/invoke/VarHandle" ∧ (parseMethodDescriptor yX9_bits.desc).map (fun d => d.parameters.length) = some 1 := by decide +kernel
def f_X9_parish (mo_there : Int32) (mo_book : Nat → Int32) (xp : Int32) (xw : Int32) (xf : Int32) (xt : Int32) : Int32 × Int32 × (Nat → Int32) :=
  (if ((f_X9_in xp (0 : Int32) (6 : Int32)) = 0) then ((-1 : Int32), mo_there, mo_book) else (if ((f_X9_in xw (0 : Int32) (7 : Int32)) = 0) then ((-2 : Int32), mo_there, mo_book) else (if ((f_X9_in xt (0 : Int32) (9 : Int32)) = 0) then ((-2 : Int32), mo_there, mo_book) else (if (xf = 0) then ((f_X9_bits (mo_there ||| ((1 : Int32) <<< (xp &&& 31)))), (mo_there ||| ((1 : Int32) <<< (xp &&& 31))), (upd (upd (upd (upd mo_book xp.toNatClampNeg xw) ((7 : Int32) + xp).toNatClampNeg xt) 14 (((upd (upd mo_book xp.toNatClampNeg xw) ((7 : Int32) + xp).toNatClampNeg xt) 14) &&& (((1 : Int32) <<< (xp &&& 31)) ^^^ (-1 : Int32)))) 14 (((upd (upd (upd mo_book xp.toNatClampNeg xw) ((7 : Int32) + xp).toNatClampNeg xt) 14 (((upd (upd mo_book xp.toNatClampNeg xw) ((7 : Int32) + xp).toNatClampNeg xt) 14) &&& (((1 : Int32) <<< (xp &&& 31)) ^^^ (-1 : Int32)))) 14) ||| (0 : Int32)))) else ((f_X9_bits (mo_there ||| ((1 : Int32) <<< (xp &&& 31)))), (mo_there ||| ((1 : Int32) <<< (xp &&& 31))), (upd (upd (upd (upd mo_book xp.toNatClampNeg xw) ((7 : Int32) + xp).toNatClampNeg xt) 14 (((upd (upd mo_book xp.toNatClampNeg xw) ((7 : Int32) + xp).toNatClampNeg xt) 14) &&& (((1 : Int32) <<< (xp &&& 31)) ^^^ (-1 : Int32)))) 14 (((upd (upd (upd mo_book xp.toNatClampNeg xw) ((7 : Int32) + xp).toNatClampNeg xt) 14 (((upd (upd mo_book xp.toNatClampNeg xw) ((7 : Int32) + xp).toNatClampNeg xt) 14) &&& (((1 : Int32) <<< (xp &&& 31)) ^^^ (-1 : Int32)))) 14) ||| ((1 : Int32) <<< (xp &&& 31)))))))))
set_option maxHeartbeats 4000000 in
set_option maxRecDepth 100000 in
theorem c_X9_parish (l : Launch) (D : va_G) (cI cJ cZ : ClassId) (mo : Nat) (mo_book_a : Nat) (mo_now_a : Nat) (mo_there : Int32) (mo_beside_a : Nat) (mo_sights : Nat) (mo_sight_a : Nat) (mo_signs : Nat) (mo_pad_a : Nat) (mo_heldAt : Int32) (mo_heldThing : Int32) (mo_reason : Int32) (mo_acts : Int32) (mo_lefts_a : Nat) (mo_inWays_a : Nat) (mo_more_a : Nat) (mo_wins_a : Nat) (mo_been_a : Nat) (mo_image_a : Nat) (mo_isKept_a : Nat) (mo_book : Nat → Int32) (mo_now : Nat → Int32) (mo_beside : Nat → Int32) (mo_sight : Nat → Int32) (mo_pad : Nat → Int32) (mo_lefts : Nat → Int32) (mo_inWays : Nat → Int32) (mo_more : Nat → Int32) (mo_wins : Nat → Int32) (mo_been : Nat → Int64) (mo_image : Nat → Int32) (mo_isKept : Nat → Int32) (xp : Int32) (xw : Int32) (xf : Int32) (xt : Int32) : RW l yX9_parish wsX9_parish ({ frames := 1, cells := 0, slots := 0, locals := 22 }) [.ref mo, .int xp, .int xw, .int xf, .int xt] D cI cJ cZ [(mo, .inr (9, [.ref mo_book_a, .ref mo_now_a, .int mo_there, .ref mo_beside_a, .int (nI mo_sights), .ref mo_sight_a, .int (nI mo_signs), .ref mo_pad_a, .int mo_heldAt, .int mo_heldThing, .int mo_reason, .int mo_acts, .ref mo_lefts_a, .ref mo_inWays_a, .ref mo_more_a, .ref mo_wins_a, .ref mo_been_a, .ref mo_image_a, .ref mo_isKept_a])), (mo_book_a, .inl (cI, 19, .inl mo_book)), (mo_now_a, .inl (cI, 19, .inl mo_now)), (mo_beside_a, .inl (cI, 7, .inl mo_beside)), (mo_sight_a, .inl (cI, 16, .inl mo_sight)), (mo_pad_a, .inl (cI, 60, .inl mo_pad)), (mo_lefts_a, .inl (cI, 256, .inl mo_lefts)), (mo_inWays_a, .inl (cI, 128, .inl mo_inWays)), (mo_more_a, .inl (cI, 128, .inl mo_more)), (mo_wins_a, .inl (cZ, 201, .inl mo_wins)), (mo_been_a, .inl (cJ, 9, .inr (.inl mo_been))), (mo_image_a, .inl (cI, 100, .inl mo_image)), (mo_isKept_a, .inl (cZ, 2, .inl mo_isKept))] (some (.int ((f_X9_parish mo_there mo_book xp xw xf xt).1))) [(mo, .inr (9, [.ref mo_book_a, .ref mo_now_a, .int ((f_X9_parish mo_there mo_book xp xw xf xt).2.1), .ref mo_beside_a, .int (nI mo_sights), .ref mo_sight_a, .int (nI mo_signs), .ref mo_pad_a, .int mo_heldAt, .int mo_heldThing, .int mo_reason, .int mo_acts, .ref mo_lefts_a, .ref mo_inWays_a, .ref mo_more_a, .ref mo_wins_a, .ref mo_been_a, .ref mo_image_a, .ref mo_isKept_a])), (mo_book_a, .inl (cI, 19, .inl ((f_X9_parish mo_there mo_book xp xw xf xt).2.2))), (mo_now_a, .inl (cI, 19, .inl mo_now)), (mo_beside_a, .inl (cI, 7, .inl mo_beside)), (mo_sight_a, .inl (cI, 16, .inl mo_sight)), (mo_pad_a, .inl (cI, 60, .inl mo_pad)), (mo_lefts_a, .inl (cI, 256, .inl mo_lefts)), (mo_inWays_a, .inl (cI, 128, .inl mo_inWays)), (mo_more_a, .inl (cI, 128, .inl mo_more)), (mo_wins_a, .inl (cZ, 201, .inl mo_wins)), (mo_been_a, .inl (cJ, 9, .inr (.inl mo_been))), (mo_image_a, .inl (cI, 100, .inl mo_image)), (mo_isKept_a, .inl (cZ, 2, .inl mo_isKept))] := by
  obtain ⟨R0, R1, R2, hR⟩ := prodE3 (f_X9_parish mo_there mo_book xp xw xf xt)
  rw [hR]
  dsimp only
  refine rw_start (cc := cX9_parish) (maxL := 5) (ret := (some .int)) (by decide) rfl (Nat.le_of_ble_eq_true rfl) ?_
  intro p e s m args below meth c hx hb hr hml hown hts hlocks hP hD hS hK ls hl
  have hown : s.vm.findClass RX9 = some m.cls := hown
  have hl : lv_has ls 5 [(0, .ref mo), (1, .int xp), (2, .int xw), (3, .int xf), (4, .int xt)] := hl
  have hq0 := hts (.fieldLink RX9 7 "StuckVanesModel" "book" "[I") (by decide +kernel)
  have hq1 := hts (.fieldLink RX9 52 "StuckVanesModel" "there" "I") (by decide +kernel)
  rw [f_X9_parish] at hR
  refine lv_iload_n hx hb dX9_parish_0 rfl (lv_at hl 1 rfl) ?_
  refine lv_iconst (v := (0 : Int32)) hx hb dX9_parish_1 (by decide) ?_
  refine lv_bipush (v := (6 : Int32)) hx hb dX9_parish_2 (by decide +kernel) ?_
  refine ro_S (As := [.int xp, .int (0 : Int32), .int (6 : Int32)]) (rest := []) ⟨hx, hb, hml, hown, hts⟩ hK (c_X9_in l D cI cJ cZ xp (0 : Int32) (6 : Int32)) va_P_nil (va_cwS 3 hts gX9_parish_X9_in rfl rfl rfl hd_X9_in ⟨(Nat.le_of_ble_eq_true rfl), (Nat.le_of_ble_eq_true rfl)⟩) rfl hl.1 rfl (Nat.le_of_ble_eq_true rfl) dX9_parish_4 (Nat.zero_le _) (Nat.zero_le _) ?_
  refine lv_if_ne (tgt := 12) hx hb dX9_parish_7 (by decide) (fun c7 => ?_) (fun c7 => ?_)
  · rw [if_neg c7] at hR
    refine lv_iload_n hx hb dX9_parish_12 rfl (lv_at hl 2 rfl) ?_
    refine lv_iconst (v := (0 : Int32)) hx hb dX9_parish_13 (by decide) ?_
    refine lv_bipush (v := (7 : Int32)) hx hb dX9_parish_14 (by decide +kernel) ?_
    refine ro_S (As := [.int xw, .int (0 : Int32), .int (7 : Int32)]) (rest := []) ⟨hx, hb, hml, hown, hts⟩ hK (c_X9_in l D cI cJ cZ xw (0 : Int32) (7 : Int32)) va_P_nil (va_cwS 3 hts gX9_parish_X9_in rfl rfl rfl hd_X9_in ⟨(Nat.le_of_ble_eq_true rfl), (Nat.le_of_ble_eq_true rfl)⟩) rfl hl.1 rfl (Nat.le_of_ble_eq_true rfl) dX9_parish_16 (Nat.zero_le _) (Nat.zero_le _) ?_
    refine lv_if_eq (tgt := 33) hx hb dX9_parish_19 (by decide) (fun c19 => ?_) (fun c19 => ?_)
    · rw [if_pos c19] at hR
      refine lv_bipush (v := (-2 : Int32)) hx hb dX9_parish_33 (by decide +kernel) ?_
      obtain ⟨rfl, rfl, rfl⟩ := prodI3 hR
      exact rw_iret hx hb hr hlocks hP hS dX9_parish_35
    · rw [if_neg c19] at hR
      refine lv_iload hx hb dX9_parish_22 (lv_at hl 4 rfl) ?_
      refine lv_iconst (v := (0 : Int32)) hx hb dX9_parish_24 (by decide) ?_
      refine lv_bipush (v := (9 : Int32)) hx hb dX9_parish_25 (by decide +kernel) ?_
      refine ro_S (As := [.int xt, .int (0 : Int32), .int (9 : Int32)]) (rest := []) ⟨hx, hb, hml, hown, hts⟩ hK (c_X9_in l D cI cJ cZ xt (0 : Int32) (9 : Int32)) va_P_nil (va_cwS 3 hts gX9_parish_X9_in rfl rfl rfl hd_X9_in ⟨(Nat.le_of_ble_eq_true rfl), (Nat.le_of_ble_eq_true rfl)⟩) rfl hl.1 rfl (Nat.le_of_ble_eq_true rfl) dX9_parish_27 (Nat.zero_le _) (Nat.zero_le _) ?_
      refine lv_if_ne (tgt := 36) hx hb dX9_parish_30 (by decide) (fun c30 => ?_) (fun c30 => ?_)
      · rw [if_neg c30] at hR
        refine lv_aload_n hx hb dX9_parish_36 rfl (lv_at hl 0 rfl) ?_
        refine va_get (D := D) (ci := 9) (v := .ref mo_book_a) (C := RX9) (T := TX9) (N := 19) hx hb hts in_X9_parish_X9 hown hK.1 hP 0 rfl rfl 0 (by decide) hq0 (fun _ h9 => h9) rfl dX9_parish_37 ?_
        refine lv_iload_n hx hb dX9_parish_40 rfl (lv_at hl 1 rfl) ?_
        refine lv_iload_n hx hb dX9_parish_41 rfl (lv_at hl 2 rfl) ?_
        refine va_iast hx hb hK.1 hP hD hS 1 0 rfl rfl (vp_mono (vp_in9 c7) (by decide) (by decide) (by decide)) dX9_parish_42 (fun H locs hP hD hS => ?_)
        have hP : va_P D vwCl [(mo, .inr (9, [.ref mo_book_a, .ref mo_now_a, .int mo_there, .ref mo_beside_a, .int (nI mo_sights), .ref mo_sight_a, .int (nI mo_signs), .ref mo_pad_a, .int mo_heldAt, .int mo_heldThing, .int mo_reason, .int mo_acts, .ref mo_lefts_a, .ref mo_inWays_a, .ref mo_more_a, .ref mo_wins_a, .ref mo_been_a, .ref mo_image_a, .ref mo_isKept_a])), (mo_book_a, .inl (cI, 19, .inl (upd mo_book xp.toNatClampNeg xw))), (mo_now_a, .inl (cI, 19, .inl mo_now)), (mo_beside_a, .inl (cI, 7, .inl mo_beside)), (mo_sight_a, .inl (cI, 16, .inl mo_sight)), (mo_pad_a, .inl (cI, 60, .inl mo_pad)), (mo_lefts_a, .inl (cI, 256, .inl mo_lefts)), (mo_inWays_a, .inl (cI, 128, .inl mo_inWays)), (mo_more_a, .inl (cI, 128, .inl mo_more)), (mo_wins_a, .inl (cZ, 201, .inl mo_wins)), (mo_been_a, .inl (cJ, 9, .inr (.inl mo_been))), (mo_image_a, .inl (cI, 100, .inl mo_image)), (mo_isKept_a, .inl (cZ, 2, .inl mo_isKept))] H := hP
        have hD : va_D _ [(mo, .inr (9, [.ref mo_book_a, .ref mo_now_a, .int mo_there, .ref mo_beside_a, .int (nI mo_sights), .ref mo_sight_a, .int (nI mo_signs), .ref mo_pad_a, .int mo_heldAt, .int mo_heldThing, .int mo_reason, .int mo_acts, .ref mo_lefts_a, .ref mo_inWays_a, .ref mo_more_a, .ref mo_wins_a, .ref mo_been_a, .ref mo_image_a, .ref mo_isKept_a])), (mo_book_a, .inl (cI, 19, .inl (upd mo_book xp.toNatClampNeg xw))), (mo_now_a, .inl (cI, 19, .inl mo_now)), (mo_beside_a, .inl (cI, 7, .inl mo_beside)), (mo_sight_a, .inl (cI, 16, .inl mo_sight)), (mo_pad_a, .inl (cI, 60, .inl mo_pad)), (mo_lefts_a, .inl (cI, 256, .inl mo_lefts)), (mo_inWays_a, .inl (cI, 128, .inl mo_inWays)), (mo_more_a, .inl (cI, 128, .inl mo_more)), (mo_wins_a, .inl (cZ, 201, .inl mo_wins)), (mo_been_a, .inl (cJ, 9, .inr (.inl mo_been))), (mo_image_a, .inl (cI, 100, .inl mo_image)), (mo_isKept_a, .inl (cZ, 2, .inl mo_isKept))] := hD
        refine lv_aload_n hx hb dX9_parish_43 rfl (lv_at hl 0 rfl) ?_
        refine va_get (D := D) (ci := 9) (v := .ref mo_book_a) (C := RX9) (T := TX9) (N := 19) hx hb hts in_X9_parish_X9 hown hK.1 hP 0 rfl rfl 0 (by decide) hq0 (fun _ h9 => h9) rfl dX9_parish_44 ?_
        refine lv_bipush (v := (7 : Int32)) hx hb dX9_parish_47 (by decide +kernel) ?_
        refine lv_iload_n hx hb dX9_parish_49 rfl (lv_at hl 1 rfl) ?_
        refine lv_iadd hx hb dX9_parish_50 ?_
        refine lv_iload hx hb dX9_parish_51 (lv_at hl 4 rfl) ?_
        refine va_iast hx hb hK.1 hP hD hS 1 0 rfl rfl (vp_mono (vp_addc (c := 7) (vp_in9 c7) (by decide)) (by decide) (by decide) (by decide)) dX9_parish_53 (fun H locs hP hD hS => ?_)
        have hP : va_P D vwCl [(mo, .inr (9, [.ref mo_book_a, .ref mo_now_a, .int mo_there, .ref mo_beside_a, .int (nI mo_sights), .ref mo_sight_a, .int (nI mo_signs), .ref mo_pad_a, .int mo_heldAt, .int mo_heldThing, .int mo_reason, .int mo_acts, .ref mo_lefts_a, .ref mo_inWays_a, .ref mo_more_a, .ref mo_wins_a, .ref mo_been_a, .ref mo_image_a, .ref mo_isKept_a])), (mo_book_a, .inl (cI, 19, .inl (upd (upd mo_book xp.toNatClampNeg xw) ((7 : Int32) + xp).toNatClampNeg xt))), (mo_now_a, .inl (cI, 19, .inl mo_now)), (mo_beside_a, .inl (cI, 7, .inl mo_beside)), (mo_sight_a, .inl (cI, 16, .inl mo_sight)), (mo_pad_a, .inl (cI, 60, .inl mo_pad)), (mo_lefts_a, .inl (cI, 256, .inl mo_lefts)), (mo_inWays_a, .inl (cI, 128, .inl mo_inWays)), (mo_more_a, .inl (cI, 128, .inl mo_more)), (mo_wins_a, .inl (cZ, 201, .inl mo_wins)), (mo_been_a, .inl (cJ, 9, .inr (.inl mo_been))), (mo_image_a, .inl (cI, 100, .inl mo_image)), (mo_isKept_a, .inl (cZ, 2, .inl mo_isKept))] H := hP
        have hD : va_D _ [(mo, .inr (9, [.ref mo_book_a, .ref mo_now_a, .int mo_there, .ref mo_beside_a, .int (nI mo_sights), .ref mo_sight_a, .int (nI mo_signs), .ref mo_pad_a, .int mo_heldAt, .int mo_heldThing, .int mo_reason, .int mo_acts, .ref mo_lefts_a, .ref mo_inWays_a, .ref mo_more_a, .ref mo_wins_a, .ref mo_been_a, .ref mo_image_a, .ref mo_isKept_a])), (mo_book_a, .inl (cI, 19, .inl (upd (upd mo_book xp.toNatClampNeg xw) ((7 : Int32) + xp).toNatClampNeg xt))), (mo_now_a, .inl (cI, 19, .inl mo_now)), (mo_beside_a, .inl (cI, 7, .inl mo_beside)), (mo_sight_a, .inl (cI, 16, .inl mo_sight)), (mo_pad_a, .inl (cI, 60, .inl mo_pad)), (mo_lefts_a, .inl (cI, 256, .inl mo_lefts)), (mo_inWays_a, .inl (cI, 128, .inl mo_inWays)), (mo_more_a, .inl (cI, 128, .inl mo_more)), (mo_wins_a, .inl (cZ, 201, .inl mo_wins)), (mo_been_a, .inl (cJ, 9, .inr (.inl mo_been))), (mo_image_a, .inl (cI, 100, .inl mo_image)), (mo_isKept_a, .inl (cZ, 2, .inl mo_isKept))] := hD
        refine lv_aload_n hx hb dX9_parish_54 rfl (lv_at hl 0 rfl) ?_
        refine va_get (D := D) (ci := 9) (v := .ref mo_book_a) (C := RX9) (T := TX9) (N := 19) hx hb hts in_X9_parish_X9 hown hK.1 hP 0 rfl rfl 0 (by decide) hq0 (fun _ h9 => h9) rfl dX9_parish_55 ?_
        refine lv_bipush (v := (14 : Int32)) hx hb dX9_parish_58 (by decide +kernel) ?_
        refine lv_dup2_11 hx hb dX9_parish_60 rfl rfl ?_
        refine ia_ld hx hb hK hP 1 rfl (i := 14) (by omega) (by decide) dX9_parish_61 ?_
        refine lv_iconst (v := (1 : Int32)) hx hb dX9_parish_62 (by decide) ?_
        refine lv_iload_n hx hb dX9_parish_63 rfl (lv_at hl 1 rfl) ?_
        refine lv_ishl hx hb dX9_parish_64 ?_
        refine lv_iconst (v := (-1 : Int32)) hx hb dX9_parish_65 (by decide) ?_
        refine lv_ixor hx hb dX9_parish_66 ?_
        refine lv_iand hx hb dX9_parish_67 ?_
        refine ia_st hx hb hK hP hD hS 1 rfl (i := 14) (by omega) (by decide) dX9_parish_68 (fun H locs hP hD hS => ?_)
        have hP : va_P D vwCl [(mo, .inr (9, [.ref mo_book_a, .ref mo_now_a, .int mo_there, .ref mo_beside_a, .int (nI mo_sights), .ref mo_sight_a, .int (nI mo_signs), .ref mo_pad_a, .int mo_heldAt, .int mo_heldThing, .int mo_reason, .int mo_acts, .ref mo_lefts_a, .ref mo_inWays_a, .ref mo_more_a, .ref mo_wins_a, .ref mo_been_a, .ref mo_image_a, .ref mo_isKept_a])), (mo_book_a, .inl (cI, 19, .inl (upd (upd (upd mo_book xp.toNatClampNeg xw) ((7 : Int32) + xp).toNatClampNeg xt) 14 (((upd (upd mo_book xp.toNatClampNeg xw) ((7 : Int32) + xp).toNatClampNeg xt) 14) &&& (((1 : Int32) <<< (xp &&& 31)) ^^^ (-1 : Int32)))))), (mo_now_a, .inl (cI, 19, .inl mo_now)), (mo_beside_a, .inl (cI, 7, .inl mo_beside)), (mo_sight_a, .inl (cI, 16, .inl mo_sight)), (mo_pad_a, .inl (cI, 60, .inl mo_pad)), (mo_lefts_a, .inl (cI, 256, .inl mo_lefts)), (mo_inWays_a, .inl (cI, 128, .inl mo_inWays)), (mo_more_a, .inl (cI, 128, .inl mo_more)), (mo_wins_a, .inl (cZ, 201, .inl mo_wins)), (mo_been_a, .inl (cJ, 9, .inr (.inl mo_been))), (mo_image_a, .inl (cI, 100, .inl mo_image)), (mo_isKept_a, .inl (cZ, 2, .inl mo_isKept))] H := hP
        have hD : va_D _ [(mo, .inr (9, [.ref mo_book_a, .ref mo_now_a, .int mo_there, .ref mo_beside_a, .int (nI mo_sights), .ref mo_sight_a, .int (nI mo_signs), .ref mo_pad_a, .int mo_heldAt, .int mo_heldThing, .int mo_reason, .int mo_acts, .ref mo_lefts_a, .ref mo_inWays_a, .ref mo_more_a, .ref mo_wins_a, .ref mo_been_a, .ref mo_image_a, .ref mo_isKept_a])), (mo_book_a, .inl (cI, 19, .inl (upd (upd (upd mo_book xp.toNatClampNeg xw) ((7 : Int32) + xp).toNatClampNeg xt) 14 (((upd (upd mo_book xp.toNatClampNeg xw) ((7 : Int32) + xp).toNatClampNeg xt) 14) &&& (((1 : Int32) <<< (xp &&& 31)) ^^^ (-1 : Int32)))))), (mo_now_a, .inl (cI, 19, .inl mo_now)), (mo_beside_a, .inl (cI, 7, .inl mo_beside)), (mo_sight_a, .inl (cI, 16, .inl mo_sight)), (mo_pad_a, .inl (cI, 60, .inl mo_pad)), (mo_lefts_a, .inl (cI, 256, .inl mo_lefts)), (mo_inWays_a, .inl (cI, 128, .inl mo_inWays)), (mo_more_a, .inl (cI, 128, .inl mo_more)), (mo_wins_a, .inl (cZ, 201, .inl mo_wins)), (mo_been_a, .inl (cJ, 9, .inr (.inl mo_been))), (mo_image_a, .inl (cI, 100, .inl mo_image)), (mo_isKept_a, .inl (cZ, 2, .inl mo_isKept))] := hD
        refine lv_aload_n hx hb dX9_parish_69 rfl (lv_at hl 0 rfl) ?_
        refine va_get (D := D) (ci := 9) (v := .ref mo_book_a) (C := RX9) (T := TX9) (N := 19) hx hb hts in_X9_parish_X9 hown hK.1 hP 0 rfl rfl 0 (by decide) hq0 (fun _ h9 => h9) rfl dX9_parish_70 ?_
        refine lv_bipush (v := (14 : Int32)) hx hb dX9_parish_73 (by decide +kernel) ?_
        refine lv_dup2_11 hx hb dX9_parish_75 rfl rfl ?_
        refine ia_ld hx hb hK hP 1 rfl (i := 14) (by omega) (by decide) dX9_parish_76 ?_
        refine lv_iload_n hx hb dX9_parish_77 rfl (lv_at hl 3 rfl) ?_
        refine lv_if_eq (tgt := 87) hx hb dX9_parish_78 (by decide) (fun c78 => ?_) (fun c78 => ?_)
        · rw [if_pos c78] at hR
          refine lv_iconst (v := (0 : Int32)) hx hb dX9_parish_87 (by decide) ?_
          refine lv_ior hx hb dX9_parish_88 ?_
          refine ia_st hx hb hK hP hD hS 1 rfl (i := 14) (by omega) (by decide) dX9_parish_89 (fun H locs hP hD hS => ?_)
          have hP : va_P D vwCl [(mo, .inr (9, [.ref mo_book_a, .ref mo_now_a, .int mo_there, .ref mo_beside_a, .int (nI mo_sights), .ref mo_sight_a, .int (nI mo_signs), .ref mo_pad_a, .int mo_heldAt, .int mo_heldThing, .int mo_reason, .int mo_acts, .ref mo_lefts_a, .ref mo_inWays_a, .ref mo_more_a, .ref mo_wins_a, .ref mo_been_a, .ref mo_image_a, .ref mo_isKept_a])), (mo_book_a, .inl (cI, 19, .inl (upd (upd (upd (upd mo_book xp.toNatClampNeg xw) ((7 : Int32) + xp).toNatClampNeg xt) 14 (((upd (upd mo_book xp.toNatClampNeg xw) ((7 : Int32) + xp).toNatClampNeg xt) 14) &&& (((1 : Int32) <<< (xp &&& 31)) ^^^ (-1 : Int32)))) 14 (((upd (upd (upd mo_book xp.toNatClampNeg xw) ((7 : Int32) + xp).toNatClampNeg xt) 14 (((upd (upd mo_book xp.toNatClampNeg xw) ((7 : Int32) + xp).toNatClampNeg xt) 14) &&& (((1 : Int32) <<< (xp &&& 31)) ^^^ (-1 : Int32)))) 14) ||| (0 : Int32))))), (mo_now_a, .inl (cI, 19, .inl mo_now)), (mo_beside_a, .inl (cI, 7, .inl mo_beside)), (mo_sight_a, .inl (cI, 16, .inl mo_sight)), (mo_pad_a, .inl (cI, 60, .inl mo_pad)), (mo_lefts_a, .inl (cI, 256, .inl mo_lefts)), (mo_inWays_a, .inl (cI, 128, .inl mo_inWays)), (mo_more_a, .inl (cI, 128, .inl mo_more)), (mo_wins_a, .inl (cZ, 201, .inl mo_wins)), (mo_been_a, .inl (cJ, 9, .inr (.inl mo_been))), (mo_image_a, .inl (cI, 100, .inl mo_image)), (mo_isKept_a, .inl (cZ, 2, .inl mo_isKept))] H := hP
          have hD : va_D _ [(mo, .inr (9, [.ref mo_book_a, .ref mo_now_a, .int mo_there, .ref mo_beside_a, .int (nI mo_sights), .ref mo_sight_a, .int (nI mo_signs), .ref mo_pad_a, .int mo_heldAt, .int mo_heldThing, .int mo_reason, .int mo_acts, .ref mo_lefts_a, .ref mo_inWays_a, .ref mo_more_a, .ref mo_wins_a, .ref mo_been_a, .ref mo_image_a, .ref mo_isKept_a])), (mo_book_a, .inl (cI, 19, .inl (upd (upd (upd (upd mo_book xp.toNatClampNeg xw) ((7 : Int32) + xp).toNatClampNeg xt) 14 (((upd (upd mo_book xp.toNatClampNeg xw) ((7 : Int32) + xp).toNatClampNeg xt) 14) &&& (((1 : Int32) <<< (xp &&& 31)) ^^^ (-1 : Int32)))) 14 (((upd (upd (upd mo_book xp.toNatClampNeg xw) ((7 : Int32) + xp).toNatClampNeg xt) 14 (((upd (upd mo_book xp.toNatClampNeg xw) ((7 : Int32) + xp).toNatClampNeg xt) 14) &&& (((1 : Int32) <<< (xp &&& 31)) ^^^ (-1 : Int32)))) 14) ||| (0 : Int32))))), (mo_now_a, .inl (cI, 19, .inl mo_now)), (mo_beside_a, .inl (cI, 7, .inl mo_beside)), (mo_sight_a, .inl (cI, 16, .inl mo_sight)), (mo_pad_a, .inl (cI, 60, .inl mo_pad)), (mo_lefts_a, .inl (cI, 256, .inl mo_lefts)), (mo_inWays_a, .inl (cI, 128, .inl mo_inWays)), (mo_more_a, .inl (cI, 128, .inl mo_more)), (mo_wins_a, .inl (cZ, 201, .inl mo_wins)), (mo_been_a, .inl (cJ, 9, .inr (.inl mo_been))), (mo_image_a, .inl (cI, 100, .inl mo_image)), (mo_isKept_a, .inl (cZ, 2, .inl mo_isKept))] := hD
          refine lv_aload_n hx hb dX9_parish_90 rfl (lv_at hl 0 rfl) ?_
          refine lv_dup hx hb dX9_parish_91 rfl ?_
          refine va_get (D := D) (ci := 9) (v := .int mo_there) (C := RX9) (T := TX9) (N := 19) hx hb hts in_X9_parish_X9 hown hK.1 hP 0 rfl rfl 2 (by decide) hq1 (fun _ h9 => h9) rfl dX9_parish_92 ?_
          refine lv_iconst (v := (1 : Int32)) hx hb dX9_parish_95 (by decide) ?_
          refine lv_iload_n hx hb dX9_parish_96 rfl (lv_at hl 1 rfl) ?_
          refine lv_ishl hx hb dX9_parish_97 ?_
          refine lv_ior hx hb dX9_parish_98 ?_
          refine va_put (D := D) (ci := 9) (v := .int (mo_there ||| ((1 : Int32) <<< (xp &&& 31)))) (ty := .int) (C := RX9) (T := TX9) (N := 19) hx hb hts in_X9_parish_X9 tyX9 tyX9_ok nmX9 hown hK.1 hP hD hS 0 rfl rfl 2 (by decide) hq1 (fun _ h9 => h9) rfl (by decide +kernel) rfl rfl (Nat.le_of_ble_eq_true rfl) dX9_parish_99 (fun H locs hP hD hS => ?_)
          have hP : va_P D vwCl [(mo, .inr (9, [.ref mo_book_a, .ref mo_now_a, .int (mo_there ||| ((1 : Int32) <<< (xp &&& 31))), .ref mo_beside_a, .int (nI mo_sights), .ref mo_sight_a, .int (nI mo_signs), .ref mo_pad_a, .int mo_heldAt, .int mo_heldThing, .int mo_reason, .int mo_acts, .ref mo_lefts_a, .ref mo_inWays_a, .ref mo_more_a, .ref mo_wins_a, .ref mo_been_a, .ref mo_image_a, .ref mo_isKept_a])), (mo_book_a, .inl (cI, 19, .inl (upd (upd (upd (upd mo_book xp.toNatClampNeg xw) ((7 : Int32) + xp).toNatClampNeg xt) 14 (((upd (upd mo_book xp.toNatClampNeg xw) ((7 : Int32) + xp).toNatClampNeg xt) 14) &&& (((1 : Int32) <<< (xp &&& 31)) ^^^ (-1 : Int32)))) 14 (((upd (upd (upd mo_book xp.toNatClampNeg xw) ((7 : Int32) + xp).toNatClampNeg xt) 14 (((upd (upd mo_book xp.toNatClampNeg xw) ((7 : Int32) + xp).toNatClampNeg xt) 14) &&& (((1 : Int32) <<< (xp &&& 31)) ^^^ (-1 : Int32)))) 14) ||| (0 : Int32))))), (mo_now_a, .inl (cI, 19, .inl mo_now)), (mo_beside_a, .inl (cI, 7, .inl mo_beside)), (mo_sight_a, .inl (cI, 16, .inl mo_sight)), (mo_pad_a, .inl (cI, 60, .inl mo_pad)), (mo_lefts_a, .inl (cI, 256, .inl mo_lefts)), (mo_inWays_a, .inl (cI, 128, .inl mo_inWays)), (mo_more_a, .inl (cI, 128, .inl mo_more)), (mo_wins_a, .inl (cZ, 201, .inl mo_wins)), (mo_been_a, .inl (cJ, 9, .inr (.inl mo_been))), (mo_image_a, .inl (cI, 100, .inl mo_image)), (mo_isKept_a, .inl (cZ, 2, .inl mo_isKept))] H := hP
          have hD : va_D _ [(mo, .inr (9, [.ref mo_book_a, .ref mo_now_a, .int (mo_there ||| ((1 : Int32) <<< (xp &&& 31))), .ref mo_beside_a, .int (nI mo_sights), .ref mo_sight_a, .int (nI mo_signs), .ref mo_pad_a, .int mo_heldAt, .int mo_heldThing, .int mo_reason, .int mo_acts, .ref mo_lefts_a, .ref mo_inWays_a, .ref mo_more_a, .ref mo_wins_a, .ref mo_been_a, .ref mo_image_a, .ref mo_isKept_a])), (mo_book_a, .inl (cI, 19, .inl (upd (upd (upd (upd mo_book xp.toNatClampNeg xw) ((7 : Int32) + xp).toNatClampNeg xt) 14 (((upd (upd mo_book xp.toNatClampNeg xw) ((7 : Int32) + xp).toNatClampNeg xt) 14) &&& (((1 : Int32) <<< (xp &&& 31)) ^^^ (-1 : Int32)))) 14 (((upd (upd (upd mo_book xp.toNatClampNeg xw) ((7 : Int32) + xp).toNatClampNeg xt) 14 (((upd (upd mo_book xp.toNatClampNeg xw) ((7 : Int32) + xp).toNatClampNeg xt) 14) &&& (((1 : Int32) <<< (xp &&& 31)) ^^^ (-1 : Int32)))) 14) ||| (0 : Int32))))), (mo_now_a, .inl (cI, 19, .inl mo_now)), (mo_beside_a, .inl (cI, 7, .inl mo_beside)), (mo_sight_a, .inl (cI, 16, .inl mo_sight)), (mo_pad_a, .inl (cI, 60, .inl mo_pad)), (mo_lefts_a, .inl (cI, 256, .inl mo_lefts)), (mo_inWays_a, .inl (cI, 128, .inl mo_inWays)), (mo_more_a, .inl (cI, 128, .inl mo_more)), (mo_wins_a, .inl (cZ, 201, .inl mo_wins)), (mo_been_a, .inl (cJ, 9, .inr (.inl mo_been))), (mo_image_a, .inl (cI, 100, .inl mo_image)), (mo_isKept_a, .inl (cZ, 2, .inl mo_isKept))] := hD
          refine lv_aload_n hx hb dX9_parish_102 rfl (lv_at hl 0 rfl) ?_
          refine va_get (D := D) (ci := 9) (v := .int (mo_there ||| ((1 : Int32) <<< (xp &&& 31)))) (C := RX9) (T := TX9) (N := 19) hx hb hts in_X9_parish_X9 hown hK.1 hP 0 rfl rfl 2 (by decide) hq1 (fun _ h9 => h9) rfl dX9_parish_103 ?_
          refine ro_S (As := [.int (mo_there ||| ((1 : Int32) <<< (xp &&& 31)))]) (rest := []) ⟨hx, hb, hml, hown, hts⟩ hK (c_X9_bits l D cI cJ cZ (mo_there ||| ((1 : Int32) <<< (xp &&& 31)))) va_P_nil (va_cwS 1 hts gX9_parish_X9_bits rfl rfl rfl hd_X9_bits ⟨(Nat.le_of_ble_eq_true rfl), (Nat.le_of_ble_eq_true rfl)⟩) rfl hl.1 rfl (Nat.le_of_ble_eq_true rfl) dX9_parish_106 (Nat.zero_le _) (Nat.zero_le _) ?_
          obtain ⟨rfl, rfl, rfl⟩ := prodI3 hR
          exact rw_iret hx hb hr hlocks hP hS dX9_parish_109
        · rw [if_neg c78] at hR
          refine lv_iconst (v := (1 : Int32)) hx hb dX9_parish_81 (by decide) ?_
          refine lv_iload_n hx hb dX9_parish_82 rfl (lv_at hl 1 rfl) ?_
          refine lv_ishl hx hb dX9_parish_83 ?_
          refine lv_goto (tgt := 88) hx hb dX9_parish_84 (by decide) ?_
          refine lv_ior hx hb dX9_parish_88 ?_
          refine ia_st hx hb hK hP hD hS 1 rfl (i := 14) (by omega) (by decide) dX9_parish_89 (fun H locs hP hD hS => ?_)
          have hP : va_P D vwCl [(mo, .inr (9, [.ref mo_book_a, .ref mo_now_a, .int mo_there, .ref mo_beside_a, .int (nI mo_sights), .ref mo_sight_a, .int (nI mo_signs), .ref mo_pad_a, .int mo_heldAt, .int mo_heldThing, .int mo_reason, .int mo_acts, .ref mo_lefts_a, .ref mo_inWays_a, .ref mo_more_a, .ref mo_wins_a, .ref mo_been_a, .ref mo_image_a, .ref mo_isKept_a])), (mo_book_a, .inl (cI, 19, .inl (upd (upd (upd (upd mo_book xp.toNatClampNeg xw) ((7 : Int32) + xp).toNatClampNeg xt) 14 (((upd (upd mo_book xp.toNatClampNeg xw) ((7 : Int32) + xp).toNatClampNeg xt) 14) &&& (((1 : Int32) <<< (xp &&& 31)) ^^^ (-1 : Int32)))) 14 (((upd (upd (upd mo_book xp.toNatClampNeg xw) ((7 : Int32) + xp).toNatClampNeg xt) 14 (((upd (upd mo_book xp.toNatClampNeg xw) ((7 : Int32) + xp).toNatClampNeg xt) 14) &&& (((1 : Int32) <<< (xp &&& 31)) ^^^ (-1 : Int32)))) 14) ||| ((1 : Int32) <<< (xp &&& 31)))))), (mo_now_a, .inl (cI, 19, .inl mo_now)), (mo_beside_a, .inl (cI, 7, .inl mo_beside)), (mo_sight_a, .inl (cI, 16, .inl mo_sight)), (mo_pad_a, .inl (cI, 60, .inl mo_pad)), (mo_lefts_a, .inl (cI, 256, .inl mo_lefts)), (mo_inWays_a, .inl (cI, 128, .inl mo_inWays)), (mo_more_a, .inl (cI, 128, .inl mo_more)), (mo_wins_a, .inl (cZ, 201, .inl mo_wins)), (mo_been_a, .inl (cJ, 9, .inr (.inl mo_been))), (mo_image_a, .inl (cI, 100, .inl mo_image)), (mo_isKept_a, .inl (cZ, 2, .inl mo_isKept))] H := hP
          have hD : va_D _ [(mo, .inr (9, [.ref mo_book_a, .ref mo_now_a, .int mo_there, .ref mo_beside_a, .int (nI mo_sights), .ref mo_sight_a, .int (nI mo_signs), .ref mo_pad_a, .int mo_heldAt, .int mo_heldThing, .int mo_reason, .int mo_acts, .ref mo_lefts_a, .ref mo_inWays_a, .ref mo_more_a, .ref mo_wins_a, .ref mo_been_a, .ref mo_image_a, .ref mo_isKept_a])), (mo_book_a, .inl (cI, 19, .inl (upd (upd (upd (upd mo_book xp.toNatClampNeg xw) ((7 : Int32) + xp).toNatClampNeg xt) 14 (((upd (upd mo_book xp.toNatClampNeg xw) ((7 : Int32) + xp).toNatClampNeg xt) 14) &&& (((1 : Int32) <<< (xp &&& 31)) ^^^ (-1 : Int32)))) 14 (((upd (upd (upd mo_book xp.toNatClampNeg xw) ((7 : Int32) + xp).toNatClampNeg xt) 14 (((upd (upd mo_book xp.toNatClampNeg xw) ((7 : Int32) + xp).toNatClampNeg xt) 14) &&& (((1 : Int32) <<< (xp &&& 31)) ^^^ (-1 : Int32)))) 14) ||| ((1 : Int32) <<< (xp &&& 31)))))), (mo_now_a, .inl (cI, 19, .inl mo_now)), (mo_beside_a, .inl (cI, 7, .inl mo_beside)), (mo_sight_a, .inl (cI, 16, .inl mo_sight)), (mo_pad_a, .inl (cI, 60, .inl mo_pad)), (mo_lefts_a, .inl (cI, 256, .inl mo_lefts)), (mo_inWays_a, .inl (cI, 128, .inl mo_inWays)), (mo_more_a, .inl (cI, 128, .inl mo_more)), (mo_wins_a, .inl (cZ, 201, .inl mo_wins)), (mo_been_a, .inl (cJ, 9, .inr (.inl mo_been))), (mo_image_a, .inl (cI, 100, .inl mo_image)), (mo_isKept_a, .inl (cZ, 2, .inl mo_isKept))] := hD
          refine lv_aload_n hx hb dX9_parish_90 rfl (lv_at hl 0 rfl) ?_
          refine lv_dup hx hb dX9_parish_91 rfl ?_
          refine va_get (D := D) (ci := 9) (v := .int mo_there) (C := RX9) (T := TX9) (N := 19) hx hb hts in_X9_parish_X9 hown hK.1 hP 0 rfl rfl 2 (by decide) hq1 (fun _ h9 => h9) rfl dX9_parish_92 ?_
          refine lv_iconst (v := (1 : Int32)) hx hb dX9_parish_95 (by decide) ?_
          refine lv_iload_n hx hb dX9_parish_96 rfl (lv_at hl 1 rfl) ?_
          refine lv_ishl hx hb dX9_parish_97 ?_
          refine lv_ior hx hb dX9_parish_98 ?_
          refine va_put (D := D) (ci := 9) (v := .int (mo_there ||| ((1 : Int32) <<< (xp &&& 31)))) (ty := .int) (C := RX9) (T := TX9) (N := 19) hx hb hts in_X9_parish_X9 tyX9 tyX9_ok nmX9 hown hK.1 hP hD hS 0 rfl rfl 2 (by decide) hq1 (fun _ h9 => h9) rfl (by decide +kernel) rfl rfl (Nat.le_of_ble_eq_true rfl) dX9_parish_99 (fun H locs hP hD hS => ?_)
          have hP : va_P D vwCl [(mo, .inr (9, [.ref mo_book_a, .ref mo_now_a, .int (mo_there ||| ((1 : Int32) <<< (xp &&& 31))), .ref mo_beside_a, .int (nI mo_sights), .ref mo_sight_a, .int (nI mo_signs), .ref mo_pad_a, .int mo_heldAt, .int mo_heldThing, .int mo_reason, .int mo_acts, .ref mo_lefts_a, .ref mo_inWays_a, .ref mo_more_a, .ref mo_wins_a, .ref mo_been_a, .ref mo_image_a, .ref mo_isKept_a])), (mo_book_a, .inl (cI, 19, .inl (upd (upd (upd (upd mo_book xp.toNatClampNeg xw) ((7 : Int32) + xp).toNatClampNeg xt) 14 (((upd (upd mo_book xp.toNatClampNeg xw) ((7 : Int32) + xp).toNatClampNeg xt) 14) &&& (((1 : Int32) <<< (xp &&& 31)) ^^^ (-1 : Int32)))) 14 (((upd (upd (upd mo_book xp.toNatClampNeg xw) ((7 : Int32) + xp).toNatClampNeg xt) 14 (((upd (upd mo_book xp.toNatClampNeg xw) ((7 : Int32) + xp).toNatClampNeg xt) 14) &&& (((1 : Int32) <<< (xp &&& 31)) ^^^ (-1 : Int32)))) 14) ||| ((1 : Int32) <<< (xp &&& 31)))))), (mo_now_a, .inl (cI, 19, .inl mo_now)), (mo_beside_a, .inl (cI, 7, .inl mo_beside)), (mo_sight_a, .inl (cI, 16, .inl mo_sight)), (mo_pad_a, .inl (cI, 60, .inl mo_pad)), (mo_lefts_a, .inl (cI, 256, .inl mo_lefts)), (mo_inWays_a, .inl (cI, 128, .inl mo_inWays)), (mo_more_a, .inl (cI, 128, .inl mo_more)), (mo_wins_a, .inl (cZ, 201, .inl mo_wins)), (mo_been_a, .inl (cJ, 9, .inr (.inl mo_been))), (mo_image_a, .inl (cI, 100, .inl mo_image)), (mo_isKept_a, .inl (cZ, 2, .inl mo_isKept))] H := hP
          have hD : va_D _ [(mo, .inr (9, [.ref mo_book_a, .ref mo_now_a, .int (mo_there ||| ((1 : Int32) <<< (xp &&& 31))), .ref mo_beside_a, .int (nI mo_sights), .ref mo_sight_a, .int (nI mo_signs), .ref mo_pad_a, .int mo_heldAt, .int mo_heldThing, .int mo_reason, .int mo_acts, .ref mo_lefts_a, .ref mo_inWays_a, .ref mo_more_a, .ref mo_wins_a, .ref mo_been_a, .ref mo_image_a, .ref mo_isKept_a])), (mo_book_a, .inl (cI, 19, .inl (upd (upd (upd (upd mo_book xp.toNatClampNeg xw) ((7 : Int32) + xp).toNatClampNeg xt) 14 (((upd (upd mo_book xp.toNatClampNeg xw) ((7 : Int32) + xp).toNatClampNeg xt) 14) &&& (((1 : Int32) <<< (xp &&& 31)) ^^^ (-1 : Int32)))) 14 (((upd (upd (upd mo_book xp.toNatClampNeg xw) ((7 : Int32) + xp).toNatClampNeg xt) 14 (((upd (upd mo_book xp.toNatClampNeg xw) ((7 : Int32) + xp).toNatClampNeg xt) 14) &&& (((1 : Int32) <<< (xp &&& 31)) ^^^ (-1 : Int32)))) 14) ||| ((1 : Int32) <<< (xp &&& 31)))))), (mo_now_a, .inl (cI, 19, .inl mo_now)), (mo_beside_a, .inl (cI, 7, .inl mo_beside)), (mo_sight_a, .inl (cI, 16, .inl mo_sight)), (mo_pad_a, .inl (cI, 60, .inl mo_pad)), (mo_lefts_a, .inl (cI, 256, .inl mo_lefts)), (mo_inWays_a, .inl (cI, 128, .inl mo_inWays)), (mo_more_a, .inl (cI, 128, .inl mo_more)), (mo_wins_a, .inl (cZ, 201, .inl mo_wins)), (mo_been_a, .inl (cJ, 9, .inr (.inl mo_been))), (mo_image_a, .inl (cI, 100, .inl mo_image)), (mo_isKept_a, .inl (cZ, 2, .inl mo_isKept))] := hD
          refine lv_aload_n hx hb dX9_parish_102 rfl (lv_at hl 0 rfl) ?_
          refine va_get (D := D) (ci := 9) (v := .int (mo_there ||| ((1 : Int32) <<< (xp &&& 31)))) (C := RX9) (T := TX9) (N := 19) hx hb hts in_X9_parish_X9 hown hK.1 hP 0 rfl rfl 2 (by decide) hq1 (fun _ h9 => h9) rfl dX9_parish_103 ?_
          refine ro_S (As := [.int (mo_there ||| ((1 : Int32) <<< (xp &&& 31)))]) (rest := []) ⟨hx, hb, hml, hown, hts⟩ hK (c_X9_bits l D cI cJ cZ (mo_there ||| ((1 : Int32) <<< (xp &&& 31)))) va_P_nil (va_cwS 1 hts gX9_parish_X9_bits rfl rfl rfl hd_X9_bits ⟨(Nat.le_of_ble_eq_true rfl), (Nat.le_of_ble_eq_true rfl)⟩) rfl hl.1 rfl (Nat.le_of_ble_eq_true rfl) dX9_parish_106 (Nat.zero_le _) (Nat.zero_le _) ?_
          obtain ⟨rfl, rfl, rfl⟩ := prodI3 hR
          exact rw_iret hx hb hr hlocks hP hS dX9_parish_109
      · rw [if_pos c30] at hR
        refine lv_bipush (v := (-2 : Int32)) hx hb dX9_parish_33 (by decide +kernel) ?_
        obtain ⟨rfl, rfl, rfl⟩ := prodI3 hR
        exact rw_iret hx hb hr hlocks hP hS dX9_parish_35
  · rw [if_pos c7] at hR
    refine lv_iconst (v := (-1 : Int32)) hx hb dX9_parish_10 (by decide) ?_
    obtain ⟨rfl, rfl, rfl⟩ := prodI3 hR
    exact rw_iret hx hb hr hlocks hP hS dX9_parish_11


theorem in_X9_neighbours_X9 : ∀ w ∈ u_ws RX9 TX9 19, w ∈ wsX9_neighbours := by decide +kernel
def lp_X9_neighbours_101 (z1_101 : Nat → Int32) : Nat → Nat → Int32 → Int32
  | 0, _, v4_101 => v4_101
  | k101 + 1, i101, v4_101 => (lp_X9_neighbours_101 z1_101 k101 (i101 + 1) (v4_101 + (f_X9_bits (z1_101 i101))))
def f_X9_neighbours (mo_beside : Nat → Int32) (xa : Int32) (xb : Int32) (xi : Int32) : Int32 × (Nat → Int32) :=
  (if ((f_X9_in xa (0 : Int32) (6 : Int32)) = 0) then ((-1 : Int32), mo_beside) else (if ((f_X9_in xb (0 : Int32) (6 : Int32)) = 0) then ((-1 : Int32), mo_beside) else (if (xa = xb) then ((-1 : Int32), mo_beside) else (if (xi = 0) then (((lp_X9_neighbours_101 (upd (upd (upd (upd mo_beside xa.toNatClampNeg ((mo_beside xa.toNatClampNeg) &&& (((1 : Int32) <<< (xb &&& 31)) ^^^ (-1 : Int32)))) xb.toNatClampNeg (((upd mo_beside xa.toNatClampNeg ((mo_beside xa.toNatClampNeg) &&& (((1 : Int32) <<< (xb &&& 31)) ^^^ (-1 : Int32)))) xb.toNatClampNeg) &&& (((1 : Int32) <<< (xa &&& 31)) ^^^ (-1 : Int32)))) xa.toNatClampNeg (((upd (upd mo_beside xa.toNatClampNeg ((mo_beside xa.toNatClampNeg) &&& (((1 : Int32) <<< (xb &&& 31)) ^^^ (-1 : Int32)))) xb.toNatClampNeg (((upd mo_beside xa.toNatClampNeg ((mo_beside xa.toNatClampNeg) &&& (((1 : Int32) <<< (xb &&& 31)) ^^^ (-1 : Int32)))) xb.toNatClampNeg) &&& (((1 : Int32) <<< (xa &&& 31)) ^^^ (-1 : Int32)))) xa.toNatClampNeg) ||| (0 : Int32))) xb.toNatClampNeg (((upd (upd (upd mo_beside xa.toNatClampNeg ((mo_beside xa.toNatClampNeg) &&& (((1 : Int32) <<< (xb &&& 31)) ^^^ (-1 : Int32)))) xb.toNatClampNeg (((upd mo_beside xa.toNatClampNeg ((mo_beside xa.toNatClampNeg) &&& (((1 : Int32) <<< (xb &&& 31)) ^^^ (-1 : Int32)))) xb.toNatClampNeg) &&& (((1 : Int32) <<< (xa &&& 31)) ^^^ (-1 : Int32)))) xa.toNatClampNeg (((upd (upd mo_beside xa.toNatClampNeg ((mo_beside xa.toNatClampNeg) &&& (((1 : Int32) <<< (xb &&& 31)) ^^^ (-1 : Int32)))) xb.toNatClampNeg (((upd mo_beside xa.toNatClampNeg ((mo_beside xa.toNatClampNeg) &&& (((1 : Int32) <<< (xb &&& 31)) ^^^ (-1 : Int32)))) xb.toNatClampNeg) &&& (((1 : Int32) <<< (xa &&& 31)) ^^^ (-1 : Int32)))) xa.toNatClampNeg) ||| (0 : Int32))) xb.toNatClampNeg) ||| (0 : Int32))) 7 0 (0 : Int32)) / (2 : Int32)), (upd (upd (upd (upd mo_beside xa.toNatClampNeg ((mo_beside xa.toNatClampNeg) &&& (((1 : Int32) <<< (xb &&& 31)) ^^^ (-1 : Int32)))) xb.toNatClampNeg (((upd mo_beside xa.toNatClampNeg ((mo_beside xa.toNatClampNeg) &&& (((1 : Int32) <<< (xb &&& 31)) ^^^ (-1 : Int32)))) xb.toNatClampNeg) &&& (((1 : Int32) <<< (xa &&& 31)) ^^^ (-1 : Int32)))) xa.toNatClampNeg (((upd (upd mo_beside xa.toNatClampNeg ((mo_beside xa.toNatClampNeg) &&& (((1 : Int32) <<< (xb &&& 31)) ^^^ (-1 : Int32)))) xb.toNatClampNeg (((upd mo_beside xa.toNatClampNeg ((mo_beside xa.toNatClampNeg) &&& (((1 : Int32) <<< (xb &&& 31)) ^^^ (-1 : Int32)))) xb.toNatClampNeg) &&& (((1 : Int32) <<< (xa &&& 31)) ^^^ (-1 : Int32)))) xa.toNatClampNeg) ||| (0 : Int32))) xb.toNatClampNeg (((upd (upd (upd mo_beside xa.toNatClampNeg ((mo_beside xa.toNatClampNeg) &&& (((1 : Int32) <<< (xb &&& 31)) ^^^ (-1 : Int32)))) xb.toNatClampNeg (((upd mo_beside xa.toNatClampNeg ((mo_beside xa.toNatClampNeg) &&& (((1 : Int32) <<< (xb &&& 31)) ^^^ (-1 : Int32)))) xb.toNatClampNeg) &&& (((1 : Int32) <<< (xa &&& 31)) ^^^ (-1 : Int32)))) xa.toNatClampNeg (((upd (upd mo_beside xa.toNatClampNeg ((mo_beside xa.toNatClampNeg) &&& (((1 : Int32) <<< (xb &&& 31)) ^^^ (-1 : Int32)))) xb.toNatClampNeg (((upd mo_beside xa.toNatClampNeg ((mo_beside xa.toNatClampNeg) &&& (((1 : Int32) <<< (xb &&& 31)) ^^^ (-1 : Int32)))) xb.toNatClampNeg) &&& (((1 : Int32) <<< (xa &&& 31)) ^^^ (-1 : Int32)))) xa.toNatClampNeg) ||| (0 : Int32))) xb.toNatClampNeg) ||| (0 : Int32)))) else (((lp_X9_neighbours_101 (upd (upd (upd (upd mo_beside xa.toNatClampNeg ((mo_beside xa.toNatClampNeg) &&& (((1 : Int32) <<< (xb &&& 31)) ^^^ (-1 : Int32)))) xb.toNatClampNeg (((upd mo_beside xa.toNatClampNeg ((mo_beside xa.toNatClampNeg) &&& (((1 : Int32) <<< (xb &&& 31)) ^^^ (-1 : Int32)))) xb.toNatClampNeg) &&& (((1 : Int32) <<< (xa &&& 31)) ^^^ (-1 : Int32)))) xa.toNatClampNeg (((upd (upd mo_beside xa.toNatClampNeg ((mo_beside xa.toNatClampNeg) &&& (((1 : Int32) <<< (xb &&& 31)) ^^^ (-1 : Int32)))) xb.toNatClampNeg (((upd mo_beside xa.toNatClampNeg ((mo_beside xa.toNatClampNeg) &&& (((1 : Int32) <<< (xb &&& 31)) ^^^ (-1 : Int32)))) xb.toNatClampNeg) &&& (((1 : Int32) <<< (xa &&& 31)) ^^^ (-1 : Int32)))) xa.toNatClampNeg) ||| ((1 : Int32) <<< (xb &&& 31)))) xb.toNatClampNeg (((upd (upd (upd mo_beside xa.toNatClampNeg ((mo_beside xa.toNatClampNeg) &&& (((1 : Int32) <<< (xb &&& 31)) ^^^ (-1 : Int32)))) xb.toNatClampNeg (((upd mo_beside xa.toNatClampNeg ((mo_beside xa.toNatClampNeg) &&& (((1 : Int32) <<< (xb &&& 31)) ^^^ (-1 : Int32)))) xb.toNatClampNeg) &&& (((1 : Int32) <<< (xa &&& 31)) ^^^ (-1 : Int32)))) xa.toNatClampNeg (((upd (upd mo_beside xa.toNatClampNeg ((mo_beside xa.toNatClampNeg) &&& (((1 : Int32) <<< (xb &&& 31)) ^^^ (-1 : Int32)))) xb.toNatClampNeg (((upd mo_beside xa.toNatClampNeg ((mo_beside xa.toNatClampNeg) &&& (((1 : Int32) <<< (xb &&& 31)) ^^^ (-1 : Int32)))) xb.toNatClampNeg) &&& (((1 : Int32) <<< (xa &&& 31)) ^^^ (-1 : Int32)))) xa.toNatClampNeg) ||| ((1 : Int32) <<< (xb &&& 31)))) xb.toNatClampNeg) ||| ((1 : Int32) <<< (xa &&& 31)))) 7 0 (0 : Int32)) / (2 : Int32)), (upd (upd (upd (upd mo_beside xa.toNatClampNeg ((mo_beside xa.toNatClampNeg) &&& (((1 : Int32) <<< (xb &&& 31)) ^^^ (-1 : Int32)))) xb.toNatClampNeg (((upd mo_beside xa.toNatClampNeg ((mo_beside xa.toNatClampNeg) &&& (((1 : Int32) <<< (xb &&& 31)) ^^^ (-1 : Int32)))) xb.toNatClampNeg) &&& (((1 : Int32) <<< (xa &&& 31)) ^^^ (-1 : Int32)))) xa.toNatClampNeg (((upd (upd mo_beside xa.toNatClampNeg ((mo_beside xa.toNatClampNeg) &&& (((1 : Int32) <<< (xb &&& 31)) ^^^ (-1 : Int32)))) xb.toNatClampNeg (((upd mo_beside xa.toNatClampNeg ((mo_beside xa.toNatClampNeg) &&& (((1 : Int32) <<< (xb &&& 31)) ^^^ (-1 : Int32)))) xb.toNatClampNeg) &&& (((1 : Int32) <<< (xa &&& 31)) ^^^ (-1 : Int32)))) xa.toNatClampNeg) ||| ((1 : Int32) <<< (xb &&& 31)))) xb.toNatClampNeg (((upd (upd (upd mo_beside xa.toNatClampNeg ((mo_beside xa.toNatClampNeg) &&& (((1 : Int32) <<< (xb &&& 31)) ^^^ (-1 : Int32)))) xb.toNatClampNeg (((upd mo_beside xa.toNatClampNeg ((mo_beside xa.toNatClampNeg) &&& (((1 : Int32) <<< (xb &&& 31)) ^^^ (-1 : Int32)))) xb.toNatClampNeg) &&& (((1 : Int32) <<< (xa &&& 31)) ^^^ (-1 : Int32)))) xa.toNatClampNeg (((upd (upd mo_beside xa.toNatClampNeg ((mo_beside xa.toNatClampNeg) &&& (((1 : Int32) <<< (xb &&& 31)) ^^^ (-1 : Int32)))) xb.toNatClampNeg (((upd mo_beside xa.toNatClampNeg ((mo_beside xa.toNatClampNeg) &&& (((1 : Int32) <<< (xb &&& 31)) ^^^ (-1 : Int32)))) xb.toNatClampNeg) &&& (((1 : Int32) <<< (xa &&& 31)) ^^^ (-1 : Int32)))) xa.toNatClampNeg) ||| ((1 : Int32) <<< (xb &&& 31)))) xb.toNatClampNeg) ||| ((1 : Int32) <<< (xa &&& 31)))))))))
set_option maxHeartbeats 4000000 in
set_option maxRecDepth 100000 in
theorem c_X9_neighbours (l : Launch) (D : va_G) (cI cJ cZ : ClassId) (mo : Nat) (mo_book_a : Nat) (mo_now_a : Nat) (mo_there : Int32) (mo_beside_a : Nat) (mo_sights : Nat) (mo_sight_a : Nat) (mo_signs : Nat) (mo_pad_a : Nat) (mo_heldAt : Int32) (mo_heldThing : Int32) (mo_reason : Int32) (mo_acts : Int32) (mo_lefts_a : Nat) (mo_inWays_a : Nat) (mo_more_a : Nat) (mo_wins_a : Nat) (mo_been_a : Nat) (mo_image_a : Nat) (mo_isKept_a : Nat) (mo_book : Nat → Int32) (mo_now : Nat → Int32) (mo_beside : Nat → Int32) (mo_sight : Nat → Int32) (mo_pad : Nat → Int32) (mo_lefts : Nat → Int32) (mo_inWays : Nat → Int32) (mo_more : Nat → Int32) (mo_wins : Nat → Int32) (mo_been : Nat → Int64) (mo_image : Nat → Int32) (mo_isKept : Nat → Int32) (xa : Int32) (xb : Int32) (xi : Int32) : RW l yX9_neighbours wsX9_neighbours ({ frames := 1, cells := 0, slots := 0, locals := 22 }) [.ref mo, .int xa, .int xb, .int xi] D cI cJ cZ [(mo, .inr (9, [.ref mo_book_a, .ref mo_now_a, .int mo_there, .ref mo_beside_a, .int (nI mo_sights), .ref mo_sight_a, .int (nI mo_signs), .ref mo_pad_a, .int mo_heldAt, .int mo_heldThing, .int mo_reason, .int mo_acts, .ref mo_lefts_a, .ref mo_inWays_a, .ref mo_more_a, .ref mo_wins_a, .ref mo_been_a, .ref mo_image_a, .ref mo_isKept_a])), (mo_book_a, .inl (cI, 19, .inl mo_book)), (mo_now_a, .inl (cI, 19, .inl mo_now)), (mo_beside_a, .inl (cI, 7, .inl mo_beside)), (mo_sight_a, .inl (cI, 16, .inl mo_sight)), (mo_pad_a, .inl (cI, 60, .inl mo_pad)), (mo_lefts_a, .inl (cI, 256, .inl mo_lefts)), (mo_inWays_a, .inl (cI, 128, .inl mo_inWays)), (mo_more_a, .inl (cI, 128, .inl mo_more)), (mo_wins_a, .inl (cZ, 201, .inl mo_wins)), (mo_been_a, .inl (cJ, 9, .inr (.inl mo_been))), (mo_image_a, .inl (cI, 100, .inl mo_image)), (mo_isKept_a, .inl (cZ, 2, .inl mo_isKept))] (some (.int ((f_X9_neighbours mo_beside xa xb xi).1))) [(mo, .inr (9, [.ref mo_book_a, .ref mo_now_a, .int mo_there, .ref mo_beside_a, .int (nI mo_sights), .ref mo_sight_a, .int (nI mo_signs), .ref mo_pad_a, .int mo_heldAt, .int mo_heldThing, .int mo_reason, .int mo_acts, .ref mo_lefts_a, .ref mo_inWays_a, .ref mo_more_a, .ref mo_wins_a, .ref mo_been_a, .ref mo_image_a, .ref mo_isKept_a])), (mo_book_a, .inl (cI, 19, .inl mo_book)), (mo_now_a, .inl (cI, 19, .inl mo_now)), (mo_beside_a, .inl (cI, 7, .inl ((f_X9_neighbours mo_beside xa xb xi).2))), (mo_sight_a, .inl (cI, 16, .inl mo_sight)), (mo_pad_a, .inl (cI, 60, .inl mo_pad)), (mo_lefts_a, .inl (cI, 256, .inl mo_lefts)), (mo_inWays_a, .inl (cI, 128, .inl mo_inWays)), (mo_more_a, .inl (cI, 128, .inl mo_more)), (mo_wins_a, .inl (cZ, 201, .inl mo_wins)), (mo_been_a, .inl (cJ, 9, .inr (.inl mo_been))), (mo_image_a, .inl (cI, 100, .inl mo_image)), (mo_isKept_a, .inl (cZ, 2, .inl mo_isKept))] := by
  obtain ⟨R0, R1, hR⟩ := prodE2 (f_X9_neighbours mo_beside xa xb xi)
  rw [hR]
  dsimp only
  refine rw_start (cc := cX9_neighbours) (maxL := 6) (ret := (some .int)) (by decide) rfl (Nat.le_of_ble_eq_true rfl) ?_
  intro p e s m args below meth c hx hb hr hml hown hts hlocks hP hD hS hK ls hl
  have hown : s.vm.findClass RX9 = some m.cls := hown
  have hl : lv_has ls 6 [(0, .ref mo), (1, .int xa), (2, .int xb), (3, .int xi)] := hl
  have hq0 := hts (.fieldLink RX9 16 "StuckVanesModel" "beside" "[I") (by decide +kernel)
  rw [f_X9_neighbours] at hR
  refine lv_iload_n hx hb dX9_neighbours_0 rfl (lv_at hl 1 rfl) ?_
  refine lv_iconst (v := (0 : Int32)) hx hb dX9_neighbours_1 (by decide) ?_
  refine lv_bipush (v := (6 : Int32)) hx hb dX9_neighbours_2 (by decide +kernel) ?_
  refine ro_S (As := [.int xa, .int (0 : Int32), .int (6 : Int32)]) (rest := []) ⟨hx, hb, hml, hown, hts⟩ hK (c_X9_in l D cI cJ cZ xa (0 : Int32) (6 : Int32)) va_P_nil (va_cwS 3 hts gX9_neighbours_X9_in rfl rfl rfl hd_X9_in ⟨(Nat.le_of_ble_eq_true rfl), (Nat.le_of_ble_eq_true rfl)⟩) rfl hl.1 rfl (Nat.le_of_ble_eq_true rfl) dX9_neighbours_4 (Nat.zero_le _) (Nat.zero_le _) ?_
  refine lv_if_eq (tgt := 25) hx hb dX9_neighbours_7 (by decide) (fun c7 => ?_) (fun c7 => ?_)
  · rw [if_pos c7] at hR
    refine lv_iconst (v := (-1 : Int32)) hx hb dX9_neighbours_25 (by decide) ?_
    obtain ⟨rfl, rfl⟩ := prodI2 hR
    exact rw_iret hx hb hr hlocks hP hS dX9_neighbours_26
  · rw [if_neg c7] at hR
    refine lv_iload_n hx hb dX9_neighbours_10 rfl (lv_at hl 2 rfl) ?_
    refine lv_iconst (v := (0 : Int32)) hx hb dX9_neighbours_11 (by decide) ?_
    refine lv_bipush (v := (6 : Int32)) hx hb dX9_neighbours_12 (by decide +kernel) ?_
    refine ro_S (As := [.int xb, .int (0 : Int32), .int (6 : Int32)]) (rest := []) ⟨hx, hb, hml, hown, hts⟩ hK (c_X9_in l D cI cJ cZ xb (0 : Int32) (6 : Int32)) va_P_nil (va_cwS 3 hts gX9_neighbours_X9_in rfl rfl rfl hd_X9_in ⟨(Nat.le_of_ble_eq_true rfl), (Nat.le_of_ble_eq_true rfl)⟩) rfl hl.1 rfl (Nat.le_of_ble_eq_true rfl) dX9_neighbours_14 (Nat.zero_le _) (Nat.zero_le _) ?_
    refine lv_if_eq (tgt := 25) hx hb dX9_neighbours_17 (by decide) (fun c17 => ?_) (fun c17 => ?_)
    · rw [if_pos c17] at hR
      refine lv_iconst (v := (-1 : Int32)) hx hb dX9_neighbours_25 (by decide) ?_
      obtain ⟨rfl, rfl⟩ := prodI2 hR
      exact rw_iret hx hb hr hlocks hP hS dX9_neighbours_26
    · rw [if_neg c17] at hR
      refine lv_iload_n hx hb dX9_neighbours_20 rfl (lv_at hl 1 rfl) ?_
      refine lv_iload_n hx hb dX9_neighbours_21 rfl (lv_at hl 2 rfl) ?_
      refine lv_icmp_ne (tgt := 27) hx hb dX9_neighbours_22 (by decide) (fun c22 => ?_) (fun c22 => ?_)
      · rw [if_neg c22] at hR
        refine lv_aload_n hx hb dX9_neighbours_27 rfl (lv_at hl 0 rfl) ?_
        refine va_get (D := D) (ci := 9) (v := .ref mo_beside_a) (C := RX9) (T := TX9) (N := 19) hx hb hts in_X9_neighbours_X9 hown hK.1 hP 0 rfl rfl 3 (by decide) hq0 (fun _ h9 => h9) rfl dX9_neighbours_28 ?_
        refine lv_iload_n hx hb dX9_neighbours_31 rfl (lv_at hl 1 rfl) ?_
        refine lv_dup2_11 hx hb dX9_neighbours_32 rfl rfl ?_
        refine va_iald hx hb hK.1 hP 3 0 rfl rfl (vp_in9 c7) dX9_neighbours_33 ?_
        refine lv_iconst (v := (1 : Int32)) hx hb dX9_neighbours_34 (by decide) ?_
        refine lv_iload_n hx hb dX9_neighbours_35 rfl (lv_at hl 2 rfl) ?_
        refine lv_ishl hx hb dX9_neighbours_36 ?_
        refine lv_iconst (v := (-1 : Int32)) hx hb dX9_neighbours_37 (by decide) ?_
        refine lv_ixor hx hb dX9_neighbours_38 ?_
        refine lv_iand hx hb dX9_neighbours_39 ?_
        refine va_iast hx hb hK.1 hP hD hS 3 0 rfl rfl (vp_in9 c7) dX9_neighbours_40 (fun H locs hP hD hS => ?_)
        have hP : va_P D vwCl [(mo, .inr (9, [.ref mo_book_a, .ref mo_now_a, .int mo_there, .ref mo_beside_a, .int (nI mo_sights), .ref mo_sight_a, .int (nI mo_signs), .ref mo_pad_a, .int mo_heldAt, .int mo_heldThing, .int mo_reason, .int mo_acts, .ref mo_lefts_a, .ref mo_inWays_a, .ref mo_more_a, .ref mo_wins_a, .ref mo_been_a, .ref mo_image_a, .ref mo_isKept_a])), (mo_book_a, .inl (cI, 19, .inl mo_book)), (mo_now_a, .inl (cI, 19, .inl mo_now)), (mo_beside_a, .inl (cI, 7, .inl (upd mo_beside xa.toNatClampNeg ((mo_beside xa.toNatClampNeg) &&& (((1 : Int32) <<< (xb &&& 31)) ^^^ (-1 : Int32)))))), (mo_sight_a, .inl (cI, 16, .inl mo_sight)), (mo_pad_a, .inl (cI, 60, .inl mo_pad)), (mo_lefts_a, .inl (cI, 256, .inl mo_lefts)), (mo_inWays_a, .inl (cI, 128, .inl mo_inWays)), (mo_more_a, .inl (cI, 128, .inl mo_more)), (mo_wins_a, .inl (cZ, 201, .inl mo_wins)), (mo_been_a, .inl (cJ, 9, .inr (.inl mo_been))), (mo_image_a, .inl (cI, 100, .inl mo_image)), (mo_isKept_a, .inl (cZ, 2, .inl mo_isKept))] H := hP
        have hD : va_D _ [(mo, .inr (9, [.ref mo_book_a, .ref mo_now_a, .int mo_there, .ref mo_beside_a, .int (nI mo_sights), .ref mo_sight_a, .int (nI mo_signs), .ref mo_pad_a, .int mo_heldAt, .int mo_heldThing, .int mo_reason, .int mo_acts, .ref mo_lefts_a, .ref mo_inWays_a, .ref mo_more_a, .ref mo_wins_a, .ref mo_been_a, .ref mo_image_a, .ref mo_isKept_a])), (mo_book_a, .inl (cI, 19, .inl mo_book)), (mo_now_a, .inl (cI, 19, .inl mo_now)), (mo_beside_a, .inl (cI, 7, .inl (upd mo_beside xa.toNatClampNeg ((mo_beside xa.toNatClampNeg) &&& (((1 : Int32) <<< (xb &&& 31)) ^^^ (-1 : Int32)))))), (mo_sight_a, .inl (cI, 16, .inl mo_sight)), (mo_pad_a, .inl (cI, 60, .inl mo_pad)), (mo_lefts_a, .inl (cI, 256, .inl mo_lefts)), (mo_inWays_a, .inl (cI, 128, .inl mo_inWays)), (mo_more_a, .inl (cI, 128, .inl mo_more)), (mo_wins_a, .inl (cZ, 201, .inl mo_wins)), (mo_been_a, .inl (cJ, 9, .inr (.inl mo_been))), (mo_image_a, .inl (cI, 100, .inl mo_image)), (mo_isKept_a, .inl (cZ, 2, .inl mo_isKept))] := hD
        refine lv_aload_n hx hb dX9_neighbours_41 rfl (lv_at hl 0 rfl) ?_
        refine va_get (D := D) (ci := 9) (v := .ref mo_beside_a) (C := RX9) (T := TX9) (N := 19) hx hb hts in_X9_neighbours_X9 hown hK.1 hP 0 rfl rfl 3 (by decide) hq0 (fun _ h9 => h9) rfl dX9_neighbours_42 ?_
        refine lv_iload_n hx hb dX9_neighbours_45 rfl (lv_at hl 2 rfl) ?_
        refine lv_dup2_11 hx hb dX9_neighbours_46 rfl rfl ?_
        refine va_iald hx hb hK.1 hP 3 0 rfl rfl (vp_in9 c17) dX9_neighbours_47 ?_
        refine lv_iconst (v := (1 : Int32)) hx hb dX9_neighbours_48 (by decide) ?_
        refine lv_iload_n hx hb dX9_neighbours_49 rfl (lv_at hl 1 rfl) ?_
        refine lv_ishl hx hb dX9_neighbours_50 ?_
        refine lv_iconst (v := (-1 : Int32)) hx hb dX9_neighbours_51 (by decide) ?_
        refine lv_ixor hx hb dX9_neighbours_52 ?_
        refine lv_iand hx hb dX9_neighbours_53 ?_
        refine va_iast hx hb hK.1 hP hD hS 3 0 rfl rfl (vp_in9 c17) dX9_neighbours_54 (fun H locs hP hD hS => ?_)
        have hP : va_P D vwCl [(mo, .inr (9, [.ref mo_book_a, .ref mo_now_a, .int mo_there, .ref mo_beside_a, .int (nI mo_sights), .ref mo_sight_a, .int (nI mo_signs), .ref mo_pad_a, .int mo_heldAt, .int mo_heldThing, .int mo_reason, .int mo_acts, .ref mo_lefts_a, .ref mo_inWays_a, .ref mo_more_a, .ref mo_wins_a, .ref mo_been_a, .ref mo_image_a, .ref mo_isKept_a])), (mo_book_a, .inl (cI, 19, .inl mo_book)), (mo_now_a, .inl (cI, 19, .inl mo_now)), (mo_beside_a, .inl (cI, 7, .inl (upd (upd mo_beside xa.toNatClampNeg ((mo_beside xa.toNatClampNeg) &&& (((1 : Int32) <<< (xb &&& 31)) ^^^ (-1 : Int32)))) xb.toNatClampNeg (((upd mo_beside xa.toNatClampNeg ((mo_beside xa.toNatClampNeg) &&& (((1 : Int32) <<< (xb &&& 31)) ^^^ (-1 : Int32)))) xb.toNatClampNeg) &&& (((1 : Int32) <<< (xa &&& 31)) ^^^ (-1 : Int32)))))), (mo_sight_a, .inl (cI, 16, .inl mo_sight)), (mo_pad_a, .inl (cI, 60, .inl mo_pad)), (mo_lefts_a, .inl (cI, 256, .inl mo_lefts)), (mo_inWays_a, .inl (cI, 128, .inl mo_inWays)), (mo_more_a, .inl (cI, 128, .inl mo_more)), (mo_wins_a, .inl (cZ, 201, .inl mo_wins)), (mo_been_a, .inl (cJ, 9, .inr (.inl mo_been))), (mo_image_a, .inl (cI, 100, .inl mo_image)), (mo_isKept_a, .inl (cZ, 2, .inl mo_isKept))] H := hP
        have hD : va_D _ [(mo, .inr (9, [.ref mo_book_a, .ref mo_now_a, .int mo_there, .ref mo_beside_a, .int (nI mo_sights), .ref mo_sight_a, .int (nI mo_signs), .ref mo_pad_a, .int mo_heldAt, .int mo_heldThing, .int mo_reason, .int mo_acts, .ref mo_lefts_a, .ref mo_inWays_a, .ref mo_more_a, .ref mo_wins_a, .ref mo_been_a, .ref mo_image_a, .ref mo_isKept_a])), (mo_book_a, .inl (cI, 19, .inl mo_book)), (mo_now_a, .inl (cI, 19, .inl mo_now)), (mo_beside_a, .inl (cI, 7, .inl (upd (upd mo_beside xa.toNatClampNeg ((mo_beside xa.toNatClampNeg) &&& (((1 : Int32) <<< (xb &&& 31)) ^^^ (-1 : Int32)))) xb.toNatClampNeg (((upd mo_beside xa.toNatClampNeg ((mo_beside xa.toNatClampNeg) &&& (((1 : Int32) <<< (xb &&& 31)) ^^^ (-1 : Int32)))) xb.toNatClampNeg) &&& (((1 : Int32) <<< (xa &&& 31)) ^^^ (-1 : Int32)))))), (mo_sight_a, .inl (cI, 16, .inl mo_sight)), (mo_pad_a, .inl (cI, 60, .inl mo_pad)), (mo_lefts_a, .inl (cI, 256, .inl mo_lefts)), (mo_inWays_a, .inl (cI, 128, .inl mo_inWays)), (mo_more_a, .inl (cI, 128, .inl mo_more)), (mo_wins_a, .inl (cZ, 201, .inl mo_wins)), (mo_been_a, .inl (cJ, 9, .inr (.inl mo_been))), (mo_image_a, .inl (cI, 100, .inl mo_image)), (mo_isKept_a, .inl (cZ, 2, .inl mo_isKept))] := hD
        refine lv_aload_n hx hb dX9_neighbours_55 rfl (lv_at hl 0 rfl) ?_
        refine va_get (D := D) (ci := 9) (v := .ref mo_beside_a) (C := RX9) (T := TX9) (N := 19) hx hb hts in_X9_neighbours_X9 hown hK.1 hP 0 rfl rfl 3 (by decide) hq0 (fun _ h9 => h9) rfl dX9_neighbours_56 ?_
        refine lv_iload_n hx hb dX9_neighbours_59 rfl (lv_at hl 1 rfl) ?_
        refine lv_dup2_11 hx hb dX9_neighbours_60 rfl rfl ?_
        refine va_iald hx hb hK.1 hP 3 0 rfl rfl (vp_in9 c7) dX9_neighbours_61 ?_
        refine lv_iload_n hx hb dX9_neighbours_62 rfl (lv_at hl 3 rfl) ?_
        refine lv_if_eq (tgt := 72) hx hb dX9_neighbours_63 (by decide) (fun c63 => ?_) (fun c63 => ?_)
        · rw [if_pos c63] at hR
          refine lv_iconst (v := (0 : Int32)) hx hb dX9_neighbours_72 (by decide) ?_
          refine lv_ior hx hb dX9_neighbours_73 ?_
          refine va_iast hx hb hK.1 hP hD hS 3 0 rfl rfl (vp_in9 c7) dX9_neighbours_74 (fun H locs hP hD hS => ?_)
          have hP : va_P D vwCl [(mo, .inr (9, [.ref mo_book_a, .ref mo_now_a, .int mo_there, .ref mo_beside_a, .int (nI mo_sights), .ref mo_sight_a, .int (nI mo_signs), .ref mo_pad_a, .int mo_heldAt, .int mo_heldThing, .int mo_reason, .int mo_acts, .ref mo_lefts_a, .ref mo_inWays_a, .ref mo_more_a, .ref mo_wins_a, .ref mo_been_a, .ref mo_image_a, .ref mo_isKept_a])), (mo_book_a, .inl (cI, 19, .inl mo_book)), (mo_now_a, .inl (cI, 19, .inl mo_now)), (mo_beside_a, .inl (cI, 7, .inl (upd (upd (upd mo_beside xa.toNatClampNeg ((mo_beside xa.toNatClampNeg) &&& (((1 : Int32) <<< (xb &&& 31)) ^^^ (-1 : Int32)))) xb.toNatClampNeg (((upd mo_beside xa.toNatClampNeg ((mo_beside xa.toNatClampNeg) &&& (((1 : Int32) <<< (xb &&& 31)) ^^^ (-1 : Int32)))) xb.toNatClampNeg) &&& (((1 : Int32) <<< (xa &&& 31)) ^^^ (-1 : Int32)))) xa.toNatClampNeg (((upd (upd mo_beside xa.toNatClampNeg ((mo_beside xa.toNatClampNeg) &&& (((1 : Int32) <<< (xb &&& 31)) ^^^ (-1 : Int32)))) xb.toNatClampNeg (((upd mo_beside xa.toNatClampNeg ((mo_beside xa.toNatClampNeg) &&& (((1 : Int32) <<< (xb &&& 31)) ^^^ (-1 : Int32)))) xb.toNatClampNeg) &&& (((1 : Int32) <<< (xa &&& 31)) ^^^ (-1 : Int32)))) xa.toNatClampNeg) ||| (0 : Int32))))), (mo_sight_a, .inl (cI, 16, .inl mo_sight)), (mo_pad_a, .inl (cI, 60, .inl mo_pad)), (mo_lefts_a, .inl (cI, 256, .inl mo_lefts)), (mo_inWays_a, .inl (cI, 128, .inl mo_inWays)), (mo_more_a, .inl (cI, 128, .inl mo_more)), (mo_wins_a, .inl (cZ, 201, .inl mo_wins)), (mo_been_a, .inl (cJ, 9, .inr (.inl mo_been))), (mo_image_a, .inl (cI, 100, .inl mo_image)), (mo_isKept_a, .inl (cZ, 2, .inl mo_isKept))] H := hP
          have hD : va_D _ [(mo, .inr (9, [.ref mo_book_a, .ref mo_now_a, .int mo_there, .ref mo_beside_a, .int (nI mo_sights), .ref mo_sight_a, .int (nI mo_signs), .ref mo_pad_a, .int mo_heldAt, .int mo_heldThing, .int mo_reason, .int mo_acts, .ref mo_lefts_a, .ref mo_inWays_a, .ref mo_more_a, .ref mo_wins_a, .ref mo_been_a, .ref mo_image_a, .ref mo_isKept_a])), (mo_book_a, .inl (cI, 19, .inl mo_book)), (mo_now_a, .inl (cI, 19, .inl mo_now)), (mo_beside_a, .inl (cI, 7, .inl (upd (upd (upd mo_beside xa.toNatClampNeg ((mo_beside xa.toNatClampNeg) &&& (((1 : Int32) <<< (xb &&& 31)) ^^^ (-1 : Int32)))) xb.toNatClampNeg (((upd mo_beside xa.toNatClampNeg ((mo_beside xa.toNatClampNeg) &&& (((1 : Int32) <<< (xb &&& 31)) ^^^ (-1 : Int32)))) xb.toNatClampNeg) &&& (((1 : Int32) <<< (xa &&& 31)) ^^^ (-1 : Int32)))) xa.toNatClampNeg (((upd (upd mo_beside xa.toNatClampNeg ((mo_beside xa.toNatClampNeg) &&& (((1 : Int32) <<< (xb &&& 31)) ^^^ (-1 : Int32)))) xb.toNatClampNeg (((upd mo_beside xa.toNatClampNeg ((mo_beside xa.toNatClampNeg) &&& (((1 : Int32) <<< (xb &&& 31)) ^^^ (-1 : Int32)))) xb.toNatClampNeg) &&& (((1 : Int32) <<< (xa &&& 31)) ^^^ (-1 : Int32)))) xa.toNatClampNeg) ||| (0 : Int32))))), (mo_sight_a, .inl (cI, 16, .inl mo_sight)), (mo_pad_a, .inl (cI, 60, .inl mo_pad)), (mo_lefts_a, .inl (cI, 256, .inl mo_lefts)), (mo_inWays_a, .inl (cI, 128, .inl mo_inWays)), (mo_more_a, .inl (cI, 128, .inl mo_more)), (mo_wins_a, .inl (cZ, 201, .inl mo_wins)), (mo_been_a, .inl (cJ, 9, .inr (.inl mo_been))), (mo_image_a, .inl (cI, 100, .inl mo_image)), (mo_isKept_a, .inl (cZ, 2, .inl mo_isKept))] := hD
          refine lv_aload_n hx hb dX9_neighbours_75 rfl (lv_at hl 0 rfl) ?_
          refine va_get (D := D) (ci := 9) (v := .ref mo_beside_a) (C := RX9) (T := TX9) (N := 19) hx hb hts in_X9_neighbours_X9 hown hK.1 hP 0 rfl rfl 3 (by decide) hq0 (fun _ h9 => h9) rfl dX9_neighbours_76 ?_
          refine lv_iload_n hx hb dX9_neighbours_79 rfl (lv_at hl 2 rfl) ?_
          refine lv_dup2_11 hx hb dX9_neighbours_80 rfl rfl ?_
          refine va_iald hx hb hK.1 hP 3 0 rfl rfl (vp_in9 c17) dX9_neighbours_81 ?_
          refine lv_iload_n hx hb dX9_neighbours_82 rfl (lv_at hl 3 rfl) ?_
          refine lv_if_eq (tgt := 92) hx hb dX9_neighbours_83 (by decide) (fun _ => ?_) (fun h => absurd c63 h)
          refine lv_iconst (v := (0 : Int32)) hx hb dX9_neighbours_92 (by decide) ?_
          refine lv_ior hx hb dX9_neighbours_93 ?_
          refine va_iast hx hb hK.1 hP hD hS 3 0 rfl rfl (vp_in9 c17) dX9_neighbours_94 (fun H locs hP hD hS => ?_)
          have hP : va_P D vwCl [(mo, .inr (9, [.ref mo_book_a, .ref mo_now_a, .int mo_there, .ref mo_beside_a, .int (nI mo_sights), .ref mo_sight_a, .int (nI mo_signs), .ref mo_pad_a, .int mo_heldAt, .int mo_heldThing, .int mo_reason, .int mo_acts, .ref mo_lefts_a, .ref mo_inWays_a, .ref mo_more_a, .ref mo_wins_a, .ref mo_been_a, .ref mo_image_a, .ref mo_isKept_a])), (mo_book_a, .inl (cI, 19, .inl mo_book)), (mo_now_a, .inl (cI, 19, .inl mo_now)), (mo_beside_a, .inl (cI, 7, .inl (upd (upd (upd (upd mo_beside xa.toNatClampNeg ((mo_beside xa.toNatClampNeg) &&& (((1 : Int32) <<< (xb &&& 31)) ^^^ (-1 : Int32)))) xb.toNatClampNeg (((upd mo_beside xa.toNatClampNeg ((mo_beside xa.toNatClampNeg) &&& (((1 : Int32) <<< (xb &&& 31)) ^^^ (-1 : Int32)))) xb.toNatClampNeg) &&& (((1 : Int32) <<< (xa &&& 31)) ^^^ (-1 : Int32)))) xa.toNatClampNeg (((upd (upd mo_beside xa.toNatClampNeg ((mo_beside xa.toNatClampNeg) &&& (((1 : Int32) <<< (xb &&& 31)) ^^^ (-1 : Int32)))) xb.toNatClampNeg (((upd mo_beside xa.toNatClampNeg ((mo_beside xa.toNatClampNeg) &&& (((1 : Int32) <<< (xb &&& 31)) ^^^ (-1 : Int32)))) xb.toNatClampNeg) &&& (((1 : Int32) <<< (xa &&& 31)) ^^^ (-1 : Int32)))) xa.toNatClampNeg) ||| (0 : Int32))) xb.toNatClampNeg (((upd (upd (upd mo_beside xa.toNatClampNeg ((mo_beside xa.toNatClampNeg) &&& (((1 : Int32) <<< (xb &&& 31)) ^^^ (-1 : Int32)))) xb.toNatClampNeg (((upd mo_beside xa.toNatClampNeg ((mo_beside xa.toNatClampNeg) &&& (((1 : Int32) <<< (xb &&& 31)) ^^^ (-1 : Int32)))) xb.toNatClampNeg) &&& (((1 : Int32) <<< (xa &&& 31)) ^^^ (-1 : Int32)))) xa.toNatClampNeg (((upd (upd mo_beside xa.toNatClampNeg ((mo_beside xa.toNatClampNeg) &&& (((1 : Int32) <<< (xb &&& 31)) ^^^ (-1 : Int32)))) xb.toNatClampNeg (((upd mo_beside xa.toNatClampNeg ((mo_beside xa.toNatClampNeg) &&& (((1 : Int32) <<< (xb &&& 31)) ^^^ (-1 : Int32)))) xb.toNatClampNeg) &&& (((1 : Int32) <<< (xa &&& 31)) ^^^ (-1 : Int32)))) xa.toNatClampNeg) ||| (0 : Int32))) xb.toNatClampNeg) ||| (0 : Int32))))), (mo_sight_a, .inl (cI, 16, .inl mo_sight)), (mo_pad_a, .inl (cI, 60, .inl mo_pad)), (mo_lefts_a, .inl (cI, 256, .inl mo_lefts)), (mo_inWays_a, .inl (cI, 128, .inl mo_inWays)), (mo_more_a, .inl (cI, 128, .inl mo_more)), (mo_wins_a, .inl (cZ, 201, .inl mo_wins)), (mo_been_a, .inl (cJ, 9, .inr (.inl mo_been))), (mo_image_a, .inl (cI, 100, .inl mo_image)), (mo_isKept_a, .inl (cZ, 2, .inl mo_isKept))] H := hP
          have hD : va_D _ [(mo, .inr (9, [.ref mo_book_a, .ref mo_now_a, .int mo_there, .ref mo_beside_a, .int (nI mo_sights), .ref mo_sight_a, .int (nI mo_signs), .ref mo_pad_a, .int mo_heldAt, .int mo_heldThing, .int mo_reason, .int mo_acts, .ref mo_lefts_a, .ref mo_inWays_a, .ref mo_more_a, .ref mo_wins_a, .ref mo_been_a, .ref mo_image_a, .ref mo_isKept_a])), (mo_book_a, .inl (cI, 19, .inl mo_book)), (mo_now_a, .inl (cI, 19, .inl mo_now)), (mo_beside_a, .inl (cI, 7, .inl (upd (upd (upd (upd mo_beside xa.toNatClampNeg ((mo_beside xa.toNatClampNeg) &&& (((1 : Int32) <<< (xb &&& 31)) ^^^ (-1 : Int32)))) xb.toNatClampNeg (((upd mo_beside xa.toNatClampNeg ((mo_beside xa.toNatClampNeg) &&& (((1 : Int32) <<< (xb &&& 31)) ^^^ (-1 : Int32)))) xb.toNatClampNeg) &&& (((1 : Int32) <<< (xa &&& 31)) ^^^ (-1 : Int32)))) xa.toNatClampNeg (((upd (upd mo_beside xa.toNatClampNeg ((mo_beside xa.toNatClampNeg) &&& (((1 : Int32) <<< (xb &&& 31)) ^^^ (-1 : Int32)))) xb.toNatClampNeg (((upd mo_beside xa.toNatClampNeg ((mo_beside xa.toNatClampNeg) &&& (((1 : Int32) <<< (xb &&& 31)) ^^^ (-1 : Int32)))) xb.toNatClampNeg) &&& (((1 : Int32) <<< (xa &&& 31)) ^^^ (-1 : Int32)))) xa.toNatClampNeg) ||| (0 : Int32))) xb.toNatClampNeg (((upd (upd (upd mo_beside xa.toNatClampNeg ((mo_beside xa.toNatClampNeg) &&& (((1 : Int32) <<< (xb &&& 31)) ^^^ (-1 : Int32)))) xb.toNatClampNeg (((upd mo_beside xa.toNatClampNeg ((mo_beside xa.toNatClampNeg) &&& (((1 : Int32) <<< (xb &&& 31)) ^^^ (-1 : Int32)))) xb.toNatClampNeg) &&& (((1 : Int32) <<< (xa &&& 31)) ^^^ (-1 : Int32)))) xa.toNatClampNeg (((upd (upd mo_beside xa.toNatClampNeg ((mo_beside xa.toNatClampNeg) &&& (((1 : Int32) <<< (xb &&& 31)) ^^^ (-1 : Int32)))) xb.toNatClampNeg (((upd mo_beside xa.toNatClampNeg ((mo_beside xa.toNatClampNeg) &&& (((1 : Int32) <<< (xb &&& 31)) ^^^ (-1 : Int32)))) xb.toNatClampNeg) &&& (((1 : Int32) <<< (xa &&& 31)) ^^^ (-1 : Int32)))) xa.toNatClampNeg) ||| (0 : Int32))) xb.toNatClampNeg) ||| (0 : Int32))))), (mo_sight_a, .inl (cI, 16, .inl mo_sight)), (mo_pad_a, .inl (cI, 60, .inl mo_pad)), (mo_lefts_a, .inl (cI, 256, .inl mo_lefts)), (mo_inWays_a, .inl (cI, 128, .inl mo_inWays)), (mo_more_a, .inl (cI, 128, .inl mo_more)), (mo_wins_a, .inl (cZ, 201, .inl mo_wins)), (mo_been_a, .inl (cJ, 9, .inr (.inl mo_been))), (mo_image_a, .inl (cI, 100, .inl mo_image)), (mo_isKept_a, .inl (cZ, 2, .inl mo_isKept))] := hD
          refine lv_iconst (v := (0 : Int32)) hx hb dX9_neighbours_95 (by decide) ?_
          refine lv_istore (lv' := [(4, .int (0 : Int32)), (0, .ref mo), (1, .int xa), (2, .int xb), (3, .int xi)]) hx hb dX9_neighbours_96 hl (by decide) rfl (fun ls hl => ?_)
          refine lv_iconst (v := (0 : Int32)) hx hb dX9_neighbours_98 (by decide) ?_
          refine lv_istore (lv' := [(5, .int (0 : Int32)), (4, .int (0 : Int32)), (0, .ref mo), (1, .int xa), (2, .int xb), (3, .int xi)]) hx hb dX9_neighbours_99 hl (by decide) rfl (fun ls hl => ?_)
          obtain ⟨F101_1, hF101_1⟩ : ∃ x, (lp_X9_neighbours_101 (upd (upd (upd (upd mo_beside xa.toNatClampNeg ((mo_beside xa.toNatClampNeg) &&& (((1 : Int32) <<< (xb &&& 31)) ^^^ (-1 : Int32)))) xb.toNatClampNeg (((upd mo_beside xa.toNatClampNeg ((mo_beside xa.toNatClampNeg) &&& (((1 : Int32) <<< (xb &&& 31)) ^^^ (-1 : Int32)))) xb.toNatClampNeg) &&& (((1 : Int32) <<< (xa &&& 31)) ^^^ (-1 : Int32)))) xa.toNatClampNeg (((upd (upd mo_beside xa.toNatClampNeg ((mo_beside xa.toNatClampNeg) &&& (((1 : Int32) <<< (xb &&& 31)) ^^^ (-1 : Int32)))) xb.toNatClampNeg (((upd mo_beside xa.toNatClampNeg ((mo_beside xa.toNatClampNeg) &&& (((1 : Int32) <<< (xb &&& 31)) ^^^ (-1 : Int32)))) xb.toNatClampNeg) &&& (((1 : Int32) <<< (xa &&& 31)) ^^^ (-1 : Int32)))) xa.toNatClampNeg) ||| (0 : Int32))) xb.toNatClampNeg (((upd (upd (upd mo_beside xa.toNatClampNeg ((mo_beside xa.toNatClampNeg) &&& (((1 : Int32) <<< (xb &&& 31)) ^^^ (-1 : Int32)))) xb.toNatClampNeg (((upd mo_beside xa.toNatClampNeg ((mo_beside xa.toNatClampNeg) &&& (((1 : Int32) <<< (xb &&& 31)) ^^^ (-1 : Int32)))) xb.toNatClampNeg) &&& (((1 : Int32) <<< (xa &&& 31)) ^^^ (-1 : Int32)))) xa.toNatClampNeg (((upd (upd mo_beside xa.toNatClampNeg ((mo_beside xa.toNatClampNeg) &&& (((1 : Int32) <<< (xb &&& 31)) ^^^ (-1 : Int32)))) xb.toNatClampNeg (((upd mo_beside xa.toNatClampNeg ((mo_beside xa.toNatClampNeg) &&& (((1 : Int32) <<< (xb &&& 31)) ^^^ (-1 : Int32)))) xb.toNatClampNeg) &&& (((1 : Int32) <<< (xa &&& 31)) ^^^ (-1 : Int32)))) xa.toNatClampNeg) ||| (0 : Int32))) xb.toNatClampNeg) ||| (0 : Int32))) 7 0 (0 : Int32)) = x := ⟨_, rfl⟩
          try rw [hF101_1] at hR
          have hexit101 : ∀ (H : Heap) (locs : List Loc), va_P D vwCl [(mo, .inr (9, [.ref mo_book_a, .ref mo_now_a, .int mo_there, .ref mo_beside_a, .int (nI mo_sights), .ref mo_sight_a, .int (nI mo_signs), .ref mo_pad_a, .int mo_heldAt, .int mo_heldThing, .int mo_reason, .int mo_acts, .ref mo_lefts_a, .ref mo_inWays_a, .ref mo_more_a, .ref mo_wins_a, .ref mo_been_a, .ref mo_image_a, .ref mo_isKept_a])), (mo_book_a, .inl (cI, 19, .inl mo_book)), (mo_now_a, .inl (cI, 19, .inl mo_now)), (mo_beside_a, .inl (cI, 7, .inl (upd (upd (upd (upd mo_beside xa.toNatClampNeg ((mo_beside xa.toNatClampNeg) &&& (((1 : Int32) <<< (xb &&& 31)) ^^^ (-1 : Int32)))) xb.toNatClampNeg (((upd mo_beside xa.toNatClampNeg ((mo_beside xa.toNatClampNeg) &&& (((1 : Int32) <<< (xb &&& 31)) ^^^ (-1 : Int32)))) xb.toNatClampNeg) &&& (((1 : Int32) <<< (xa &&& 31)) ^^^ (-1 : Int32)))) xa.toNatClampNeg (((upd (upd mo_beside xa.toNatClampNeg ((mo_beside xa.toNatClampNeg) &&& (((1 : Int32) <<< (xb &&& 31)) ^^^ (-1 : Int32)))) xb.toNatClampNeg (((upd mo_beside xa.toNatClampNeg ((mo_beside xa.toNatClampNeg) &&& (((1 : Int32) <<< (xb &&& 31)) ^^^ (-1 : Int32)))) xb.toNatClampNeg) &&& (((1 : Int32) <<< (xa &&& 31)) ^^^ (-1 : Int32)))) xa.toNatClampNeg) ||| (0 : Int32))) xb.toNatClampNeg (((upd (upd (upd mo_beside xa.toNatClampNeg ((mo_beside xa.toNatClampNeg) &&& (((1 : Int32) <<< (xb &&& 31)) ^^^ (-1 : Int32)))) xb.toNatClampNeg (((upd mo_beside xa.toNatClampNeg ((mo_beside xa.toNatClampNeg) &&& (((1 : Int32) <<< (xb &&& 31)) ^^^ (-1 : Int32)))) xb.toNatClampNeg) &&& (((1 : Int32) <<< (xa &&& 31)) ^^^ (-1 : Int32)))) xa.toNatClampNeg (((upd (upd mo_beside xa.toNatClampNeg ((mo_beside xa.toNatClampNeg) &&& (((1 : Int32) <<< (xb &&& 31)) ^^^ (-1 : Int32)))) xb.toNatClampNeg (((upd mo_beside xa.toNatClampNeg ((mo_beside xa.toNatClampNeg) &&& (((1 : Int32) <<< (xb &&& 31)) ^^^ (-1 : Int32)))) xb.toNatClampNeg) &&& (((1 : Int32) <<< (xa &&& 31)) ^^^ (-1 : Int32)))) xa.toNatClampNeg) ||| (0 : Int32))) xb.toNatClampNeg) ||| (0 : Int32))))), (mo_sight_a, .inl (cI, 16, .inl mo_sight)), (mo_pad_a, .inl (cI, 60, .inl mo_pad)), (mo_lefts_a, .inl (cI, 256, .inl mo_lefts)), (mo_inWays_a, .inl (cI, 128, .inl mo_inWays)), (mo_more_a, .inl (cI, 128, .inl mo_more)), (mo_wins_a, .inl (cZ, 201, .inl mo_wins)), (mo_been_a, .inl (cJ, 9, .inr (.inl mo_been))), (mo_image_a, .inl (cI, 100, .inl mo_image)), (mo_isKept_a, .inl (cZ, 2, .inl mo_isKept))] H → va_D (va_In [(mo, .inr (9, [.ref mo_book_a, .ref mo_now_a, .int mo_there, .ref mo_beside_a, .int (nI mo_sights), .ref mo_sight_a, .int (nI mo_signs), .ref mo_pad_a, .int mo_heldAt, .int mo_heldThing, .int mo_reason, .int mo_acts, .ref mo_lefts_a, .ref mo_inWays_a, .ref mo_more_a, .ref mo_wins_a, .ref mo_been_a, .ref mo_image_a, .ref mo_isKept_a])), (mo_book_a, .inl (cI, 19, .inl mo_book)), (mo_now_a, .inl (cI, 19, .inl mo_now)), (mo_beside_a, .inl (cI, 7, .inl mo_beside)), (mo_sight_a, .inl (cI, 16, .inl mo_sight)), (mo_pad_a, .inl (cI, 60, .inl mo_pad)), (mo_lefts_a, .inl (cI, 256, .inl mo_lefts)), (mo_inWays_a, .inl (cI, 128, .inl mo_inWays)), (mo_more_a, .inl (cI, 128, .inl mo_more)), (mo_wins_a, .inl (cZ, 201, .inl mo_wins)), (mo_been_a, .inl (cJ, 9, .inr (.inl mo_been))), (mo_image_a, .inl (cI, 100, .inl mo_image)), (mo_isKept_a, .inl (cZ, 2, .inl mo_isKept))]) [(mo, .inr (9, [.ref mo_book_a, .ref mo_now_a, .int mo_there, .ref mo_beside_a, .int (nI mo_sights), .ref mo_sight_a, .int (nI mo_signs), .ref mo_pad_a, .int mo_heldAt, .int mo_heldThing, .int mo_reason, .int mo_acts, .ref mo_lefts_a, .ref mo_inWays_a, .ref mo_more_a, .ref mo_wins_a, .ref mo_been_a, .ref mo_image_a, .ref mo_isKept_a])), (mo_book_a, .inl (cI, 19, .inl mo_book)), (mo_now_a, .inl (cI, 19, .inl mo_now)), (mo_beside_a, .inl (cI, 7, .inl (upd (upd (upd (upd mo_beside xa.toNatClampNeg ((mo_beside xa.toNatClampNeg) &&& (((1 : Int32) <<< (xb &&& 31)) ^^^ (-1 : Int32)))) xb.toNatClampNeg (((upd mo_beside xa.toNatClampNeg ((mo_beside xa.toNatClampNeg) &&& (((1 : Int32) <<< (xb &&& 31)) ^^^ (-1 : Int32)))) xb.toNatClampNeg) &&& (((1 : Int32) <<< (xa &&& 31)) ^^^ (-1 : Int32)))) xa.toNatClampNeg (((upd (upd mo_beside xa.toNatClampNeg ((mo_beside xa.toNatClampNeg) &&& (((1 : Int32) <<< (xb &&& 31)) ^^^ (-1 : Int32)))) xb.toNatClampNeg (((upd mo_beside xa.toNatClampNeg ((mo_beside xa.toNatClampNeg) &&& (((1 : Int32) <<< (xb &&& 31)) ^^^ (-1 : Int32)))) xb.toNatClampNeg) &&& (((1 : Int32) <<< (xa &&& 31)) ^^^ (-1 : Int32)))) xa.toNatClampNeg) ||| (0 : Int32))) xb.toNatClampNeg (((upd (upd (upd mo_beside xa.toNatClampNeg ((mo_beside xa.toNatClampNeg) &&& (((1 : Int32) <<< (xb &&& 31)) ^^^ (-1 : Int32)))) xb.toNatClampNeg (((upd mo_beside xa.toNatClampNeg ((mo_beside xa.toNatClampNeg) &&& (((1 : Int32) <<< (xb &&& 31)) ^^^ (-1 : Int32)))) xb.toNatClampNeg) &&& (((1 : Int32) <<< (xa &&& 31)) ^^^ (-1 : Int32)))) xa.toNatClampNeg (((upd (upd mo_beside xa.toNatClampNeg ((mo_beside xa.toNatClampNeg) &&& (((1 : Int32) <<< (xb &&& 31)) ^^^ (-1 : Int32)))) xb.toNatClampNeg (((upd mo_beside xa.toNatClampNeg ((mo_beside xa.toNatClampNeg) &&& (((1 : Int32) <<< (xb &&& 31)) ^^^ (-1 : Int32)))) xb.toNatClampNeg) &&& (((1 : Int32) <<< (xa &&& 31)) ^^^ (-1 : Int32)))) xa.toNatClampNeg) ||| (0 : Int32))) xb.toNatClampNeg) ||| (0 : Int32))))), (mo_sight_a, .inl (cI, 16, .inl mo_sight)), (mo_pad_a, .inl (cI, 60, .inl mo_pad)), (mo_lefts_a, .inl (cI, 256, .inl mo_lefts)), (mo_inWays_a, .inl (cI, 128, .inl mo_inWays)), (mo_more_a, .inl (cI, 128, .inl mo_more)), (mo_wins_a, .inl (cZ, 201, .inl mo_wins)), (mo_been_a, .inl (cJ, 9, .inr (.inl mo_been))), (mo_image_a, .inl (cI, 100, .inl mo_image)), (mo_isKept_a, .inl (cZ, 2, .inl mo_isKept))] → va_S (va_In [(mo, .inr (9, [.ref mo_book_a, .ref mo_now_a, .int mo_there, .ref mo_beside_a, .int (nI mo_sights), .ref mo_sight_a, .int (nI mo_signs), .ref mo_pad_a, .int mo_heldAt, .int mo_heldThing, .int mo_reason, .int mo_acts, .ref mo_lefts_a, .ref mo_inWays_a, .ref mo_more_a, .ref mo_wins_a, .ref mo_been_a, .ref mo_image_a, .ref mo_isKept_a])), (mo_book_a, .inl (cI, 19, .inl mo_book)), (mo_now_a, .inl (cI, 19, .inl mo_now)), (mo_beside_a, .inl (cI, 7, .inl mo_beside)), (mo_sight_a, .inl (cI, 16, .inl mo_sight)), (mo_pad_a, .inl (cI, 60, .inl mo_pad)), (mo_lefts_a, .inl (cI, 256, .inl mo_lefts)), (mo_inWays_a, .inl (cI, 128, .inl mo_inWays)), (mo_more_a, .inl (cI, 128, .inl mo_more)), (mo_wins_a, .inl (cZ, 201, .inl mo_wins)), (mo_been_a, .inl (cJ, 9, .inr (.inl mo_been))), (mo_image_a, .inl (cI, 100, .inl mo_image)), (mo_isKept_a, .inl (cZ, 2, .inl mo_isKept))]) s.heap H locs → ∀ (ls : Array Slot), lv_has ls 6 [(4, .int F101_1), (0, .ref mo), (1, .int xa), (2, .int xb), (3, .int xi)] → W p l e ({ frames := 1, cells := 0, slots := 0, locals := 22 }) s m args below meth c H locs 0 0 (MQ below (rw_Q D (some (.int R0)) [(mo, .inr (9, [.ref mo_book_a, .ref mo_now_a, .int mo_there, .ref mo_beside_a, .int (nI mo_sights), .ref mo_sight_a, .int (nI mo_signs), .ref mo_pad_a, .int mo_heldAt, .int mo_heldThing, .int mo_reason, .int mo_acts, .ref mo_lefts_a, .ref mo_inWays_a, .ref mo_more_a, .ref mo_wins_a, .ref mo_been_a, .ref mo_image_a, .ref mo_isKept_a])), (mo_book_a, .inl (cI, 19, .inl mo_book)), (mo_now_a, .inl (cI, 19, .inl mo_now)), (mo_beside_a, .inl (cI, 7, .inl mo_beside)), (mo_sight_a, .inl (cI, 16, .inl mo_sight)), (mo_pad_a, .inl (cI, 60, .inl mo_pad)), (mo_lefts_a, .inl (cI, 256, .inl mo_lefts)), (mo_inWays_a, .inl (cI, 128, .inl mo_inWays)), (mo_more_a, .inl (cI, 128, .inl mo_more)), (mo_wins_a, .inl (cZ, 201, .inl mo_wins)), (mo_been_a, .inl (cJ, 9, .inr (.inl mo_been))), (mo_image_a, .inl (cI, 100, .inl mo_image)), (mo_isKept_a, .inl (cZ, 2, .inl mo_isKept))] [(mo, .inr (9, [.ref mo_book_a, .ref mo_now_a, .int mo_there, .ref mo_beside_a, .int (nI mo_sights), .ref mo_sight_a, .int (nI mo_signs), .ref mo_pad_a, .int mo_heldAt, .int mo_heldThing, .int mo_reason, .int mo_acts, .ref mo_lefts_a, .ref mo_inWays_a, .ref mo_more_a, .ref mo_wins_a, .ref mo_been_a, .ref mo_image_a, .ref mo_isKept_a])), (mo_book_a, .inl (cI, 19, .inl mo_book)), (mo_now_a, .inl (cI, 19, .inl mo_now)), (mo_beside_a, .inl (cI, 7, .inl R1)), (mo_sight_a, .inl (cI, 16, .inl mo_sight)), (mo_pad_a, .inl (cI, 60, .inl mo_pad)), (mo_lefts_a, .inl (cI, 256, .inl mo_lefts)), (mo_inWays_a, .inl (cI, 128, .inl mo_inWays)), (mo_more_a, .inl (cI, 128, .inl mo_more)), (mo_wins_a, .inl (cZ, 201, .inl mo_wins)), (mo_been_a, .inl (cJ, 9, .inr (.inl mo_been))), (mo_image_a, .inl (cI, 100, .inl mo_image)), (mo_isKept_a, .inl (cZ, 2, .inl mo_isKept))]) args s 0 0 (va_In [(mo, .inr (9, [.ref mo_book_a, .ref mo_now_a, .int mo_there, .ref mo_beside_a, .int (nI mo_sights), .ref mo_sight_a, .int (nI mo_signs), .ref mo_pad_a, .int mo_heldAt, .int mo_heldThing, .int mo_reason, .int mo_acts, .ref mo_lefts_a, .ref mo_inWays_a, .ref mo_more_a, .ref mo_wins_a, .ref mo_been_a, .ref mo_image_a, .ref mo_isKept_a])), (mo_book_a, .inl (cI, 19, .inl mo_book)), (mo_now_a, .inl (cI, 19, .inl mo_now)), (mo_beside_a, .inl (cI, 7, .inl mo_beside)), (mo_sight_a, .inl (cI, 16, .inl mo_sight)), (mo_pad_a, .inl (cI, 60, .inl mo_pad)), (mo_lefts_a, .inl (cI, 256, .inl mo_lefts)), (mo_inWays_a, .inl (cI, 128, .inl mo_inWays)), (mo_more_a, .inl (cI, 128, .inl mo_more)), (mo_wins_a, .inl (cZ, 201, .inl mo_wins)), (mo_been_a, .inl (cJ, 9, .inr (.inl mo_been))), (mo_image_a, .inl (cI, 100, .inl mo_image)), (mo_isKept_a, .inl (cZ, 2, .inl mo_isKept))])) (F0 m 129 ls []) := by
            intro H locs hP hD hS ls hl
            refine lv_iload hx hb dX9_neighbours_129 (lv_at hl 0 rfl) ?_
            refine lv_iconst (v := (2 : Int32)) hx hb dX9_neighbours_131 (by decide) ?_
            refine lv_idiv hx hb dX9_neighbours_132 (by decide) ?_
            obtain ⟨rfl, rfl⟩ := prodI2 hR
            exact rw_iret hx hb hr hlocks hP hS dX9_neighbours_133
          have hloop101 : ∀ (k101 i101 : Nat) (v4_101 : Int32), i101 + k101 = 7 → ∀ (H : Heap) (locs : List Loc), va_P D vwCl [(mo, .inr (9, [.ref mo_book_a, .ref mo_now_a, .int mo_there, .ref mo_beside_a, .int (nI mo_sights), .ref mo_sight_a, .int (nI mo_signs), .ref mo_pad_a, .int mo_heldAt, .int mo_heldThing, .int mo_reason, .int mo_acts, .ref mo_lefts_a, .ref mo_inWays_a, .ref mo_more_a, .ref mo_wins_a, .ref mo_been_a, .ref mo_image_a, .ref mo_isKept_a])), (mo_book_a, .inl (cI, 19, .inl mo_book)), (mo_now_a, .inl (cI, 19, .inl mo_now)), (mo_beside_a, .inl (cI, 7, .inl (upd (upd (upd (upd mo_beside xa.toNatClampNeg ((mo_beside xa.toNatClampNeg) &&& (((1 : Int32) <<< (xb &&& 31)) ^^^ (-1 : Int32)))) xb.toNatClampNeg (((upd mo_beside xa.toNatClampNeg ((mo_beside xa.toNatClampNeg) &&& (((1 : Int32) <<< (xb &&& 31)) ^^^ (-1 : Int32)))) xb.toNatClampNeg) &&& (((1 : Int32) <<< (xa &&& 31)) ^^^ (-1 : Int32)))) xa.toNatClampNeg (((upd (upd mo_beside xa.toNatClampNeg ((mo_beside xa.toNatClampNeg) &&& (((1 : Int32) <<< (xb &&& 31)) ^^^ (-1 : Int32)))) xb.toNatClampNeg (((upd mo_beside xa.toNatClampNeg ((mo_beside xa.toNatClampNeg) &&& (((1 : Int32) <<< (xb &&& 31)) ^^^ (-1 : Int32)))) xb.toNatClampNeg) &&& (((1 : Int32) <<< (xa &&& 31)) ^^^ (-1 : Int32)))) xa.toNatClampNeg) ||| (0 : Int32))) xb.toNatClampNeg (((upd (upd (upd mo_beside xa.toNatClampNeg ((mo_beside xa.toNatClampNeg) &&& (((1 : Int32) <<< (xb &&& 31)) ^^^ (-1 : Int32)))) xb.toNatClampNeg (((upd mo_beside xa.toNatClampNeg ((mo_beside xa.toNatClampNeg) &&& (((1 : Int32) <<< (xb &&& 31)) ^^^ (-1 : Int32)))) xb.toNatClampNeg) &&& (((1 : Int32) <<< (xa &&& 31)) ^^^ (-1 : Int32)))) xa.toNatClampNeg (((upd (upd mo_beside xa.toNatClampNeg ((mo_beside xa.toNatClampNeg) &&& (((1 : Int32) <<< (xb &&& 31)) ^^^ (-1 : Int32)))) xb.toNatClampNeg (((upd mo_beside xa.toNatClampNeg ((mo_beside xa.toNatClampNeg) &&& (((1 : Int32) <<< (xb &&& 31)) ^^^ (-1 : Int32)))) xb.toNatClampNeg) &&& (((1 : Int32) <<< (xa &&& 31)) ^^^ (-1 : Int32)))) xa.toNatClampNeg) ||| (0 : Int32))) xb.toNatClampNeg) ||| (0 : Int32))))), (mo_sight_a, .inl (cI, 16, .inl mo_sight)), (mo_pad_a, .inl (cI, 60, .inl mo_pad)), (mo_lefts_a, .inl (cI, 256, .inl mo_lefts)), (mo_inWays_a, .inl (cI, 128, .inl mo_inWays)), (mo_more_a, .inl (cI, 128, .inl mo_more)), (mo_wins_a, .inl (cZ, 201, .inl mo_wins)), (mo_been_a, .inl (cJ, 9, .inr (.inl mo_been))), (mo_image_a, .inl (cI, 100, .inl mo_image)), (mo_isKept_a, .inl (cZ, 2, .inl mo_isKept))] H → va_D (va_In [(mo, .inr (9, [.ref mo_book_a, .ref mo_now_a, .int mo_there, .ref mo_beside_a, .int (nI mo_sights), .ref mo_sight_a, .int (nI mo_signs), .ref mo_pad_a, .int mo_heldAt, .int mo_heldThing, .int mo_reason, .int mo_acts, .ref mo_lefts_a, .ref mo_inWays_a, .ref mo_more_a, .ref mo_wins_a, .ref mo_been_a, .ref mo_image_a, .ref mo_isKept_a])), (mo_book_a, .inl (cI, 19, .inl mo_book)), (mo_now_a, .inl (cI, 19, .inl mo_now)), (mo_beside_a, .inl (cI, 7, .inl mo_beside)), (mo_sight_a, .inl (cI, 16, .inl mo_sight)), (mo_pad_a, .inl (cI, 60, .inl mo_pad)), (mo_lefts_a, .inl (cI, 256, .inl mo_lefts)), (mo_inWays_a, .inl (cI, 128, .inl mo_inWays)), (mo_more_a, .inl (cI, 128, .inl mo_more)), (mo_wins_a, .inl (cZ, 201, .inl mo_wins)), (mo_been_a, .inl (cJ, 9, .inr (.inl mo_been))), (mo_image_a, .inl (cI, 100, .inl mo_image)), (mo_isKept_a, .inl (cZ, 2, .inl mo_isKept))]) [(mo, .inr (9, [.ref mo_book_a, .ref mo_now_a, .int mo_there, .ref mo_beside_a, .int (nI mo_sights), .ref mo_sight_a, .int (nI mo_signs), .ref mo_pad_a, .int mo_heldAt, .int mo_heldThing, .int mo_reason, .int mo_acts, .ref mo_lefts_a, .ref mo_inWays_a, .ref mo_more_a, .ref mo_wins_a, .ref mo_been_a, .ref mo_image_a, .ref mo_isKept_a])), (mo_book_a, .inl (cI, 19, .inl mo_book)), (mo_now_a, .inl (cI, 19, .inl mo_now)), (mo_beside_a, .inl (cI, 7, .inl (upd (upd (upd (upd mo_beside xa.toNatClampNeg ((mo_beside xa.toNatClampNeg) &&& (((1 : Int32) <<< (xb &&& 31)) ^^^ (-1 : Int32)))) xb.toNatClampNeg (((upd mo_beside xa.toNatClampNeg ((mo_beside xa.toNatClampNeg) &&& (((1 : Int32) <<< (xb &&& 31)) ^^^ (-1 : Int32)))) xb.toNatClampNeg) &&& (((1 : Int32) <<< (xa &&& 31)) ^^^ (-1 : Int32)))) xa.toNatClampNeg (((upd (upd mo_beside xa.toNatClampNeg ((mo_beside xa.toNatClampNeg) &&& (((1 : Int32) <<< (xb &&& 31)) ^^^ (-1 : Int32)))) xb.toNatClampNeg (((upd mo_beside xa.toNatClampNeg ((mo_beside xa.toNatClampNeg) &&& (((1 : Int32) <<< (xb &&& 31)) ^^^ (-1 : Int32)))) xb.toNatClampNeg) &&& (((1 : Int32) <<< (xa &&& 31)) ^^^ (-1 : Int32)))) xa.toNatClampNeg) ||| (0 : Int32))) xb.toNatClampNeg (((upd (upd (upd mo_beside xa.toNatClampNeg ((mo_beside xa.toNatClampNeg) &&& (((1 : Int32) <<< (xb &&& 31)) ^^^ (-1 : Int32)))) xb.toNatClampNeg (((upd mo_beside xa.toNatClampNeg ((mo_beside xa.toNatClampNeg) &&& (((1 : Int32) <<< (xb &&& 31)) ^^^ (-1 : Int32)))) xb.toNatClampNeg) &&& (((1 : Int32) <<< (xa &&& 31)) ^^^ (-1 : Int32)))) xa.toNatClampNeg (((upd (upd mo_beside xa.toNatClampNeg ((mo_beside xa.toNatClampNeg) &&& (((1 : Int32) <<< (xb &&& 31)) ^^^ (-1 : Int32)))) xb.toNatClampNeg (((upd mo_beside xa.toNatClampNeg ((mo_beside xa.toNatClampNeg) &&& (((1 : Int32) <<< (xb &&& 31)) ^^^ (-1 : Int32)))) xb.toNatClampNeg) &&& (((1 : Int32) <<< (xa &&& 31)) ^^^ (-1 : Int32)))) xa.toNatClampNeg) ||| (0 : Int32))) xb.toNatClampNeg) ||| (0 : Int32))))), (mo_sight_a, .inl (cI, 16, .inl mo_sight)), (mo_pad_a, .inl (cI, 60, .inl mo_pad)), (mo_lefts_a, .inl (cI, 256, .inl mo_lefts)), (mo_inWays_a, .inl (cI, 128, .inl mo_inWays)), (mo_more_a, .inl (cI, 128, .inl mo_more)), (mo_wins_a, .inl (cZ, 201, .inl mo_wins)), (mo_been_a, .inl (cJ, 9, .inr (.inl mo_been))), (mo_image_a, .inl (cI, 100, .inl mo_image)), (mo_isKept_a, .inl (cZ, 2, .inl mo_isKept))] → va_S (va_In [(mo, .inr (9, [.ref mo_book_a, .ref mo_now_a, .int mo_there, .ref mo_beside_a, .int (nI mo_sights), .ref mo_sight_a, .int (nI mo_signs), .ref mo_pad_a, .int mo_heldAt, .int mo_heldThing, .int mo_reason, .int mo_acts, .ref mo_lefts_a, .ref mo_inWays_a, .ref mo_more_a, .ref mo_wins_a, .ref mo_been_a, .ref mo_image_a, .ref mo_isKept_a])), (mo_book_a, .inl (cI, 19, .inl mo_book)), (mo_now_a, .inl (cI, 19, .inl mo_now)), (mo_beside_a, .inl (cI, 7, .inl mo_beside)), (mo_sight_a, .inl (cI, 16, .inl mo_sight)), (mo_pad_a, .inl (cI, 60, .inl mo_pad)), (mo_lefts_a, .inl (cI, 256, .inl mo_lefts)), (mo_inWays_a, .inl (cI, 128, .inl mo_inWays)), (mo_more_a, .inl (cI, 128, .inl mo_more)), (mo_wins_a, .inl (cZ, 201, .inl mo_wins)), (mo_been_a, .inl (cJ, 9, .inr (.inl mo_been))), (mo_image_a, .inl (cI, 100, .inl mo_image)), (mo_isKept_a, .inl (cZ, 2, .inl mo_isKept))]) s.heap H locs → ∀ (ls : Array Slot), lv_has ls 6 [(5, .int (nI i101)), (4, .int v4_101), (0, .ref mo), (1, .int xa), (2, .int xb), (3, .int xi)] → lp_X9_neighbours_101 (upd (upd (upd (upd mo_beside xa.toNatClampNeg ((mo_beside xa.toNatClampNeg) &&& (((1 : Int32) <<< (xb &&& 31)) ^^^ (-1 : Int32)))) xb.toNatClampNeg (((upd mo_beside xa.toNatClampNeg ((mo_beside xa.toNatClampNeg) &&& (((1 : Int32) <<< (xb &&& 31)) ^^^ (-1 : Int32)))) xb.toNatClampNeg) &&& (((1 : Int32) <<< (xa &&& 31)) ^^^ (-1 : Int32)))) xa.toNatClampNeg (((upd (upd mo_beside xa.toNatClampNeg ((mo_beside xa.toNatClampNeg) &&& (((1 : Int32) <<< (xb &&& 31)) ^^^ (-1 : Int32)))) xb.toNatClampNeg (((upd mo_beside xa.toNatClampNeg ((mo_beside xa.toNatClampNeg) &&& (((1 : Int32) <<< (xb &&& 31)) ^^^ (-1 : Int32)))) xb.toNatClampNeg) &&& (((1 : Int32) <<< (xa &&& 31)) ^^^ (-1 : Int32)))) xa.toNatClampNeg) ||| (0 : Int32))) xb.toNatClampNeg (((upd (upd (upd mo_beside xa.toNatClampNeg ((mo_beside xa.toNatClampNeg) &&& (((1 : Int32) <<< (xb &&& 31)) ^^^ (-1 : Int32)))) xb.toNatClampNeg (((upd mo_beside xa.toNatClampNeg ((mo_beside xa.toNatClampNeg) &&& (((1 : Int32) <<< (xb &&& 31)) ^^^ (-1 : Int32)))) xb.toNatClampNeg) &&& (((1 : Int32) <<< (xa &&& 31)) ^^^ (-1 : Int32)))) xa.toNatClampNeg (((upd (upd mo_beside xa.toNatClampNeg ((mo_beside xa.toNatClampNeg) &&& (((1 : Int32) <<< (xb &&& 31)) ^^^ (-1 : Int32)))) xb.toNatClampNeg (((upd mo_beside xa.toNatClampNeg ((mo_beside xa.toNatClampNeg) &&& (((1 : Int32) <<< (xb &&& 31)) ^^^ (-1 : Int32)))) xb.toNatClampNeg) &&& (((1 : Int32) <<< (xa &&& 31)) ^^^ (-1 : Int32)))) xa.toNatClampNeg) ||| (0 : Int32))) xb.toNatClampNeg) ||| (0 : Int32))) k101 i101 v4_101 = F101_1 → W p l e ({ frames := 1, cells := 0, slots := 0, locals := 22 }) s m args below meth c H locs 0 0 (MQ below (rw_Q D (some (.int R0)) [(mo, .inr (9, [.ref mo_book_a, .ref mo_now_a, .int mo_there, .ref mo_beside_a, .int (nI mo_sights), .ref mo_sight_a, .int (nI mo_signs), .ref mo_pad_a, .int mo_heldAt, .int mo_heldThing, .int mo_reason, .int mo_acts, .ref mo_lefts_a, .ref mo_inWays_a, .ref mo_more_a, .ref mo_wins_a, .ref mo_been_a, .ref mo_image_a, .ref mo_isKept_a])), (mo_book_a, .inl (cI, 19, .inl mo_book)), (mo_now_a, .inl (cI, 19, .inl mo_now)), (mo_beside_a, .inl (cI, 7, .inl mo_beside)), (mo_sight_a, .inl (cI, 16, .inl mo_sight)), (mo_pad_a, .inl (cI, 60, .inl mo_pad)), (mo_lefts_a, .inl (cI, 256, .inl mo_lefts)), (mo_inWays_a, .inl (cI, 128, .inl mo_inWays)), (mo_more_a, .inl (cI, 128, .inl mo_more)), (mo_wins_a, .inl (cZ, 201, .inl mo_wins)), (mo_been_a, .inl (cJ, 9, .inr (.inl mo_been))), (mo_image_a, .inl (cI, 100, .inl mo_image)), (mo_isKept_a, .inl (cZ, 2, .inl mo_isKept))] [(mo, .inr (9, [.ref mo_book_a, .ref mo_now_a, .int mo_there, .ref mo_beside_a, .int (nI mo_sights), .ref mo_sight_a, .int (nI mo_signs), .ref mo_pad_a, .int mo_heldAt, .int mo_heldThing, .int mo_reason, .int mo_acts, .ref mo_lefts_a, .ref mo_inWays_a, .ref mo_more_a, .ref mo_wins_a, .ref mo_been_a, .ref mo_image_a, .ref mo_isKept_a])), (mo_book_a, .inl (cI, 19, .inl mo_book)), (mo_now_a, .inl (cI, 19, .inl mo_now)), (mo_beside_a, .inl (cI, 7, .inl R1)), (mo_sight_a, .inl (cI, 16, .inl mo_sight)), (mo_pad_a, .inl (cI, 60, .inl mo_pad)), (mo_lefts_a, .inl (cI, 256, .inl mo_lefts)), (mo_inWays_a, .inl (cI, 128, .inl mo_inWays)), (mo_more_a, .inl (cI, 128, .inl mo_more)), (mo_wins_a, .inl (cZ, 201, .inl mo_wins)), (mo_been_a, .inl (cJ, 9, .inr (.inl mo_been))), (mo_image_a, .inl (cI, 100, .inl mo_image)), (mo_isKept_a, .inl (cZ, 2, .inl mo_isKept))]) args s 0 0 (va_In [(mo, .inr (9, [.ref mo_book_a, .ref mo_now_a, .int mo_there, .ref mo_beside_a, .int (nI mo_sights), .ref mo_sight_a, .int (nI mo_signs), .ref mo_pad_a, .int mo_heldAt, .int mo_heldThing, .int mo_reason, .int mo_acts, .ref mo_lefts_a, .ref mo_inWays_a, .ref mo_more_a, .ref mo_wins_a, .ref mo_been_a, .ref mo_image_a, .ref mo_isKept_a])), (mo_book_a, .inl (cI, 19, .inl mo_book)), (mo_now_a, .inl (cI, 19, .inl mo_now)), (mo_beside_a, .inl (cI, 7, .inl mo_beside)), (mo_sight_a, .inl (cI, 16, .inl mo_sight)), (mo_pad_a, .inl (cI, 60, .inl mo_pad)), (mo_lefts_a, .inl (cI, 256, .inl mo_lefts)), (mo_inWays_a, .inl (cI, 128, .inl mo_inWays)), (mo_more_a, .inl (cI, 128, .inl mo_more)), (mo_wins_a, .inl (cZ, 201, .inl mo_wins)), (mo_been_a, .inl (cJ, 9, .inr (.inl mo_been))), (mo_image_a, .inl (cI, 100, .inl mo_image)), (mo_isKept_a, .inl (cZ, 2, .inl mo_isKept))])) (F0 m 101 ls []) := by
            intro k101
            induction k101 with
            | zero =>
              intro i101 v4_101 h101  H locs hP hD hS ls hl hR
              obtain rfl : 7 = i101 := by omega
              rw [lp_X9_neighbours_101] at hR
              refine lv_iload hx hb dX9_neighbours_101 (lv_at hl 0 rfl) ?_
              refine lv_bipush (v := (7 : Int32)) hx hb dX9_neighbours_103 (by decide +kernel) ?_
              refine lv_icmp_ge (tgt := 129) hx hb dX9_neighbours_105 (by decide) (fun _ => ?_) (fun h => absurd (cle_t (a := 7) (b := 7) rfl rfl (by omega) (by omega)) h)
              subst hR
              exact hexit101 _ _ hP hD hS _ (lv_sub hl [1, 2, 3, 4, 5] rfl)
            | succ k101 ih101 =>
              intro i101 v4_101 h101  H locs hP hD hS ls hl hR
              rw [lp_X9_neighbours_101] at hR
              refine lv_iload hx hb dX9_neighbours_101 (lv_at hl 0 rfl) ?_
              refine lv_bipush (v := (7 : Int32)) hx hb dX9_neighbours_103 (by decide +kernel) ?_
              refine lv_icmp_ge (tgt := 129) hx hb dX9_neighbours_105 (by decide) (fun h => absurd h (cle_f (a := 7) (b := i101) rfl rfl (by omega) (by omega))) (fun _ => ?_)
              refine lv_iload hx hb dX9_neighbours_108 (lv_at hl 1 rfl) ?_
              refine lv_aload_n hx hb dX9_neighbours_110 rfl (lv_at hl 2 rfl) ?_
              refine va_get (D := D) (ci := 9) (v := .ref mo_beside_a) (C := RX9) (T := TX9) (N := 19) hx hb hts in_X9_neighbours_X9 hown hK.1 hP 0 rfl rfl 3 (by decide) hq0 (fun _ h9 => h9) rfl dX9_neighbours_111 ?_
              refine lv_iload hx hb dX9_neighbours_114 (lv_at hl 0 rfl) ?_
              refine ia_ld hx hb hK hP 3 rfl (i := i101) (by omega) (by decide) dX9_neighbours_116 ?_
              refine ro_S (As := [.int ((upd (upd (upd (upd mo_beside xa.toNatClampNeg ((mo_beside xa.toNatClampNeg) &&& (((1 : Int32) <<< (xb &&& 31)) ^^^ (-1 : Int32)))) xb.toNatClampNeg (((upd mo_beside xa.toNatClampNeg ((mo_beside xa.toNatClampNeg) &&& (((1 : Int32) <<< (xb &&& 31)) ^^^ (-1 : Int32)))) xb.toNatClampNeg) &&& (((1 : Int32) <<< (xa &&& 31)) ^^^ (-1 : Int32)))) xa.toNatClampNeg (((upd (upd mo_beside xa.toNatClampNeg ((mo_beside xa.toNatClampNeg) &&& (((1 : Int32) <<< (xb &&& 31)) ^^^ (-1 : Int32)))) xb.toNatClampNeg (((upd mo_beside xa.toNatClampNeg ((mo_beside xa.toNatClampNeg) &&& (((1 : Int32) <<< (xb &&& 31)) ^^^ (-1 : Int32)))) xb.toNatClampNeg) &&& (((1 : Int32) <<< (xa &&& 31)) ^^^ (-1 : Int32)))) xa.toNatClampNeg) ||| (0 : Int32))) xb.toNatClampNeg (((upd (upd (upd mo_beside xa.toNatClampNeg ((mo_beside xa.toNatClampNeg) &&& (((1 : Int32) <<< (xb &&& 31)) ^^^ (-1 : Int32)))) xb.toNatClampNeg (((upd mo_beside xa.toNatClampNeg ((mo_beside xa.toNatClampNeg) &&& (((1 : Int32) <<< (xb &&& 31)) ^^^ (-1 : Int32)))) xb.toNatClampNeg) &&& (((1 : Int32) <<< (xa &&& 31)) ^^^ (-1 : Int32)))) xa.toNatClampNeg (((upd (upd mo_beside xa.toNatClampNeg ((mo_beside xa.toNatClampNeg) &&& (((1 : Int32) <<< (xb &&& 31)) ^^^ (-1 : Int32)))) xb.toNatClampNeg (((upd mo_beside xa.toNatClampNeg ((mo_beside xa.toNatClampNeg) &&& (((1 : Int32) <<< (xb &&& 31)) ^^^ (-1 : Int32)))) xb.toNatClampNeg) &&& (((1 : Int32) <<< (xa &&& 31)) ^^^ (-1 : Int32)))) xa.toNatClampNeg) ||| (0 : Int32))) xb.toNatClampNeg) ||| (0 : Int32))) i101)]) (rest := [.int v4_101]) ⟨hx, hb, hml, hown, hts⟩ hK (c_X9_bits l D cI cJ cZ ((upd (upd (upd (upd mo_beside xa.toNatClampNeg ((mo_beside xa.toNatClampNeg) &&& (((1 : Int32) <<< (xb &&& 31)) ^^^ (-1 : Int32)))) xb.toNatClampNeg (((upd mo_beside xa.toNatClampNeg ((mo_beside xa.toNatClampNeg) &&& (((1 : Int32) <<< (xb &&& 31)) ^^^ (-1 : Int32)))) xb.toNatClampNeg) &&& (((1 : Int32) <<< (xa &&& 31)) ^^^ (-1 : Int32)))) xa.toNatClampNeg (((upd (upd mo_beside xa.toNatClampNeg ((mo_beside xa.toNatClampNeg) &&& (((1 : Int32) <<< (xb &&& 31)) ^^^ (-1 : Int32)))) xb.toNatClampNeg (((upd mo_beside xa.toNatClampNeg ((mo_beside xa.toNatClampNeg) &&& (((1 : Int32) <<< (xb &&& 31)) ^^^ (-1 : Int32)))) xb.toNatClampNeg) &&& (((1 : Int32) <<< (xa &&& 31)) ^^^ (-1 : Int32)))) xa.toNatClampNeg) ||| (0 : Int32))) xb.toNatClampNeg (((upd (upd (upd mo_beside xa.toNatClampNeg ((mo_beside xa.toNatClampNeg) &&& (((1 : Int32) <<< (xb &&& 31)) ^^^ (-1 : Int32)))) xb.toNatClampNeg (((upd mo_beside xa.toNatClampNeg ((mo_beside xa.toNatClampNeg) &&& (((1 : Int32) <<< (xb &&& 31)) ^^^ (-1 : Int32)))) xb.toNatClampNeg) &&& (((1 : Int32) <<< (xa &&& 31)) ^^^ (-1 : Int32)))) xa.toNatClampNeg (((upd (upd mo_beside xa.toNatClampNeg ((mo_beside xa.toNatClampNeg) &&& (((1 : Int32) <<< (xb &&& 31)) ^^^ (-1 : Int32)))) xb.toNatClampNeg (((upd mo_beside xa.toNatClampNeg ((mo_beside xa.toNatClampNeg) &&& (((1 : Int32) <<< (xb &&& 31)) ^^^ (-1 : Int32)))) xb.toNatClampNeg) &&& (((1 : Int32) <<< (xa &&& 31)) ^^^ (-1 : Int32)))) xa.toNatClampNeg) ||| (0 : Int32))) xb.toNatClampNeg) ||| (0 : Int32))) i101)) va_P_nil (va_cwS 1 hts gX9_neighbours_X9_bits rfl rfl rfl hd_X9_bits ⟨(Nat.le_of_ble_eq_true rfl), (Nat.le_of_ble_eq_true rfl)⟩) rfl hl.1 rfl (Nat.le_of_ble_eq_true rfl) dX9_neighbours_117 (Nat.zero_le _) (Nat.zero_le _) ?_
              refine lv_iadd hx hb dX9_neighbours_120 ?_
              refine lv_istore (lv' := [(4, .int (v4_101 + (f_X9_bits ((upd (upd (upd (upd mo_beside xa.toNatClampNeg ((mo_beside xa.toNatClampNeg) &&& (((1 : Int32) <<< (xb &&& 31)) ^^^ (-1 : Int32)))) xb.toNatClampNeg (((upd mo_beside xa.toNatClampNeg ((mo_beside xa.toNatClampNeg) &&& (((1 : Int32) <<< (xb &&& 31)) ^^^ (-1 : Int32)))) xb.toNatClampNeg) &&& (((1 : Int32) <<< (xa &&& 31)) ^^^ (-1 : Int32)))) xa.toNatClampNeg (((upd (upd mo_beside xa.toNatClampNeg ((mo_beside xa.toNatClampNeg) &&& (((1 : Int32) <<< (xb &&& 31)) ^^^ (-1 : Int32)))) xb.toNatClampNeg (((upd mo_beside xa.toNatClampNeg ((mo_beside xa.toNatClampNeg) &&& (((1 : Int32) <<< (xb &&& 31)) ^^^ (-1 : Int32)))) xb.toNatClampNeg) &&& (((1 : Int32) <<< (xa &&& 31)) ^^^ (-1 : Int32)))) xa.toNatClampNeg) ||| (0 : Int32))) xb.toNatClampNeg (((upd (upd (upd mo_beside xa.toNatClampNeg ((mo_beside xa.toNatClampNeg) &&& (((1 : Int32) <<< (xb &&& 31)) ^^^ (-1 : Int32)))) xb.toNatClampNeg (((upd mo_beside xa.toNatClampNeg ((mo_beside xa.toNatClampNeg) &&& (((1 : Int32) <<< (xb &&& 31)) ^^^ (-1 : Int32)))) xb.toNatClampNeg) &&& (((1 : Int32) <<< (xa &&& 31)) ^^^ (-1 : Int32)))) xa.toNatClampNeg (((upd (upd mo_beside xa.toNatClampNeg ((mo_beside xa.toNatClampNeg) &&& (((1 : Int32) <<< (xb &&& 31)) ^^^ (-1 : Int32)))) xb.toNatClampNeg (((upd mo_beside xa.toNatClampNeg ((mo_beside xa.toNatClampNeg) &&& (((1 : Int32) <<< (xb &&& 31)) ^^^ (-1 : Int32)))) xb.toNatClampNeg) &&& (((1 : Int32) <<< (xa &&& 31)) ^^^ (-1 : Int32)))) xa.toNatClampNeg) ||| (0 : Int32))) xb.toNatClampNeg) ||| (0 : Int32))) i101)))), (5, .int (nI i101)), (0, .ref mo), (1, .int xa), (2, .int xb), (3, .int xi)]) hx hb dX9_neighbours_121 hl (by decide) rfl (fun ls hl => ?_)
              refine lv_iinc (v := (nI (i101 + 1))) (lv' := [(5, .int (nI (i101 + 1))), (4, .int (v4_101 + (f_X9_bits ((upd (upd (upd (upd mo_beside xa.toNatClampNeg ((mo_beside xa.toNatClampNeg) &&& (((1 : Int32) <<< (xb &&& 31)) ^^^ (-1 : Int32)))) xb.toNatClampNeg (((upd mo_beside xa.toNatClampNeg ((mo_beside xa.toNatClampNeg) &&& (((1 : Int32) <<< (xb &&& 31)) ^^^ (-1 : Int32)))) xb.toNatClampNeg) &&& (((1 : Int32) <<< (xa &&& 31)) ^^^ (-1 : Int32)))) xa.toNatClampNeg (((upd (upd mo_beside xa.toNatClampNeg ((mo_beside xa.toNatClampNeg) &&& (((1 : Int32) <<< (xb &&& 31)) ^^^ (-1 : Int32)))) xb.toNatClampNeg (((upd mo_beside xa.toNatClampNeg ((mo_beside xa.toNatClampNeg) &&& (((1 : Int32) <<< (xb &&& 31)) ^^^ (-1 : Int32)))) xb.toNatClampNeg) &&& (((1 : Int32) <<< (xa &&& 31)) ^^^ (-1 : Int32)))) xa.toNatClampNeg) ||| (0 : Int32))) xb.toNatClampNeg (((upd (upd (upd mo_beside xa.toNatClampNeg ((mo_beside xa.toNatClampNeg) &&& (((1 : Int32) <<< (xb &&& 31)) ^^^ (-1 : Int32)))) xb.toNatClampNeg (((upd mo_beside xa.toNatClampNeg ((mo_beside xa.toNatClampNeg) &&& (((1 : Int32) <<< (xb &&& 31)) ^^^ (-1 : Int32)))) xb.toNatClampNeg) &&& (((1 : Int32) <<< (xa &&& 31)) ^^^ (-1 : Int32)))) xa.toNatClampNeg (((upd (upd mo_beside xa.toNatClampNeg ((mo_beside xa.toNatClampNeg) &&& (((1 : Int32) <<< (xb &&& 31)) ^^^ (-1 : Int32)))) xb.toNatClampNeg (((upd mo_beside xa.toNatClampNeg ((mo_beside xa.toNatClampNeg) &&& (((1 : Int32) <<< (xb &&& 31)) ^^^ (-1 : Int32)))) xb.toNatClampNeg) &&& (((1 : Int32) <<< (xa &&& 31)) ^^^ (-1 : Int32)))) xa.toNatClampNeg) ||| (0 : Int32))) xb.toNatClampNeg) ||| (0 : Int32))) i101)))), (0, .ref mo), (1, .int xa), (2, .int xb), (3, .int xi)]) hx hb dX9_neighbours_123 hl (k := 1) rfl (by exact nI_add i101 1) (by decide) rfl (fun ls hl => ?_)
              refine lv_goto (tgt := 101) hx hb dX9_neighbours_126 (by decide) ?_
              exact ih101 _ _ (by omega) _ _ hP hD hS _ (lv_sub hl [0, 1, 2, 3, 4, 5] rfl) hR
          exact hloop101 7 0 _ (by omega) _ _ hP hD hS _ hl hF101_1
        · rw [if_neg c63] at hR
          refine lv_iconst (v := (1 : Int32)) hx hb dX9_neighbours_66 (by decide) ?_
          refine lv_iload_n hx hb dX9_neighbours_67 rfl (lv_at hl 2 rfl) ?_
          refine lv_ishl hx hb dX9_neighbours_68 ?_
          refine lv_goto (tgt := 73) hx hb dX9_neighbours_69 (by decide) ?_
          refine lv_ior hx hb dX9_neighbours_73 ?_
          refine va_iast hx hb hK.1 hP hD hS 3 0 rfl rfl (vp_in9 c7) dX9_neighbours_74 (fun H locs hP hD hS => ?_)
          have hP : va_P D vwCl [(mo, .inr (9, [.ref mo_book_a, .ref mo_now_a, .int mo_there, .ref mo_beside_a, .int (nI mo_sights), .ref mo_sight_a, .int (nI mo_signs), .ref mo_pad_a, .int mo_heldAt, .int mo_heldThing, .int mo_reason, .int mo_acts, .ref mo_lefts_a, .ref mo_inWays_a, .ref mo_more_a, .ref mo_wins_a, .ref mo_been_a, .ref mo_image_a, .ref mo_isKept_a])), (mo_book_a, .inl (cI, 19, .inl mo_book)), (mo_now_a, .inl (cI, 19, .inl mo_now)), (mo_beside_a, .inl (cI, 7, .inl (upd (upd (upd mo_beside xa.toNatClampNeg ((mo_beside xa.toNatClampNeg) &&& (((1 : Int32) <<< (xb &&& 31)) ^^^ (-1 : Int32)))) xb.toNatClampNeg (((upd mo_beside xa.toNatClampNeg ((mo_beside xa.toNatClampNeg) &&& (((1 : Int32) <<< (xb &&& 31)) ^^^ (-1 : Int32)))) xb.toNatClampNeg) &&& (((1 : Int32) <<< (xa &&& 31)) ^^^ (-1 : Int32)))) xa.toNatClampNeg (((upd (upd mo_beside xa.toNatClampNeg ((mo_beside xa.toNatClampNeg) &&& (((1 : Int32) <<< (xb &&& 31)) ^^^ (-1 : Int32)))) xb.toNatClampNeg (((upd mo_beside xa.toNatClampNeg ((mo_beside xa.toNatClampNeg) &&& (((1 : Int32) <<< (xb &&& 31)) ^^^ (-1 : Int32)))) xb.toNatClampNeg) &&& (((1 : Int32) <<< (xa &&& 31)) ^^^ (-1 : Int32)))) xa.toNatClampNeg) ||| ((1 : Int32) <<< (xb &&& 31)))))), (mo_sight_a, .inl (cI, 16, .inl mo_sight)), (mo_pad_a, .inl (cI, 60, .inl mo_pad)), (mo_lefts_a, .inl (cI, 256, .inl mo_lefts)), (mo_inWays_a, .inl (cI, 128, .inl mo_inWays)), (mo_more_a, .inl (cI, 128, .inl mo_more)), (mo_wins_a, .inl (cZ, 201, .inl mo_wins)), (mo_been_a, .inl (cJ, 9, .inr (.inl mo_been))), (mo_image_a, .inl (cI, 100, .inl mo_image)), (mo_isKept_a, .inl (cZ, 2, .inl mo_isKept))] H := hP
          have hD : va_D _ [(mo, .inr (9, [.ref mo_book_a, .ref mo_now_a, .int mo_there, .ref mo_beside_a, .int (nI mo_sights), .ref mo_sight_a, .int (nI mo_signs), .ref mo_pad_a, .int mo_heldAt, .int mo_heldThing, .int mo_reason, .int mo_acts, .ref mo_lefts_a, .ref mo_inWays_a, .ref mo_more_a, .ref mo_wins_a, .ref mo_been_a, .ref mo_image_a, .ref mo_isKept_a])), (mo_book_a, .inl (cI, 19, .inl mo_book)), (mo_now_a, .inl (cI, 19, .inl mo_now)), (mo_beside_a, .inl (cI, 7, .inl (upd (upd (upd mo_beside xa.toNatClampNeg ((mo_beside xa.toNatClampNeg) &&& (((1 : Int32) <<< (xb &&& 31)) ^^^ (-1 : Int32)))) xb.toNatClampNeg (((upd mo_beside xa.toNatClampNeg ((mo_beside xa.toNatClampNeg) &&& (((1 : Int32) <<< (xb &&& 31)) ^^^ (-1 : Int32)))) xb.toNatClampNeg) &&& (((1 : Int32) <<< (xa &&& 31)) ^^^ (-1 : Int32)))) xa.toNatClampNeg (((upd (upd mo_beside xa.toNatClampNeg ((mo_beside xa.toNatClampNeg) &&& (((1 : Int32) <<< (xb &&& 31)) ^^^ (-1 : Int32)))) xb.toNatClampNeg (((upd mo_beside xa.toNatClampNeg ((mo_beside xa.toNatClampNeg) &&& (((1 : Int32) <<< (xb &&& 31)) ^^^ (-1 : Int32)))) xb.toNatClampNeg) &&& (((1 : Int32) <<< (xa &&& 31)) ^^^ (-1 : Int32)))) xa.toNatClampNeg) ||| ((1 : Int32) <<< (xb &&& 31)))))), (mo_sight_a, .inl (cI, 16, .inl mo_sight)), (mo_pad_a, .inl (cI, 60, .inl mo_pad)), (mo_lefts_a, .inl (cI, 256, .inl mo_lefts)), (mo_inWays_a, .inl (cI, 128, .inl mo_inWays)), (mo_more_a, .inl (cI, 128, .inl mo_more)), (mo_wins_a, .inl (cZ, 201, .inl mo_wins)), (mo_been_a, .inl (cJ, 9, .inr (.inl mo_been))), (mo_image_a, .inl (cI, 100, .inl mo_image)), (mo_isKept_a, .inl (cZ, 2, .inl mo_isKept))] := hD
          refine lv_aload_n hx hb dX9_neighbours_75 rfl (lv_at hl 0 rfl) ?_
          refine va_get (D := D) (ci := 9) (v := .ref mo_beside_a) (C := RX9) (T := TX9) (N := 19) hx hb hts in_X9_neighbours_X9 hown hK.1 hP 0 rfl rfl 3 (by decide) hq0 (fun _ h9 => h9) rfl dX9_neighbours_76 ?_
          refine lv_iload_n hx hb dX9_neighbours_79 rfl (lv_at hl 2 rfl) ?_
          refine lv_dup2_11 hx hb dX9_neighbours_80 rfl rfl ?_
          refine va_iald hx hb hK.1 hP 3 0 rfl rfl (vp_in9 c17) dX9_neighbours_81 ?_
          refine lv_iload_n hx hb dX9_neighbours_82 rfl (lv_at hl 3 rfl) ?_
          refine lv_if_eq (tgt := 92) hx hb dX9_neighbours_83 (by decide) (fun h => absurd h c63) (fun _ => ?_)
          refine lv_iconst (v := (1 : Int32)) hx hb dX9_neighbours_86 (by decide) ?_
          refine lv_iload_n hx hb dX9_neighbours_87 rfl (lv_at hl 1 rfl) ?_
          refine lv_ishl hx hb dX9_neighbours_88 ?_
          refine lv_goto (tgt := 93) hx hb dX9_neighbours_89 (by decide) ?_
          refine lv_ior hx hb dX9_neighbours_93 ?_
          refine va_iast hx hb hK.1 hP hD hS 3 0 rfl rfl (vp_in9 c17) dX9_neighbours_94 (fun H locs hP hD hS => ?_)
          have hP : va_P D vwCl [(mo, .inr (9, [.ref mo_book_a, .ref mo_now_a, .int mo_there, .ref mo_beside_a, .int (nI mo_sights), .ref mo_sight_a, .int (nI mo_signs), .ref mo_pad_a, .int mo_heldAt, .int mo_heldThing, .int mo_reason, .int mo_acts, .ref mo_lefts_a, .ref mo_inWays_a, .ref mo_more_a, .ref mo_wins_a, .ref mo_been_a, .ref mo_image_a, .ref mo_isKept_a])), (mo_book_a, .inl (cI, 19, .inl mo_book)), (mo_now_a, .inl (cI, 19, .inl mo_now)), (mo_beside_a, .inl (cI, 7, .inl (upd (upd (upd (upd mo_beside xa.toNatClampNeg ((mo_beside xa.toNatClampNeg) &&& (((1 : Int32) <<< (xb &&& 31)) ^^^ (-1 : Int32)))) xb.toNatClampNeg (((upd mo_beside xa.toNatClampNeg ((mo_beside xa.toNatClampNeg) &&& (((1 : Int32) <<< (xb &&& 31)) ^^^ (-1 : Int32)))) xb.toNatClampNeg) &&& (((1 : Int32) <<< (xa &&& 31)) ^^^ (-1 : Int32)))) xa.toNatClampNeg (((upd (upd mo_beside xa.toNatClampNeg ((mo_beside xa.toNatClampNeg) &&& (((1 : Int32) <<< (xb &&& 31)) ^^^ (-1 : Int32)))) xb.toNatClampNeg (((upd mo_beside xa.toNatClampNeg ((mo_beside xa.toNatClampNeg) &&& (((1 : Int32) <<< (xb &&& 31)) ^^^ (-1 : Int32)))) xb.toNatClampNeg) &&& (((1 : Int32) <<< (xa &&& 31)) ^^^ (-1 : Int32)))) xa.toNatClampNeg) ||| ((1 : Int32) <<< (xb &&& 31)))) xb.toNatClampNeg (((upd (upd (upd mo_beside xa.toNatClampNeg ((mo_beside xa.toNatClampNeg) &&& (((1 : Int32) <<< (xb &&& 31)) ^^^ (-1 : Int32)))) xb.toNatClampNeg (((upd mo_beside xa.toNatClampNeg ((mo_beside xa.toNatClampNeg) &&& (((1 : Int32) <<< (xb &&& 31)) ^^^ (-1 : Int32)))) xb.toNatClampNeg) &&& (((1 : Int32) <<< (xa &&& 31)) ^^^ (-1 : Int32)))) xa.toNatClampNeg (((upd (upd mo_beside xa.toNatClampNeg ((mo_beside xa.toNatClampNeg) &&& (((1 : Int32) <<< (xb &&& 31)) ^^^ (-1 : Int32)))) xb.toNatClampNeg (((upd mo_beside xa.toNatClampNeg ((mo_beside xa.toNatClampNeg) &&& (((1 : Int32) <<< (xb &&& 31)) ^^^ (-1 : Int32)))) xb.toNatClampNeg) &&& (((1 : Int32) <<< (xa &&& 31)) ^^^ (-1 : Int32)))) xa.toNatClampNeg) ||| ((1 : Int32) <<< (xb &&& 31)))) xb.toNatClampNeg) ||| ((1 : Int32) <<< (xa &&& 31)))))), (mo_sight_a, .inl (cI, 16, .inl mo_sight)), (mo_pad_a, .inl (cI, 60, .inl mo_pad)), (mo_lefts_a, .inl (cI, 256, .inl mo_lefts)), (mo_inWays_a, .inl (cI, 128, .inl mo_inWays)), (mo_more_a, .inl (cI, 128, .inl mo_more)), (mo_wins_a, .inl (cZ, 201, .inl mo_wins)), (mo_been_a, .inl (cJ, 9, .inr (.inl mo_been))), (mo_image_a, .inl (cI, 100, .inl mo_image)), (mo_isKept_a, .inl (cZ, 2, .inl mo_isKept))] H := hP
          have hD : va_D _ [(mo, .inr (9, [.ref mo_book_a, .ref mo_now_a, .int mo_there, .ref mo_beside_a, .int (nI mo_sights), .ref mo_sight_a, .int (nI mo_signs), .ref mo_pad_a, .int mo_heldAt, .int mo_heldThing, .int mo_reason, .int mo_acts, .ref mo_lefts_a, .ref mo_inWays_a, .ref mo_more_a, .ref mo_wins_a, .ref mo_been_a, .ref mo_image_a, .ref mo_isKept_a])), (mo_book_a, .inl (cI, 19, .inl mo_book)), (mo_now_a, .inl (cI, 19, .inl mo_now)), (mo_beside_a, .inl (cI, 7, .inl (upd (upd (upd (upd mo_beside xa.toNatClampNeg ((mo_beside xa.toNatClampNeg) &&& (((1 : Int32) <<< (xb &&& 31)) ^^^ (-1 : Int32)))) xb.toNatClampNeg (((upd mo_beside xa.toNatClampNeg ((mo_beside xa.toNatClampNeg) &&& (((1 : Int32) <<< (xb &&& 31)) ^^^ (-1 : Int32)))) xb.toNatClampNeg) &&& (((1 : Int32) <<< (xa &&& 31)) ^^^ (-1 : Int32)))) xa.toNatClampNeg (((upd (upd mo_beside xa.toNatClampNeg ((mo_beside xa.toNatClampNeg) &&& (((1 : Int32) <<< (xb &&& 31)) ^^^ (-1 : Int32)))) xb.toNatClampNeg (((upd mo_beside xa.toNatClampNeg ((mo_beside xa.toNatClampNeg) &&& (((1 : Int32) <<< (xb &&& 31)) ^^^ (-1 : Int32)))) xb.toNatClampNeg) &&& (((1 : Int32) <<< (xa &&& 31)) ^^^ (-1 : Int32)))) xa.toNatClampNeg) ||| ((1 : Int32) <<< (xb &&& 31)))) xb.toNatClampNeg (((upd (upd (upd mo_beside xa.toNatClampNeg ((mo_beside xa.toNatClampNeg) &&& (((1 : Int32) <<< (xb &&& 31)) ^^^ (-1 : Int32)))) xb.toNatClampNeg (((upd mo_beside xa.toNatClampNeg ((mo_beside xa.toNatClampNeg) &&& (((1 : Int32) <<< (xb &&& 31)) ^^^ (-1 : Int32)))) xb.toNatClampNeg) &&& (((1 : Int32) <<< (xa &&& 31)) ^^^ (-1 : Int32)))) xa.toNatClampNeg (((upd (upd mo_beside xa.toNatClampNeg ((mo_beside xa.toNatClampNeg) &&& (((1 : Int32) <<< (xb &&& 31)) ^^^ (-1 : Int32)))) xb.toNatClampNeg (((upd mo_beside xa.toNatClampNeg ((mo_beside xa.toNatClampNeg) &&& (((1 : Int32) <<< (xb &&& 31)) ^^^ (-1 : Int32)))) xb.toNatClampNeg) &&& (((1 : Int32) <<< (xa &&& 31)) ^^^ (-1 : Int32)))) xa.toNatClampNeg) ||| ((1 : Int32) <<< (xb &&& 31)))) xb.toNatClampNeg) ||| ((1 : Int32) <<< (xa &&& 31)))))), (mo_sight_a, .inl (cI, 16, .inl mo_sight)), (mo_pad_a, .inl (cI, 60, .inl mo_pad)), (mo_lefts_a, .inl (cI, 256, .inl mo_lefts)), (mo_inWays_a, .inl (cI, 128, .inl mo_inWays)), (mo_more_a, .inl (cI, 128, .inl mo_more)), (mo_wins_a, .inl (cZ, 201, .inl mo_wins)), (mo_been_a, .inl (cJ, 9, .inr (.inl mo_been))), (mo_image_a, .inl (cI, 100, .inl mo_image)), (mo_isKept_a, .inl (cZ, 2, .inl mo_isKept))] := hD
          refine lv_iconst (v := (0 : Int32)) hx hb dX9_neighbours_95 (by decide) ?_
          refine lv_istore (lv' := [(4, .int (0 : Int32)), (0, .ref mo), (1, .int xa), (2, .int xb), (3, .int xi)]) hx hb dX9_neighbours_96 hl (by decide) rfl (fun ls hl => ?_)
          refine lv_iconst (v := (0 : Int32)) hx hb dX9_neighbours_98 (by decide) ?_
          refine lv_istore (lv' := [(5, .int (0 : Int32)), (4, .int (0 : Int32)), (0, .ref mo), (1, .int xa), (2, .int xb), (3, .int xi)]) hx hb dX9_neighbours_99 hl (by decide) rfl (fun ls hl => ?_)
          obtain ⟨F101_2, hF101_2⟩ : ∃ x, (lp_X9_neighbours_101 (upd (upd (upd (upd mo_beside xa.toNatClampNeg ((mo_beside xa.toNatClampNeg) &&& (((1 : Int32) <<< (xb &&& 31)) ^^^ (-1 : Int32)))) xb.toNatClampNeg (((upd mo_beside xa.toNatClampNeg ((mo_beside xa.toNatClampNeg) &&& (((1 : Int32) <<< (xb &&& 31)) ^^^ (-1 : Int32)))) xb.toNatClampNeg) &&& (((1 : Int32) <<< (xa &&& 31)) ^^^ (-1 : Int32)))) xa.toNatClampNeg (((upd (upd mo_beside xa.toNatClampNeg ((mo_beside xa.toNatClampNeg) &&& (((1 : Int32) <<< (xb &&& 31)) ^^^ (-1 : Int32)))) xb.toNatClampNeg (((upd mo_beside xa.toNatClampNeg ((mo_beside xa.toNatClampNeg) &&& (((1 : Int32) <<< (xb &&& 31)) ^^^ (-1 : Int32)))) xb.toNatClampNeg) &&& (((1 : Int32) <<< (xa &&& 31)) ^^^ (-1 : Int32)))) xa.toNatClampNeg) ||| ((1 : Int32) <<< (xb &&& 31)))) xb.toNatClampNeg (((upd (upd (upd mo_beside xa.toNatClampNeg ((mo_beside xa.toNatClampNeg) &&& (((1 : Int32) <<< (xb &&& 31)) ^^^ (-1 : Int32)))) xb.toNatClampNeg (((upd mo_beside xa.toNatClampNeg ((mo_beside xa.toNatClampNeg) &&& (((1 : Int32) <<< (xb &&& 31)) ^^^ (-1 : Int32)))) xb.toNatClampNeg) &&& (((1 : Int32) <<< (xa &&& 31)) ^^^ (-1 : Int32)))) xa.toNatClampNeg (((upd (upd mo_beside xa.toNatClampNeg ((mo_beside xa.toNatClampNeg) &&& (((1 : Int32) <<< (xb &&& 31)) ^^^ (-1 : Int32)))) xb.toNatClampNeg (((upd mo_beside xa.toNatClampNeg ((mo_beside xa.toNatClampNeg) &&& (((1 : Int32) <<< (xb &&& 31)) ^^^ (-1 : Int32)))) xb.toNatClampNeg) &&& (((1 : Int32) <<< (xa &&& 31)) ^^^ (-1 : Int32)))) xa.toNatClampNeg) ||| ((1 : Int32) <<< (xb &&& 31)))) xb.toNatClampNeg) ||| ((1 : Int32) <<< (xa &&& 31)))) 7 0 (0 : Int32)) = x := ⟨_, rfl⟩
          try rw [hF101_2] at hR
          have hexit101 : ∀ (H : Heap) (locs : List Loc), va_P D vwCl [(mo, .inr (9, [.ref mo_book_a, .ref mo_now_a, .int mo_there, .ref mo_beside_a, .int (nI mo_sights), .ref mo_sight_a, .int (nI mo_signs), .ref mo_pad_a, .int mo_heldAt, .int mo_heldThing, .int mo_reason, .int mo_acts, .ref mo_lefts_a, .ref mo_inWays_a, .ref mo_more_a, .ref mo_wins_a, .ref mo_been_a, .ref mo_image_a, .ref mo_isKept_a])), (mo_book_a, .inl (cI, 19, .inl mo_book)), (mo_now_a, .inl (cI, 19, .inl mo_now)), (mo_beside_a, .inl (cI, 7, .inl (upd (upd (upd (upd mo_beside xa.toNatClampNeg ((mo_beside xa.toNatClampNeg) &&& (((1 : Int32) <<< (xb &&& 31)) ^^^ (-1 : Int32)))) xb.toNatClampNeg (((upd mo_beside xa.toNatClampNeg ((mo_beside xa.toNatClampNeg) &&& (((1 : Int32) <<< (xb &&& 31)) ^^^ (-1 : Int32)))) xb.toNatClampNeg) &&& (((1 : Int32) <<< (xa &&& 31)) ^^^ (-1 : Int32)))) xa.toNatClampNeg (((upd (upd mo_beside xa.toNatClampNeg ((mo_beside xa.toNatClampNeg) &&& (((1 : Int32) <<< (xb &&& 31)) ^^^ (-1 : Int32)))) xb.toNatClampNeg (((upd mo_beside xa.toNatClampNeg ((mo_beside xa.toNatClampNeg) &&& (((1 : Int32) <<< (xb &&& 31)) ^^^ (-1 : Int32)))) xb.toNatClampNeg) &&& (((1 : Int32) <<< (xa &&& 31)) ^^^ (-1 : Int32)))) xa.toNatClampNeg) ||| ((1 : Int32) <<< (xb &&& 31)))) xb.toNatClampNeg (((upd (upd (upd mo_beside xa.toNatClampNeg ((mo_beside xa.toNatClampNeg) &&& (((1 : Int32) <<< (xb &&& 31)) ^^^ (-1 : Int32)))) xb.toNatClampNeg (((upd mo_beside xa.toNatClampNeg ((mo_beside xa.toNatClampNeg) &&& (((1 : Int32) <<< (xb &&& 31)) ^^^ (-1 : Int32)))) xb.toNatClampNeg) &&& (((1 : Int32) <<< (xa &&& 31)) ^^^ (-1 : Int32)))) xa.toNatClampNeg (((upd (upd mo_beside xa.toNatClampNeg ((mo_beside xa.toNatClampNeg) &&& (((1 : Int32) <<< (xb &&& 31)) ^^^ (-1 : Int32)))) xb.toNatClampNeg (((upd mo_beside xa.toNatClampNeg ((mo_beside xa.toNatClampNeg) &&& (((1 : Int32) <<< (xb &&& 31)) ^^^ (-1 : Int32)))) xb.toNatClampNeg) &&& (((1 : Int32) <<< (xa &&& 31)) ^^^ (-1 : Int32)))) xa.toNatClampNeg) ||| ((1 : Int32) <<< (xb &&& 31)))) xb.toNatClampNeg) ||| ((1 : Int32) <<< (xa &&& 31)))))), (mo_sight_a, .inl (cI, 16, .inl mo_sight)), (mo_pad_a, .inl (cI, 60, .inl mo_pad)), (mo_lefts_a, .inl (cI, 256, .inl mo_lefts)), (mo_inWays_a, .inl (cI, 128, .inl mo_inWays)), (mo_more_a, .inl (cI, 128, .inl mo_more)), (mo_wins_a, .inl (cZ, 201, .inl mo_wins)), (mo_been_a, .inl (cJ, 9, .inr (.inl mo_been))), (mo_image_a, .inl (cI, 100, .inl mo_image)), (mo_isKept_a, .inl (cZ, 2, .inl mo_isKept))] H → va_D (va_In [(mo, .inr (9, [.ref mo_book_a, .ref mo_now_a, .int mo_there, .ref mo_beside_a, .int (nI mo_sights), .ref mo_sight_a, .int (nI mo_signs), .ref mo_pad_a, .int mo_heldAt, .int mo_heldThing, .int mo_reason, .int mo_acts, .ref mo_lefts_a, .ref mo_inWays_a, .ref mo_more_a, .ref mo_wins_a, .ref mo_been_a, .ref mo_image_a, .ref mo_isKept_a])), (mo_book_a, .inl (cI, 19, .inl mo_book)), (mo_now_a, .inl (cI, 19, .inl mo_now)), (mo_beside_a, .inl (cI, 7, .inl mo_beside)), (mo_sight_a, .inl (cI, 16, .inl mo_sight)), (mo_pad_a, .inl (cI, 60, .inl mo_pad)), (mo_lefts_a, .inl (cI, 256, .inl mo_lefts)), (mo_inWays_a, .inl (cI, 128, .inl mo_inWays)), (mo_more_a, .inl (cI, 128, .inl mo_more)), (mo_wins_a, .inl (cZ, 201, .inl mo_wins)), (mo_been_a, .inl (cJ, 9, .inr (.inl mo_been))), (mo_image_a, .inl (cI, 100, .inl mo_image)), (mo_isKept_a, .inl (cZ, 2, .inl mo_isKept))]) [(mo, .inr (9, [.ref mo_book_a, .ref mo_now_a, .int mo_there, .ref mo_beside_a, .int (nI mo_sights), .ref mo_sight_a, .int (nI mo_signs), .ref mo_pad_a, .int mo_heldAt, .int mo_heldThing, .int mo_reason, .int mo_acts, .ref mo_lefts_a, .ref mo_inWays_a, .ref mo_more_a, .ref mo_wins_a, .ref mo_been_a, .ref mo_image_a, .ref mo_isKept_a])), (mo_book_a, .inl (cI, 19, .inl mo_book)), (mo_now_a, .inl (cI, 19, .inl mo_now)), (mo_beside_a, .inl (cI, 7, .inl (upd (upd (upd (upd mo_beside xa.toNatClampNeg ((mo_beside xa.toNatClampNeg) &&& (((1 : Int32) <<< (xb &&& 31)) ^^^ (-1 : Int32)))) xb.toNatClampNeg (((upd mo_beside xa.toNatClampNeg ((mo_beside xa.toNatClampNeg) &&& (((1 : Int32) <<< (xb &&& 31)) ^^^ (-1 : Int32)))) xb.toNatClampNeg) &&& (((1 : Int32) <<< (xa &&& 31)) ^^^ (-1 : Int32)))) xa.toNatClampNeg (((upd (upd mo_beside xa.toNatClampNeg ((mo_beside xa.toNatClampNeg) &&& (((1 : Int32) <<< (xb &&& 31)) ^^^ (-1 : Int32)))) xb.toNatClampNeg (((upd mo_beside xa.toNatClampNeg ((mo_beside xa.toNatClampNeg) &&& (((1 : Int32) <<< (xb &&& 31)) ^^^ (-1 : Int32)))) xb.toNatClampNeg) &&& (((1 : Int32) <<< (xa &&& 31)) ^^^ (-1 : Int32)))) xa.toNatClampNeg) ||| ((1 : Int32) <<< (xb &&& 31)))) xb.toNatClampNeg (((upd (upd (upd mo_beside xa.toNatClampNeg ((mo_beside xa.toNatClampNeg) &&& (((1 : Int32) <<< (xb &&& 31)) ^^^ (-1 : Int32)))) xb.toNatClampNeg (((upd mo_beside xa.toNatClampNeg ((mo_beside xa.toNatClampNeg) &&& (((1 : Int32) <<< (xb &&& 31)) ^^^ (-1 : Int32)))) xb.toNatClampNeg) &&& (((1 : Int32) <<< (xa &&& 31)) ^^^ (-1 : Int32)))) xa.toNatClampNeg (((upd (upd mo_beside xa.toNatClampNeg ((mo_beside xa.toNatClampNeg) &&& (((1 : Int32) <<< (xb &&& 31)) ^^^ (-1 : Int32)))) xb.toNatClampNeg (((upd mo_beside xa.toNatClampNeg ((mo_beside xa.toNatClampNeg) &&& (((1 : Int32) <<< (xb &&& 31)) ^^^ (-1 : Int32)))) xb.toNatClampNeg) &&& (((1 : Int32) <<< (xa &&& 31)) ^^^ (-1 : Int32)))) xa.toNatClampNeg) ||| ((1 : Int32) <<< (xb &&& 31)))) xb.toNatClampNeg) ||| ((1 : Int32) <<< (xa &&& 31)))))), (mo_sight_a, .inl (cI, 16, .inl mo_sight)), (mo_pad_a, .inl (cI, 60, .inl mo_pad)), (mo_lefts_a, .inl (cI, 256, .inl mo_lefts)), (mo_inWays_a, .inl (cI, 128, .inl mo_inWays)), (mo_more_a, .inl (cI, 128, .inl mo_more)), (mo_wins_a, .inl (cZ, 201, .inl mo_wins)), (mo_been_a, .inl (cJ, 9, .inr (.inl mo_been))), (mo_image_a, .inl (cI, 100, .inl mo_image)), (mo_isKept_a, .inl (cZ, 2, .inl mo_isKept))] → va_S (va_In [(mo, .inr (9, [.ref mo_book_a, .ref mo_now_a, .int mo_there, .ref mo_beside_a, .int (nI mo_sights), .ref mo_sight_a, .int (nI mo_signs), .ref mo_pad_a, .int mo_heldAt, .int mo_heldThing, .int mo_reason, .int mo_acts, .ref mo_lefts_a, .ref mo_inWays_a, .ref mo_more_a, .ref mo_wins_a, .ref mo_been_a, .ref mo_image_a, .ref mo_isKept_a])), (mo_book_a, .inl (cI, 19, .inl mo_book)), (mo_now_a, .inl (cI, 19, .inl mo_now)), (mo_beside_a, .inl (cI, 7, .inl mo_beside)), (mo_sight_a, .inl (cI, 16, .inl mo_sight)), (mo_pad_a, .inl (cI, 60, .inl mo_pad)), (mo_lefts_a, .inl (cI, 256, .inl mo_lefts)), (mo_inWays_a, .inl (cI, 128, .inl mo_inWays)), (mo_more_a, .inl (cI, 128, .inl mo_more)), (mo_wins_a, .inl (cZ, 201, .inl mo_wins)), (mo_been_a, .inl (cJ, 9, .inr (.inl mo_been))), (mo_image_a, .inl (cI, 100, .inl mo_image)), (mo_isKept_a, .inl (cZ, 2, .inl mo_isKept))]) s.heap H locs → ∀ (ls : Array Slot), lv_has ls 6 [(4, .int F101_2), (0, .ref mo), (1, .int xa), (2, .int xb), (3, .int xi)] → W p l e ({ frames := 1, cells := 0, slots := 0, locals := 22 }) s m args below meth c H locs 0 0 (MQ below (rw_Q D (some (.int R0)) [(mo, .inr (9, [.ref mo_book_a, .ref mo_now_a, .int mo_there, .ref mo_beside_a, .int (nI mo_sights), .ref mo_sight_a, .int (nI mo_signs), .ref mo_pad_a, .int mo_heldAt, .int mo_heldThing, .int mo_reason, .int mo_acts, .ref mo_lefts_a, .ref mo_inWays_a, .ref mo_more_a, .ref mo_wins_a, .ref mo_been_a, .ref mo_image_a, .ref mo_isKept_a])), (mo_book_a, .inl (cI, 19, .inl mo_book)), (mo_now_a, .inl (cI, 19, .inl mo_now)), (mo_beside_a, .inl (cI, 7, .inl mo_beside)), (mo_sight_a, .inl (cI, 16, .inl mo_sight)), (mo_pad_a, .inl (cI, 60, .inl mo_pad)), (mo_lefts_a, .inl (cI, 256, .inl mo_lefts)), (mo_inWays_a, .inl (cI, 128, .inl mo_inWays)), (mo_more_a, .inl (cI, 128, .inl mo_more)), (mo_wins_a, .inl (cZ, 201, .inl mo_wins)), (mo_been_a, .inl (cJ, 9, .inr (.inl mo_been))), (mo_image_a, .inl (cI, 100, .inl mo_image)), (mo_isKept_a, .inl (cZ, 2, .inl mo_isKept))] [(mo, .inr (9, [.ref mo_book_a, .ref mo_now_a, .int mo_there, .ref mo_beside_a, .int (nI mo_sights), .ref mo_sight_a, .int (nI mo_signs), .ref mo_pad_a, .int mo_heldAt, .int mo_heldThing, .int mo_reason, .int mo_acts, .ref mo_lefts_a, .ref mo_inWays_a, .ref mo_more_a, .ref mo_wins_a, .ref mo_been_a, .ref mo_image_a, .ref mo_isKept_a])), (mo_book_a, .inl (cI, 19, .inl mo_book)), (mo_now_a, .inl (cI, 19, .inl mo_now)), (mo_beside_a, .inl (cI, 7, .inl R1)), (mo_sight_a, .inl (cI, 16, .inl mo_sight)), (mo_pad_a, .inl (cI, 60, .inl mo_pad)), (mo_lefts_a, .inl (cI, 256, .inl mo_lefts)), (mo_inWays_a, .inl (cI, 128, .inl mo_inWays)), (mo_more_a, .inl (cI, 128, .inl mo_more)), (mo_wins_a, .inl (cZ, 201, .inl mo_wins)), (mo_been_a, .inl (cJ, 9, .inr (.inl mo_been))), (mo_image_a, .inl (cI, 100, .inl mo_image)), (mo_isKept_a, .inl (cZ, 2, .inl mo_isKept))]) args s 0 0 (va_In [(mo, .inr (9, [.ref mo_book_a, .ref mo_now_a, .int mo_there, .ref mo_beside_a, .int (nI mo_sights), .ref mo_sight_a, .int (nI mo_signs), .ref mo_pad_a, .int mo_heldAt, .int mo_heldThing, .int mo_reason, .int mo_acts, .ref mo_lefts_a, .ref mo_inWays_a, .ref mo_more_a, .ref mo_wins_a, .ref mo_been_a, .ref mo_image_a, .ref mo_isKept_a])), (mo_book_a, .inl (cI, 19, .inl mo_book)), (mo_now_a, .inl (cI, 19, .inl mo_now)), (mo_beside_a, .inl (cI, 7, .inl mo_beside)), (mo_sight_a, .inl (cI, 16, .inl mo_sight)), (mo_pad_a, .inl (cI, 60, .inl mo_pad)), (mo_lefts_a, .inl (cI, 256, .inl mo_lefts)), (mo_inWays_a, .inl (cI, 128, .inl mo_inWays)), (mo_more_a, .inl (cI, 128, .inl mo_more)), (mo_wins_a, .inl (cZ, 201, .inl mo_wins)), (mo_been_a, .inl (cJ, 9, .inr (.inl mo_been))), (mo_image_a, .inl (cI, 100, .inl mo_image)), (mo_isKept_a, .inl (cZ, 2, .inl mo_isKept))])) (F0 m 129 ls []) := by
            intro H locs hP hD hS ls hl
            refine lv_iload hx hb dX9_neighbours_129 (lv_at hl 0 rfl) ?_
            refine lv_iconst (v := (2 : Int32)) hx hb dX9_neighbours_131 (by decide) ?_
            refine lv_idiv hx hb dX9_neighbours_132 (by decide) ?_
            obtain ⟨rfl, rfl⟩ := prodI2 hR
            exact rw_iret hx hb hr hlocks hP hS dX9_neighbours_133
          have hloop101 : ∀ (k101 i101 : Nat) (v4_101 : Int32), i101 + k101 = 7 → ∀ (H : Heap) (locs : List Loc), va_P D vwCl [(mo, .inr (9, [.ref mo_book_a, .ref mo_now_a, .int mo_there, .ref mo_beside_a, .int (nI mo_sights), .ref mo_sight_a, .int (nI mo_signs), .ref mo_pad_a, .int mo_heldAt, .int mo_heldThing, .int mo_reason, .int mo_acts, .ref mo_lefts_a, .ref mo_inWays_a, .ref mo_more_a, .ref mo_wins_a, .ref mo_been_a, .ref mo_image_a, .ref mo_isKept_a])), (mo_book_a, .inl (cI, 19, .inl mo_book)), (mo_now_a, .inl (cI, 19, .inl mo_now)), (mo_beside_a, .inl (cI, 7, .inl (upd (upd (upd (upd mo_beside xa.toNatClampNeg ((mo_beside xa.toNatClampNeg) &&& (((1 : Int32) <<< (xb &&& 31)) ^^^ (-1 : Int32)))) xb.toNatClampNeg (((upd mo_beside xa.toNatClampNeg ((mo_beside xa.toNatClampNeg) &&& (((1 : Int32) <<< (xb &&& 31)) ^^^ (-1 : Int32)))) xb.toNatClampNeg) &&& (((1 : Int32) <<< (xa &&& 31)) ^^^ (-1 : Int32)))) xa.toNatClampNeg (((upd (upd mo_beside xa.toNatClampNeg ((mo_beside xa.toNatClampNeg) &&& (((1 : Int32) <<< (xb &&& 31)) ^^^ (-1 : Int32)))) xb.toNatClampNeg (((upd mo_beside xa.toNatClampNeg ((mo_beside xa.toNatClampNeg) &&& (((1 : Int32) <<< (xb &&& 31)) ^^^ (-1 : Int32)))) xb.toNatClampNeg) &&& (((1 : Int32) <<< (xa &&& 31)) ^^^ (-1 : Int32)))) xa.toNatClampNeg) ||| ((1 : Int32) <<< (xb &&& 31)))) xb.toNatClampNeg (((upd (upd (upd mo_beside xa.toNatClampNeg ((mo_beside xa.toNatClampNeg) &&& (((1 : Int32) <<< (xb &&& 31)) ^^^ (-1 : Int32)))) xb.toNatClampNeg (((upd mo_beside xa.toNatClampNeg ((mo_beside xa.toNatClampNeg) &&& (((1 : Int32) <<< (xb &&& 31)) ^^^ (-1 : Int32)))) xb.toNatClampNeg) &&& (((1 : Int32) <<< (xa &&& 31)) ^^^ (-1 : Int32)))) xa.toNatClampNeg (((upd (upd mo_beside xa.toNatClampNeg ((mo_beside xa.toNatClampNeg) &&& (((1 : Int32) <<< (xb &&& 31)) ^^^ (-1 : Int32)))) xb.toNatClampNeg (((upd mo_beside xa.toNatClampNeg ((mo_beside xa.toNatClampNeg) &&& (((1 : Int32) <<< (xb &&& 31)) ^^^ (-1 : Int32)))) xb.toNatClampNeg) &&& (((1 : Int32) <<< (xa &&& 31)) ^^^ (-1 : Int32)))) xa.toNatClampNeg) ||| ((1 : Int32) <<< (xb &&& 31)))) xb.toNatClampNeg) ||| ((1 : Int32) <<< (xa &&& 31)))))), (mo_sight_a, .inl (cI, 16, .inl mo_sight)), (mo_pad_a, .inl (cI, 60, .inl mo_pad)), (mo_lefts_a, .inl (cI, 256, .inl mo_lefts)), (mo_inWays_a, .inl (cI, 128, .inl mo_inWays)), (mo_more_a, .inl (cI, 128, .inl mo_more)), (mo_wins_a, .inl (cZ, 201, .inl mo_wins)), (mo_been_a, .inl (cJ, 9, .inr (.inl mo_been))), (mo_image_a, .inl (cI, 100, .inl mo_image)), (mo_isKept_a, .inl (cZ, 2, .inl mo_isKept))] H → va_D (va_In [(mo, .inr (9, [.ref mo_book_a, .ref mo_now_a, .int mo_there, .ref mo_beside_a, .int (nI mo_sights), .ref mo_sight_a, .int (nI mo_signs), .ref mo_pad_a, .int mo_heldAt, .int mo_heldThing, .int mo_reason, .int mo_acts, .ref mo_lefts_a, .ref mo_inWays_a, .ref mo_more_a, .ref mo_wins_a, .ref mo_been_a, .ref mo_image_a, .ref mo_isKept_a])), (mo_book_a, .inl (cI, 19, .inl mo_book)), (mo_now_a, .inl (cI, 19, .inl mo_now)), (mo_beside_a, .inl (cI, 7, .inl mo_beside)), (mo_sight_a, .inl (cI, 16, .inl mo_sight)), (mo_pad_a, .inl (cI, 60, .inl mo_pad)), (mo_lefts_a, .inl (cI, 256, .inl mo_lefts)), (mo_inWays_a, .inl (cI, 128, .inl mo_inWays)), (mo_more_a, .inl (cI, 128, .inl mo_more)), (mo_wins_a, .inl (cZ, 201, .inl mo_wins)), (mo_been_a, .inl (cJ, 9, .inr (.inl mo_been))), (mo_image_a, .inl (cI, 100, .inl mo_image)), (mo_isKept_a, .inl (cZ, 2, .inl mo_isKept))]) [(mo, .inr (9, [.ref mo_book_a, .ref mo_now_a, .int mo_there, .ref mo_beside_a, .int (nI mo_sights), .ref mo_sight_a, .int (nI mo_signs), .ref mo_pad_a, .int mo_heldAt, .int mo_heldThing, .int mo_reason, .int mo_acts, .ref mo_lefts_a, .ref mo_inWays_a, .ref mo_more_a, .ref mo_wins_a, .ref mo_been_a, .ref mo_image_a, .ref mo_isKept_a])), (mo_book_a, .inl (cI, 19, .inl mo_book)), (mo_now_a, .inl (cI, 19, .inl mo_now)), (mo_beside_a, .inl (cI, 7, .inl (upd (upd (upd (upd mo_beside xa.toNatClampNeg ((mo_beside xa.toNatClampNeg) &&& (((1 : Int32) <<< (xb &&& 31)) ^^^ (-1 : Int32)))) xb.toNatClampNeg (((upd mo_beside xa.toNatClampNeg ((mo_beside xa.toNatClampNeg) &&& (((1 : Int32) <<< (xb &&& 31)) ^^^ (-1 : Int32)))) xb.toNatClampNeg) &&& (((1 : Int32) <<< (xa &&& 31)) ^^^ (-1 : Int32)))) xa.toNatClampNeg (((upd (upd mo_beside xa.toNatClampNeg ((mo_beside xa.toNatClampNeg) &&& (((1 : Int32) <<< (xb &&& 31)) ^^^ (-1 : Int32)))) xb.toNatClampNeg (((upd mo_beside xa.toNatClampNeg ((mo_beside xa.toNatClampNeg) &&& (((1 : Int32) <<< (xb &&& 31)) ^^^ (-1 : Int32)))) xb.toNatClampNeg) &&& (((1 : Int32) <<< (xa &&& 31)) ^^^ (-1 : Int32)))) xa.toNatClampNeg) ||| ((1 : Int32) <<< (xb &&& 31)))) xb.toNatClampNeg (((upd (upd (upd mo_beside xa.toNatClampNeg ((mo_beside xa.toNatClampNeg) &&& (((1 : Int32) <<< (xb &&& 31)) ^^^ (-1 : Int32)))) xb.toNatClampNeg (((upd mo_beside xa.toNatClampNeg ((mo_beside xa.toNatClampNeg) &&& (((1 : Int32) <<< (xb &&& 31)) ^^^ (-1 : Int32)))) xb.toNatClampNeg) &&& (((1 : Int32) <<< (xa &&& 31)) ^^^ (-1 : Int32)))) xa.toNatClampNeg (((upd (upd mo_beside xa.toNatClampNeg ((mo_beside xa.toNatClampNeg) &&& (((1 : Int32) <<< (xb &&& 31)) ^^^ (-1 : Int32)))) xb.toNatClampNeg (((upd mo_beside xa.toNatClampNeg ((mo_beside xa.toNatClampNeg) &&& (((1 : Int32) <<< (xb &&& 31)) ^^^ (-1 : Int32)))) xb.toNatClampNeg) &&& (((1 : Int32) <<< (xa &&& 31)) ^^^ (-1 : Int32)))) xa.toNatClampNeg) ||| ((1 : Int32) <<< (xb &&& 31)))) xb.toNatClampNeg) ||| ((1 : Int32) <<< (xa &&& 31)))))), (mo_sight_a, .inl (cI, 16, .inl mo_sight)), (mo_pad_a, .inl (cI, 60, .inl mo_pad)), (mo_lefts_a, .inl (cI, 256, .inl mo_lefts)), (mo_inWays_a, .inl (cI, 128, .inl mo_inWays)), (mo_more_a, .inl (cI, 128, .inl mo_more)), (mo_wins_a, .inl (cZ, 201, .inl mo_wins)), (mo_been_a, .inl (cJ, 9, .inr (.inl mo_been))), (mo_image_a, .inl (cI, 100, .inl mo_image)), (mo_isKept_a, .inl (cZ, 2, .inl mo_isKept))] → va_S (va_In [(mo, .inr (9, [.ref mo_book_a, .ref mo_now_a, .int mo_there, .ref mo_beside_a, .int (nI mo_sights), .ref mo_sight_a, .int (nI mo_signs), .ref mo_pad_a, .int mo_heldAt, .int mo_heldThing, .int mo_reason, .int mo_acts, .ref mo_lefts_a, .ref mo_inWays_a, .ref mo_more_a, .ref mo_wins_a, .ref mo_been_a, .ref mo_image_a, .ref mo_isKept_a])), (mo_book_a, .inl (cI, 19, .inl mo_book)), (mo_now_a, .inl (cI, 19, .inl mo_now)), (mo_beside_a, .inl (cI, 7, .inl mo_beside)), (mo_sight_a, .inl (cI, 16, .inl mo_sight)), (mo_pad_a, .inl (cI, 60, .inl mo_pad)), (mo_lefts_a, .inl (cI, 256, .inl mo_lefts)), (mo_inWays_a, .inl (cI, 128, .inl mo_inWays)), (mo_more_a, .inl (cI, 128, .inl mo_more)), (mo_wins_a, .inl (cZ, 201, .inl mo_wins)), (mo_been_a, .inl (cJ, 9, .inr (.inl mo_been))), (mo_image_a, .inl (cI, 100, .inl mo_image)), (mo_isKept_a, .inl (cZ, 2, .inl mo_isKept))]) s.heap H locs → ∀ (ls : Array Slot), lv_has ls 6 [(5, .int (nI i101)), (4, .int v4_101), (0, .ref mo), (1, .int xa), (2, .int xb), (3, .int xi)] → lp_X9_neighbours_101 (upd (upd (upd (upd mo_beside xa.toNatClampNeg ((mo_beside xa.toNatClampNeg) &&& (((1 : Int32) <<< (xb &&& 31)) ^^^ (-1 : Int32)))) xb.toNatClampNeg (((upd mo_beside xa.toNatClampNeg ((mo_beside xa.toNatClampNeg) &&& (((1 : Int32) <<< (xb &&& 31)) ^^^ (-1 : Int32)))) xb.toNatClampNeg) &&& (((1 : Int32) <<< (xa &&& 31)) ^^^ (-1 : Int32)))) xa.toNatClampNeg (((upd (upd mo_beside xa.toNatClampNeg ((mo_beside xa.toNatClampNeg) &&& (((1 : Int32) <<< (xb &&& 31)) ^^^ (-1 : Int32)))) xb.toNatClampNeg (((upd mo_beside xa.toNatClampNeg ((mo_beside xa.toNatClampNeg) &&& (((1 : Int32) <<< (xb &&& 31)) ^^^ (-1 : Int32)))) xb.toNatClampNeg) &&& (((1 : Int32) <<< (xa &&& 31)) ^^^ (-1 : Int32)))) xa.toNatClampNeg) ||| ((1 : Int32) <<< (xb &&& 31)))) xb.toNatClampNeg (((upd (upd (upd mo_beside xa.toNatClampNeg ((mo_beside xa.toNatClampNeg) &&& (((1 : Int32) <<< (xb &&& 31)) ^^^ (-1 : Int32)))) xb.toNatClampNeg (((upd mo_beside xa.toNatClampNeg ((mo_beside xa.toNatClampNeg) &&& (((1 : Int32) <<< (xb &&& 31)) ^^^ (-1 : Int32)))) xb.toNatClampNeg) &&& (((1 : Int32) <<< (xa &&& 31)) ^^^ (-1 : Int32)))) xa.toNatClampNeg (((upd (upd mo_beside xa.toNatClampNeg ((mo_beside xa.toNatClampNeg) &&& (((1 : Int32) <<< (xb &&& 31)) ^^^ (-1 : Int32)))) xb.toNatClampNeg (((upd mo_beside xa.toNatClampNeg ((mo_beside xa.toNatClampNeg) &&& (((1 : Int32) <<< (xb &&& 31)) ^^^ (-1 : Int32)))) xb.toNatClampNeg) &&& (((1 : Int32) <<< (xa &&& 31)) ^^^ (-1 : Int32)))) xa.toNatClampNeg) ||| ((1 : Int32) <<< (xb &&& 31)))) xb.toNatClampNeg) ||| ((1 : Int32) <<< (xa &&& 31)))) k101 i101 v4_101 = F101_2 → W p l e ({ frames := 1, cells := 0, slots := 0, locals := 22 }) s m args below meth c H locs 0 0 (MQ below (rw_Q D (some (.int R0)) [(mo, .inr (9, [.ref mo_book_a, .ref mo_now_a, .int mo_there, .ref mo_beside_a, .int (nI mo_sights), .ref mo_sight_a, .int (nI mo_signs), .ref mo_pad_a, .int mo_heldAt, .int mo_heldThing, .int mo_reason, .int mo_acts, .ref mo_lefts_a, .ref mo_inWays_a, .ref mo_more_a, .ref mo_wins_a, .ref mo_been_a, .ref mo_image_a, .ref mo_isKept_a])), (mo_book_a, .inl (cI, 19, .inl mo_book)), (mo_now_a, .inl (cI, 19, .inl mo_now)), (mo_beside_a, .inl (cI, 7, .inl mo_beside)), (mo_sight_a, .inl (cI, 16, .inl mo_sight)), (mo_pad_a, .inl (cI, 60, .inl mo_pad)), (mo_lefts_a, .inl (cI, 256, .inl mo_lefts)), (mo_inWays_a, .inl (cI, 128, .inl mo_inWays)), (mo_more_a, .inl (cI, 128, .inl mo_more)), (mo_wins_a, .inl (cZ, 201, .inl mo_wins)), (mo_been_a, .inl (cJ, 9, .inr (.inl mo_been))), (mo_image_a, .inl (cI, 100, .inl mo_image)), (mo_isKept_a, .inl (cZ, 2, .inl mo_isKept))] [(mo, .inr (9, [.ref mo_book_a, .ref mo_now_a, .int mo_there, .ref mo_beside_a, .int (nI mo_sights), .ref mo_sight_a, .int (nI mo_signs), .ref mo_pad_a, .int mo_heldAt, .int mo_heldThing, .int mo_reason, .int mo_acts, .ref mo_lefts_a, .ref mo_inWays_a, .ref mo_more_a, .ref mo_wins_a, .ref mo_been_a, .ref mo_image_a, .ref mo_isKept_a])), (mo_book_a, .inl (cI, 19, .inl mo_book)), (mo_now_a, .inl (cI, 19, .inl mo_now)), (mo_beside_a, .inl (cI, 7, .inl R1)), (mo_sight_a, .inl (cI, 16, .inl mo_sight)), (mo_pad_a, .inl (cI, 60, .inl mo_pad)), (mo_lefts_a, .inl (cI, 256, .inl mo_lefts)), (mo_inWays_a, .inl (cI, 128, .inl mo_inWays)), (mo_more_a, .inl (cI, 128, .inl mo_more)), (mo_wins_a, .inl (cZ, 201, .inl mo_wins)), (mo_been_a, .inl (cJ, 9, .inr (.inl mo_been))), (mo_image_a, .inl (cI, 100, .inl mo_image)), (mo_isKept_a, .inl (cZ, 2, .inl mo_isKept))]) args s 0 0 (va_In [(mo, .inr (9, [.ref mo_book_a, .ref mo_now_a, .int mo_there, .ref mo_beside_a, .int (nI mo_sights), .ref mo_sight_a, .int (nI mo_signs), .ref mo_pad_a, .int mo_heldAt, .int mo_heldThing, .int mo_reason, .int mo_acts, .ref mo_lefts_a, .ref mo_inWays_a, .ref mo_more_a, .ref mo_wins_a, .ref mo_been_a, .ref mo_image_a, .ref mo_isKept_a])), (mo_book_a, .inl (cI, 19, .inl mo_book)), (mo_now_a, .inl (cI, 19, .inl mo_now)), (mo_beside_a, .inl (cI, 7, .inl mo_beside)), (mo_sight_a, .inl (cI, 16, .inl mo_sight)), (mo_pad_a, .inl (cI, 60, .inl mo_pad)), (mo_lefts_a, .inl (cI, 256, .inl mo_lefts)), (mo_inWays_a, .inl (cI, 128, .inl mo_inWays)), (mo_more_a, .inl (cI, 128, .inl mo_more)), (mo_wins_a, .inl (cZ, 201, .inl mo_wins)), (mo_been_a, .inl (cJ, 9, .inr (.inl mo_been))), (mo_image_a, .inl (cI, 100, .inl mo_image)), (mo_isKept_a, .inl (cZ, 2, .inl mo_isKept))])) (F0 m 101 ls []) := by
            intro k101
            induction k101 with
            | zero =>
              intro i101 v4_101 h101  H locs hP hD hS ls hl hR
              obtain rfl : 7 = i101 := by omega
              rw [lp_X9_neighbours_101] at hR
              refine lv_iload hx hb dX9_neighbours_101 (lv_at hl 0 rfl) ?_
              refine lv_bipush (v := (7 : Int32)) hx hb dX9_neighbours_103 (by decide +kernel) ?_
              refine lv_icmp_ge (tgt := 129) hx hb dX9_neighbours_105 (by decide) (fun _ => ?_) (fun h => absurd (cle_t (a := 7) (b := 7) rfl rfl (by omega) (by omega)) h)
              subst hR
              exact hexit101 _ _ hP hD hS _ (lv_sub hl [1, 2, 3, 4, 5] rfl)
            | succ k101 ih101 =>
              intro i101 v4_101 h101  H locs hP hD hS ls hl hR
              rw [lp_X9_neighbours_101] at hR
              refine lv_iload hx hb dX9_neighbours_101 (lv_at hl 0 rfl) ?_
              refine lv_bipush (v := (7 : Int32)) hx hb dX9_neighbours_103 (by decide +kernel) ?_
              refine lv_icmp_ge (tgt := 129) hx hb dX9_neighbours_105 (by decide) (fun h => absurd h (cle_f (a := 7) (b := i101) rfl rfl (by omega) (by omega))) (fun _ => ?_)
              refine lv_iload hx hb dX9_neighbours_108 (lv_at hl 1 rfl) ?_
              refine lv_aload_n hx hb dX9_neighbours_110 rfl (lv_at hl 2 rfl) ?_
              refine va_get (D := D) (ci := 9) (v := .ref mo_beside_a) (C := RX9) (T := TX9) (N := 19) hx hb hts in_X9_neighbours_X9 hown hK.1 hP 0 rfl rfl 3 (by decide) hq0 (fun _ h9 => h9) rfl dX9_neighbours_111 ?_
              refine lv_iload hx hb dX9_neighbours_114 (lv_at hl 0 rfl) ?_
              refine ia_ld hx hb hK hP 3 rfl (i := i101) (by omega) (by decide) dX9_neighbours_116 ?_
              refine ro_S (As := [.int ((upd (upd (upd (upd mo_beside xa.toNatClampNeg ((mo_beside xa.toNatClampNeg) &&& (((1 : Int32) <<< (xb &&& 31)) ^^^ (-1 : Int32)))) xb.toNatClampNeg (((upd mo_beside xa.toNatClampNeg ((mo_beside xa.toNatClampNeg) &&& (((1 : Int32) <<< (xb &&& 31)) ^^^ (-1 : Int32)))) xb.toNatClampNeg) &&& (((1 : Int32) <<< (xa &&& 31)) ^^^ (-1 : Int32)))) xa.toNatClampNeg (((upd (upd mo_beside xa.toNatClampNeg ((mo_beside xa.toNatClampNeg) &&& (((1 : Int32) <<< (xb &&& 31)) ^^^ (-1 : Int32)))) xb.toNatClampNeg (((upd mo_beside xa.toNatClampNeg ((mo_beside xa.toNatClampNeg) &&& (((1 : Int32) <<< (xb &&& 31)) ^^^ (-1 : Int32)))) xb.toNatClampNeg) &&& (((1 : Int32) <<< (xa &&& 31)) ^^^ (-1 : Int32)))) xa.toNatClampNeg) ||| ((1 : Int32) <<< (xb &&& 31)))) xb.toNatClampNeg (((upd (upd (upd mo_beside xa.toNatClampNeg ((mo_beside xa.toNatClampNeg) &&& (((1 : Int32) <<< (xb &&& 31)) ^^^ (-1 : Int32)))) xb.toNatClampNeg (((upd mo_beside xa.toNatClampNeg ((mo_beside xa.toNatClampNeg) &&& (((1 : Int32) <<< (xb &&& 31)) ^^^ (-1 : Int32)))) xb.toNatClampNeg) &&& (((1 : Int32) <<< (xa &&& 31)) ^^^ (-1 : Int32)))) xa.toNatClampNeg (((upd (upd mo_beside xa.toNatClampNeg ((mo_beside xa.toNatClampNeg) &&& (((1 : Int32) <<< (xb &&& 31)) ^^^ (-1 : Int32)))) xb.toNatClampNeg (((upd mo_beside xa.toNatClampNeg ((mo_beside xa.toNatClampNeg) &&& (((1 : Int32) <<< (xb &&& 31)) ^^^ (-1 : Int32)))) xb.toNatClampNeg) &&& (((1 : Int32) <<< (xa &&& 31)) ^^^ (-1 : Int32)))) xa.toNatClampNeg) ||| ((1 : Int32) <<< (xb &&& 31)))) xb.toNatClampNeg) ||| ((1 : Int32) <<< (xa &&& 31)))) i101)]) (rest := [.int v4_101]) ⟨hx, hb, hml, hown, hts⟩ hK (c_X9_bits l D cI cJ cZ ((upd (upd (upd (upd mo_beside xa.toNatClampNeg ((mo_beside xa.toNatClampNeg) &&& (((1 : Int32) <<< (xb &&& 31)) ^^^ (-1 : Int32)))) xb.toNatClampNeg (((upd mo_beside xa.toNatClampNeg ((mo_beside xa.toNatClampNeg) &&& (((1 : Int32) <<< (xb &&& 31)) ^^^ (-1 : Int32)))) xb.toNatClampNeg) &&& (((1 : Int32) <<< (xa &&& 31)) ^^^ (-1 : Int32)))) xa.toNatClampNeg (((upd (upd mo_beside xa.toNatClampNeg ((mo_beside xa.toNatClampNeg) &&& (((1 : Int32) <<< (xb &&& 31)) ^^^ (-1 : Int32)))) xb.toNatClampNeg (((upd mo_beside xa.toNatClampNeg ((mo_beside xa.toNatClampNeg) &&& (((1 : Int32) <<< (xb &&& 31)) ^^^ (-1 : Int32)))) xb.toNatClampNeg) &&& (((1 : Int32) <<< (xa &&& 31)) ^^^ (-1 : Int32)))) xa.toNatClampNeg) ||| ((1 : Int32) <<< (xb &&& 31)))) xb.toNatClampNeg (((upd (upd (upd mo_beside xa.toNatClampNeg ((mo_beside xa.toNatClampNeg) &&& (((1 : Int32) <<< (xb &&& 31)) ^^^ (-1 : Int32)))) xb.toNatClampNeg (((upd mo_beside xa.toNatClampNeg ((mo_beside xa.toNatClampNeg) &&& (((1 : Int32) <<< (xb &&& 31)) ^^^ (-1 : Int32)))) xb.toNatClampNeg) &&& (((1 : Int32) <<< (xa &&& 31)) ^^^ (-1 : Int32)))) xa.toNatClampNeg (((upd (upd mo_beside xa.toNatClampNeg ((mo_beside xa.toNatClampNeg) &&& (((1 : Int32) <<< (xb &&& 31)) ^^^ (-1 : Int32)))) xb.toNatClampNeg (((upd mo_beside xa.toNatClampNeg ((mo_beside xa.toNatClampNeg) &&& (((1 : Int32) <<< (xb &&& 31)) ^^^ (-1 : Int32)))) xb.toNatClampNeg) &&& (((1 : Int32) <<< (xa &&& 31)) ^^^ (-1 : Int32)))) xa.toNatClampNeg) ||| ((1 : Int32) <<< (xb &&& 31)))) xb.toNatClampNeg) ||| ((1 : Int32) <<< (xa &&& 31)))) i101)) va_P_nil (va_cwS 1 hts gX9_neighbours_X9_bits rfl rfl rfl hd_X9_bits ⟨(Nat.le_of_ble_eq_true rfl), (Nat.le_of_ble_eq_true rfl)⟩) rfl hl.1 rfl (Nat.le_of_ble_eq_true rfl) dX9_neighbours_117 (Nat.zero_le _) (Nat.zero_le _) ?_
              refine lv_iadd hx hb dX9_neighbours_120 ?_
              refine lv_istore (lv' := [(4, .int (v4_101 + (f_X9_bits ((upd (upd (upd (upd mo_beside xa.toNatClampNeg ((mo_beside xa.toNatClampNeg) &&& (((1 : Int32) <<< (xb &&& 31)) ^^^ (-1 : Int32)))) xb.toNatClampNeg (((upd mo_beside xa.toNatClampNeg ((mo_beside xa.toNatClampNeg) &&& (((1 : Int32) <<< (xb &&& 31)) ^^^ (-1 : Int32)))) xb.toNatClampNeg) &&& (((1 : Int32) <<< (xa &&& 31)) ^^^ (-1 : Int32)))) xa.toNatClampNeg (((upd (upd mo_beside xa.toNatClampNeg ((mo_beside xa.toNatClampNeg) &&& (((1 : Int32) <<< (xb &&& 31)) ^^^ (-1 : Int32)))) xb.toNatClampNeg (((upd mo_beside xa.toNatClampNeg ((mo_beside xa.toNatClampNeg) &&& (((1 : Int32) <<< (xb &&& 31)) ^^^ (-1 : Int32)))) xb.toNatClampNeg) &&& (((1 : Int32) <<< (xa &&& 31)) ^^^ (-1 : Int32)))) xa.toNatClampNeg) ||| ((1 : Int32) <<< (xb &&& 31)))) xb.toNatClampNeg (((upd (upd (upd mo_beside xa.toNatClampNeg ((mo_beside xa.toNatClampNeg) &&& (((1 : Int32) <<< (xb &&& 31)) ^^^ (-1 : Int32)))) xb.toNatClampNeg (((upd mo_beside xa.toNatClampNeg ((mo_beside xa.toNatClampNeg) &&& (((1 : Int32) <<< (xb &&& 31)) ^^^ (-1 : Int32)))) xb.toNatClampNeg) &&& (((1 : Int32) <<< (xa &&& 31)) ^^^ (-1 : Int32)))) xa.toNatClampNeg (((upd (upd mo_beside xa.toNatClampNeg ((mo_beside xa.toNatClampNeg) &&& (((1 : Int32) <<< (xb &&& 31)) ^^^ (-1 : Int32)))) xb.toNatClampNeg (((upd mo_beside xa.toNatClampNeg ((mo_beside xa.toNatClampNeg) &&& (((1 : Int32) <<< (xb &&& 31)) ^^^ (-1 : Int32)))) xb.toNatClampNeg) &&& (((1 : Int32) <<< (xa &&& 31)) ^^^ (-1 : Int32)))) xa.toNatClampNeg) ||| ((1 : Int32) <<< (xb &&& 31)))) xb.toNatClampNeg) ||| ((1 : Int32) <<< (xa &&& 31)))) i101)))), (5, .int (nI i101)), (0, .ref mo), (1, .int xa), (2, .int xb), (3, .int xi)]) hx hb dX9_neighbours_121 hl (by decide) rfl (fun ls hl => ?_)
              refine lv_iinc (v := (nI (i101 + 1))) (lv' := [(5, .int (nI (i101 + 1))), (4, .int (v4_101 + (f_X9_bits ((upd (upd (upd (upd mo_beside xa.toNatClampNeg ((mo_beside xa.toNatClampNeg) &&& (((1 : Int32) <<< (xb &&& 31)) ^^^ (-1 : Int32)))) xb.toNatClampNeg (((upd mo_beside xa.toNatClampNeg ((mo_beside xa.toNatClampNeg) &&& (((1 : Int32) <<< (xb &&& 31)) ^^^ (-1 : Int32)))) xb.toNatClampNeg) &&& (((1 : Int32) <<< (xa &&& 31)) ^^^ (-1 : Int32)))) xa.toNatClampNeg (((upd (upd mo_beside xa.toNatClampNeg ((mo_beside xa.toNatClampNeg) &&& (((1 : Int32) <<< (xb &&& 31)) ^^^ (-1 : Int32)))) xb.toNatClampNeg (((upd mo_beside xa.toNatClampNeg ((mo_beside xa.toNatClampNeg) &&& (((1 : Int32) <<< (xb &&& 31)) ^^^ (-1 : Int32)))) xb.toNatClampNeg) &&& (((1 : Int32) <<< (xa &&& 31)) ^^^ (-1 : Int32)))) xa.toNatClampNeg) ||| ((1 : Int32) <<< (xb &&& 31)))) xb.toNatClampNeg (((upd (upd (upd mo_beside xa.toNatClampNeg ((mo_beside xa.toNatClampNeg) &&& (((1 : Int32) <<< (xb &&& 31)) ^^^ (-1 : Int32)))) xb.toNatClampNeg (((upd mo_beside xa.toNatClampNeg ((mo_beside xa.toNatClampNeg) &&& (((1 : Int32) <<< (xb &&& 31)) ^^^ (-1 : Int32)))) xb.toNatClampNeg) &&& (((1 : Int32) <<< (xa &&& 31)) ^^^ (-1 : Int32)))) xa.toNatClampNeg (((upd (upd mo_beside xa.toNatClampNeg ((mo_beside xa.toNatClampNeg) &&& (((1 : Int32) <<< (xb &&& 31)) ^^^ (-1 : Int32)))) xb.toNatClampNeg (((upd mo_beside xa.toNatClampNeg ((mo_beside xa.toNatClampNeg) &&& (((1 : Int32) <<< (xb &&& 31)) ^^^ (-1 : Int32)))) xb.toNatClampNeg) &&& (((1 : Int32) <<< (xa &&& 31)) ^^^ (-1 : Int32)))) xa.toNatClampNeg) ||| ((1 : Int32) <<< (xb &&& 31)))) xb.toNatClampNeg) ||| ((1 : Int32) <<< (xa &&& 31)))) i101)))), (0, .ref mo), (1, .int xa), (2, .int xb), (3, .int xi)]) hx hb dX9_neighbours_123 hl (k := 1) rfl (by exact nI_add i101 1) (by decide) rfl (fun ls hl => ?_)
              refine lv_goto (tgt := 101) hx hb dX9_neighbours_126 (by decide) ?_
              exact ih101 _ _ (by omega) _ _ hP hD hS _ (lv_sub hl [0, 1, 2, 3, 4, 5] rfl) hR
          exact hloop101 7 0 _ (by omega) _ _ hP hD hS _ hl hF101_2
      · rw [if_pos c22] at hR
        refine lv_iconst (v := (-1 : Int32)) hx hb dX9_neighbours_25 (by decide) ?_
        obtain ⟨rfl, rfl⟩ := prodI2 hR
        exact rw_iret hx hb hr hlocks hP hS dX9_neighbours_26


theorem in_X9_weather_X9 : ∀ w ∈ u_ws RX9 TX9 19, w ∈ wsX9_weather := by decide +kernel
def f_X9_weather (mo_book : Nat → Int32) (xw : Int32) (xo : Int32) : Int32 × (Nat → Int32) :=
  (if ((f_X9_in xw (0 : Int32) (7 : Int32)) = 0) then ((-2 : Int32), mo_book) else (if ((f_X9_in xo (0 : Int32) (9 : Int32)) = 0) then ((-2 : Int32), mo_book) else ((((10 : Int32) * (mo_book 16)) + (mo_book 17)), (upd (upd mo_book 16 xw) 17 xo))))
set_option maxHeartbeats 4000000 in
set_option maxRecDepth 100000 in
theorem c_X9_weather (l : Launch) (D : va_G) (cI cJ cZ : ClassId) (mo : Nat) (mo_book_a : Nat) (mo_now_a : Nat) (mo_there : Int32) (mo_beside_a : Nat) (mo_sights : Nat) (mo_sight_a : Nat) (mo_signs : Nat) (mo_pad_a : Nat) (mo_heldAt : Int32) (mo_heldThing : Int32) (mo_reason : Int32) (mo_acts : Int32) (mo_lefts_a : Nat) (mo_inWays_a : Nat) (mo_more_a : Nat) (mo_wins_a : Nat) (mo_been_a : Nat) (mo_image_a : Nat) (mo_isKept_a : Nat) (mo_book : Nat → Int32) (mo_now : Nat → Int32) (mo_beside : Nat → Int32) (mo_sight : Nat → Int32) (mo_pad : Nat → Int32) (mo_lefts : Nat → Int32) (mo_inWays : Nat → Int32) (mo_more : Nat → Int32) (mo_wins : Nat → Int32) (mo_been : Nat → Int64) (mo_image : Nat → Int32) (mo_isKept : Nat → Int32) (xw : Int32) (xo : Int32) : RW l yX9_weather wsX9_weather ({ frames := 1, cells := 0, slots := 0, locals := 22 }) [.ref mo, .int xw, .int xo] D cI cJ cZ [(mo, .inr (9, [.ref mo_book_a, .ref mo_now_a, .int mo_there, .ref mo_beside_a, .int (nI mo_sights), .ref mo_sight_a, .int (nI mo_signs), .ref mo_pad_a, .int mo_heldAt, .int mo_heldThing, .int mo_reason, .int mo_acts, .ref mo_lefts_a, .ref mo_inWays_a, .ref mo_more_a, .ref mo_wins_a, .ref mo_been_a, .ref mo_image_a, .ref mo_isKept_a])), (mo_book_a, .inl (cI, 19, .inl mo_book)), (mo_now_a, .inl (cI, 19, .inl mo_now)), (mo_beside_a, .inl (cI, 7, .inl mo_beside)), (mo_sight_a, .inl (cI, 16, .inl mo_sight)), (mo_pad_a, .inl (cI, 60, .inl mo_pad)), (mo_lefts_a, .inl (cI, 256, .inl mo_lefts)), (mo_inWays_a, .inl (cI, 128, .inl mo_inWays)), (mo_more_a, .inl (cI, 128, .inl mo_more)), (mo_wins_a, .inl (cZ, 201, .inl mo_wins)), (mo_been_a, .inl (cJ, 9, .inr (.inl mo_been))), (mo_image_a, .inl (cI, 100, .inl mo_image)), (mo_isKept_a, .inl (cZ, 2, .inl mo_isKept))] (some (.int ((f_X9_weather mo_book xw xo).1))) [(mo, .inr (9, [.ref mo_book_a, .ref mo_now_a, .int mo_there, .ref mo_beside_a, .int (nI mo_sights), .ref mo_sight_a, .int (nI mo_signs), .ref mo_pad_a, .int mo_heldAt, .int mo_heldThing, .int mo_reason, .int mo_acts, .ref mo_lefts_a, .ref mo_inWays_a, .ref mo_more_a, .ref mo_wins_a, .ref mo_been_a, .ref mo_image_a, .ref mo_isKept_a])), (mo_book_a, .inl (cI, 19, .inl ((f_X9_weather mo_book xw xo).2))), (mo_now_a, .inl (cI, 19, .inl mo_now)), (mo_beside_a, .inl (cI, 7, .inl mo_beside)), (mo_sight_a, .inl (cI, 16, .inl mo_sight)), (mo_pad_a, .inl (cI, 60, .inl mo_pad)), (mo_lefts_a, .inl (cI, 256, .inl mo_lefts)), (mo_inWays_a, .inl (cI, 128, .inl mo_inWays)), (mo_more_a, .inl (cI, 128, .inl mo_more)), (mo_wins_a, .inl (cZ, 201, .inl mo_wins)), (mo_been_a, .inl (cJ, 9, .inr (.inl mo_been))), (mo_image_a, .inl (cI, 100, .inl mo_image)), (mo_isKept_a, .inl (cZ, 2, .inl mo_isKept))] := by
  obtain ⟨R0, R1, hR⟩ := prodE2 (f_X9_weather mo_book xw xo)
  rw [hR]
  dsimp only
  refine rw_start (cc := cX9_weather) (maxL := 4) (ret := (some .int)) (by decide) rfl (Nat.le_of_ble_eq_true rfl) ?_
  intro p e s m args below meth c hx hb hr hml hown hts hlocks hP hD hS hK ls hl
  have hown : s.vm.findClass RX9 = some m.cls := hown
  have hl : lv_has ls 4 [(0, .ref mo), (1, .int xw), (2, .int xo)] := hl
  have hq0 := hts (.fieldLink RX9 7 "StuckVanesModel" "book" "[I") (by decide +kernel)
  rw [f_X9_weather] at hR
  refine lv_iload_n hx hb dX9_weather_0 rfl (lv_at hl 1 rfl) ?_
  refine lv_iconst (v := (0 : Int32)) hx hb dX9_weather_1 (by decide) ?_
  refine lv_bipush (v := (7 : Int32)) hx hb dX9_weather_2 (by decide +kernel) ?_
  refine ro_S (As := [.int xw, .int (0 : Int32), .int (7 : Int32)]) (rest := []) ⟨hx, hb, hml, hown, hts⟩ hK (c_X9_in l D cI cJ cZ xw (0 : Int32) (7 : Int32)) va_P_nil (va_cwS 3 hts gX9_weather_X9_in rfl rfl rfl hd_X9_in ⟨(Nat.le_of_ble_eq_true rfl), (Nat.le_of_ble_eq_true rfl)⟩) rfl hl.1 rfl (Nat.le_of_ble_eq_true rfl) dX9_weather_4 (Nat.zero_le _) (Nat.zero_le _) ?_
  refine lv_if_eq (tgt := 20) hx hb dX9_weather_7 (by decide) (fun c7 => ?_) (fun c7 => ?_)
  · rw [if_pos c7] at hR
    refine lv_bipush (v := (-2 : Int32)) hx hb dX9_weather_20 (by decide +kernel) ?_
    obtain ⟨rfl, rfl⟩ := prodI2 hR
    exact rw_iret hx hb hr hlocks hP hS dX9_weather_22
  · rw [if_neg c7] at hR
    refine lv_iload_n hx hb dX9_weather_10 rfl (lv_at hl 2 rfl) ?_
    refine lv_iconst (v := (0 : Int32)) hx hb dX9_weather_11 (by decide) ?_
    refine lv_bipush (v := (9 : Int32)) hx hb dX9_weather_12 (by decide +kernel) ?_
    refine ro_S (As := [.int xo, .int (0 : Int32), .int (9 : Int32)]) (rest := []) ⟨hx, hb, hml, hown, hts⟩ hK (c_X9_in l D cI cJ cZ xo (0 : Int32) (9 : Int32)) va_P_nil (va_cwS 3 hts gX9_weather_X9_in rfl rfl rfl hd_X9_in ⟨(Nat.le_of_ble_eq_true rfl), (Nat.le_of_ble_eq_true rfl)⟩) rfl hl.1 rfl (Nat.le_of_ble_eq_true rfl) dX9_weather_14 (Nat.zero_le _) (Nat.zero_le _) ?_
    refine lv_if_ne (tgt := 23) hx hb dX9_weather_17 (by decide) (fun c17 => ?_) (fun c17 => ?_)
    · rw [if_neg c17] at hR
      refine lv_bipush (v := (10 : Int32)) hx hb dX9_weather_23 (by decide +kernel) ?_
      refine lv_aload_n hx hb dX9_weather_25 rfl (lv_at hl 0 rfl) ?_
      refine va_get (D := D) (ci := 9) (v := .ref mo_book_a) (C := RX9) (T := TX9) (N := 19) hx hb hts in_X9_weather_X9 hown hK.1 hP 0 rfl rfl 0 (by decide) hq0 (fun _ h9 => h9) rfl dX9_weather_26 ?_
      refine lv_bipush (v := (16 : Int32)) hx hb dX9_weather_29 (by decide +kernel) ?_
      refine ia_ld hx hb hK hP 1 rfl (i := 16) (by omega) (by decide) dX9_weather_31 ?_
      refine lv_imul hx hb dX9_weather_32 ?_
      refine lv_aload_n hx hb dX9_weather_33 rfl (lv_at hl 0 rfl) ?_
      refine va_get (D := D) (ci := 9) (v := .ref mo_book_a) (C := RX9) (T := TX9) (N := 19) hx hb hts in_X9_weather_X9 hown hK.1 hP 0 rfl rfl 0 (by decide) hq0 (fun _ h9 => h9) rfl dX9_weather_34 ?_
      refine lv_bipush (v := (17 : Int32)) hx hb dX9_weather_37 (by decide +kernel) ?_
      refine ia_ld hx hb hK hP 1 rfl (i := 17) (by omega) (by decide) dX9_weather_39 ?_
      refine lv_iadd hx hb dX9_weather_40 ?_
      refine lv_istore_n (lv' := [(3, .int (((10 : Int32) * (mo_book 16)) + (mo_book 17))), (0, .ref mo), (1, .int xw), (2, .int xo)]) hx hb dX9_weather_41 rfl hl (by decide) rfl (fun ls hl => ?_)
      refine lv_aload_n hx hb dX9_weather_42 rfl (lv_at hl 1 rfl) ?_
      refine va_get (D := D) (ci := 9) (v := .ref mo_book_a) (C := RX9) (T := TX9) (N := 19) hx hb hts in_X9_weather_X9 hown hK.1 hP 0 rfl rfl 0 (by decide) hq0 (fun _ h9 => h9) rfl dX9_weather_43 ?_
      refine lv_bipush (v := (16 : Int32)) hx hb dX9_weather_46 (by decide +kernel) ?_
      refine lv_iload_n hx hb dX9_weather_48 rfl (lv_at hl 2 rfl) ?_
      refine ia_st hx hb hK hP hD hS 1 rfl (i := 16) (by omega) (by decide) dX9_weather_49 (fun H locs hP hD hS => ?_)
      have hP : va_P D vwCl [(mo, .inr (9, [.ref mo_book_a, .ref mo_now_a, .int mo_there, .ref mo_beside_a, .int (nI mo_sights), .ref mo_sight_a, .int (nI mo_signs), .ref mo_pad_a, .int mo_heldAt, .int mo_heldThing, .int mo_reason, .int mo_acts, .ref mo_lefts_a, .ref mo_inWays_a, .ref mo_more_a, .ref mo_wins_a, .ref mo_been_a, .ref mo_image_a, .ref mo_isKept_a])), (mo_book_a, .inl (cI, 19, .inl (upd mo_book 16 xw))), (mo_now_a, .inl (cI, 19, .inl mo_now)), (mo_beside_a, .inl (cI, 7, .inl mo_beside)), (mo_sight_a, .inl (cI, 16, .inl mo_sight)), (mo_pad_a, .inl (cI, 60, .inl mo_pad)), (mo_lefts_a, .inl (cI, 256, .inl mo_lefts)), (mo_inWays_a, .inl (cI, 128, .inl mo_inWays)), (mo_more_a, .inl (cI, 128, .inl mo_more)), (mo_wins_a, .inl (cZ, 201, .inl mo_wins)), (mo_been_a, .inl (cJ, 9, .inr (.inl mo_been))), (mo_image_a, .inl (cI, 100, .inl mo_image)), (mo_isKept_a, .inl (cZ, 2, .inl mo_isKept))] H := hP
      have hD : va_D _ [(mo, .inr (9, [.ref mo_book_a, .ref mo_now_a, .int mo_there, .ref mo_beside_a, .int (nI mo_sights), .ref mo_sight_a, .int (nI mo_signs), .ref mo_pad_a, .int mo_heldAt, .int mo_heldThing, .int mo_reason, .int mo_acts, .ref mo_lefts_a, .ref mo_inWays_a, .ref mo_more_a, .ref mo_wins_a, .ref mo_been_a, .ref mo_image_a, .ref mo_isKept_a])), (mo_book_a, .inl (cI, 19, .inl (upd mo_book 16 xw))), (mo_now_a, .inl (cI, 19, .inl mo_now)), (mo_beside_a, .inl (cI, 7, .inl mo_beside)), (mo_sight_a, .inl (cI, 16, .inl mo_sight)), (mo_pad_a, .inl (cI, 60, .inl mo_pad)), (mo_lefts_a, .inl (cI, 256, .inl mo_lefts)), (mo_inWays_a, .inl (cI, 128, .inl mo_inWays)), (mo_more_a, .inl (cI, 128, .inl mo_more)), (mo_wins_a, .inl (cZ, 201, .inl mo_wins)), (mo_been_a, .inl (cJ, 9, .inr (.inl mo_been))), (mo_image_a, .inl (cI, 100, .inl mo_image)), (mo_isKept_a, .inl (cZ, 2, .inl mo_isKept))] := hD
      refine lv_aload_n hx hb dX9_weather_50 rfl (lv_at hl 1 rfl) ?_
      refine va_get (D := D) (ci := 9) (v := .ref mo_book_a) (C := RX9) (T := TX9) (N := 19) hx hb hts in_X9_weather_X9 hown hK.1 hP 0 rfl rfl 0 (by decide) hq0 (fun _ h9 => h9) rfl dX9_weather_51 ?_
      refine lv_bipush (v := (17 : Int32)) hx hb dX9_weather_54 (by decide +kernel) ?_
      refine lv_iload_n hx hb dX9_weather_56 rfl (lv_at hl 3 rfl) ?_
      refine ia_st hx hb hK hP hD hS 1 rfl (i := 17) (by omega) (by decide) dX9_weather_57 (fun H locs hP hD hS => ?_)
      have hP : va_P D vwCl [(mo, .inr (9, [.ref mo_book_a, .ref mo_now_a, .int mo_there, .ref mo_beside_a, .int (nI mo_sights), .ref mo_sight_a, .int (nI mo_signs), .ref mo_pad_a, .int mo_heldAt, .int mo_heldThing, .int mo_reason, .int mo_acts, .ref mo_lefts_a, .ref mo_inWays_a, .ref mo_more_a, .ref mo_wins_a, .ref mo_been_a, .ref mo_image_a, .ref mo_isKept_a])), (mo_book_a, .inl (cI, 19, .inl (upd (upd mo_book 16 xw) 17 xo))), (mo_now_a, .inl (cI, 19, .inl mo_now)), (mo_beside_a, .inl (cI, 7, .inl mo_beside)), (mo_sight_a, .inl (cI, 16, .inl mo_sight)), (mo_pad_a, .inl (cI, 60, .inl mo_pad)), (mo_lefts_a, .inl (cI, 256, .inl mo_lefts)), (mo_inWays_a, .inl (cI, 128, .inl mo_inWays)), (mo_more_a, .inl (cI, 128, .inl mo_more)), (mo_wins_a, .inl (cZ, 201, .inl mo_wins)), (mo_been_a, .inl (cJ, 9, .inr (.inl mo_been))), (mo_image_a, .inl (cI, 100, .inl mo_image)), (mo_isKept_a, .inl (cZ, 2, .inl mo_isKept))] H := hP
      have hD : va_D _ [(mo, .inr (9, [.ref mo_book_a, .ref mo_now_a, .int mo_there, .ref mo_beside_a, .int (nI mo_sights), .ref mo_sight_a, .int (nI mo_signs), .ref mo_pad_a, .int mo_heldAt, .int mo_heldThing, .int mo_reason, .int mo_acts, .ref mo_lefts_a, .ref mo_inWays_a, .ref mo_more_a, .ref mo_wins_a, .ref mo_been_a, .ref mo_image_a, .ref mo_isKept_a])), (mo_book_a, .inl (cI, 19, .inl (upd (upd mo_book 16 xw) 17 xo))), (mo_now_a, .inl (cI, 19, .inl mo_now)), (mo_beside_a, .inl (cI, 7, .inl mo_beside)), (mo_sight_a, .inl (cI, 16, .inl mo_sight)), (mo_pad_a, .inl (cI, 60, .inl mo_pad)), (mo_lefts_a, .inl (cI, 256, .inl mo_lefts)), (mo_inWays_a, .inl (cI, 128, .inl mo_inWays)), (mo_more_a, .inl (cI, 128, .inl mo_more)), (mo_wins_a, .inl (cZ, 201, .inl mo_wins)), (mo_been_a, .inl (cJ, 9, .inr (.inl mo_been))), (mo_image_a, .inl (cI, 100, .inl mo_image)), (mo_isKept_a, .inl (cZ, 2, .inl mo_isKept))] := hD
      refine lv_iload_n hx hb dX9_weather_58 rfl (lv_at hl 0 rfl) ?_
      obtain ⟨rfl, rfl⟩ := prodI2 hR
      exact rw_iret hx hb hr hlocks hP hS dX9_weather_59
    · rw [if_pos c17] at hR
      refine lv_bipush (v := (-2 : Int32)) hx hb dX9_weather_20 (by decide +kernel) ?_
      obtain ⟨rfl, rfl⟩ := prodI2 hR
      exact rw_iret hx hb hr hlocks hP hS dX9_weather_22


theorem in_X9_creed_X9 : ∀ w ∈ u_ws RX9 TX9 19, w ∈ wsX9_creed := by decide +kernel
def f_X9_creed (mo_book : Nat → Int32) (xt : Int32) : Int32 × (Nat → Int32) :=
  (if ((f_X9_in xt (0 : Int32) (255 : Int32)) = 0) then ((-2 : Int32), mo_book) else ((mo_book 15), (upd mo_book 15 xt)))
set_option maxHeartbeats 4000000 in
set_option maxRecDepth 100000 in
theorem c_X9_creed (l : Launch) (D : va_G) (cI cJ cZ : ClassId) (mo : Nat) (mo_book_a : Nat) (mo_now_a : Nat) (mo_there : Int32) (mo_beside_a : Nat) (mo_sights : Nat) (mo_sight_a : Nat) (mo_signs : Nat) (mo_pad_a : Nat) (mo_heldAt : Int32) (mo_heldThing : Int32) (mo_reason : Int32) (mo_acts : Int32) (mo_lefts_a : Nat) (mo_inWays_a : Nat) (mo_more_a : Nat) (mo_wins_a : Nat) (mo_been_a : Nat) (mo_image_a : Nat) (mo_isKept_a : Nat) (mo_book : Nat → Int32) (mo_now : Nat → Int32) (mo_beside : Nat → Int32) (mo_sight : Nat → Int32) (mo_pad : Nat → Int32) (mo_lefts : Nat → Int32) (mo_inWays : Nat → Int32) (mo_more : Nat → Int32) (mo_wins : Nat → Int32) (mo_been : Nat → Int64) (mo_image : Nat → Int32) (mo_isKept : Nat → Int32) (xt : Int32) : RW l yX9_creed wsX9_creed ({ frames := 1, cells := 0, slots := 0, locals := 22 }) [.ref mo, .int xt] D cI cJ cZ [(mo, .inr (9, [.ref mo_book_a, .ref mo_now_a, .int mo_there, .ref mo_beside_a, .int (nI mo_sights), .ref mo_sight_a, .int (nI mo_signs), .ref mo_pad_a, .int mo_heldAt, .int mo_heldThing, .int mo_reason, .int mo_acts, .ref mo_lefts_a, .ref mo_inWays_a, .ref mo_more_a, .ref mo_wins_a, .ref mo_been_a, .ref mo_image_a, .ref mo_isKept_a])), (mo_book_a, .inl (cI, 19, .inl mo_book)), (mo_now_a, .inl (cI, 19, .inl mo_now)), (mo_beside_a, .inl (cI, 7, .inl mo_beside)), (mo_sight_a, .inl (cI, 16, .inl mo_sight)), (mo_pad_a, .inl (cI, 60, .inl mo_pad)), (mo_lefts_a, .inl (cI, 256, .inl mo_lefts)), (mo_inWays_a, .inl (cI, 128, .inl mo_inWays)), (mo_more_a, .inl (cI, 128, .inl mo_more)), (mo_wins_a, .inl (cZ, 201, .inl mo_wins)), (mo_been_a, .inl (cJ, 9, .inr (.inl mo_been))), (mo_image_a, .inl (cI, 100, .inl mo_image)), (mo_isKept_a, .inl (cZ, 2, .inl mo_isKept))] (some (.int ((f_X9_creed mo_book xt).1))) [(mo, .inr (9, [.ref mo_book_a, .ref mo_now_a, .int mo_there, .ref mo_beside_a, .int (nI mo_sights), .ref mo_sight_a, .int (nI mo_signs), .ref mo_pad_a, .int mo_heldAt, .int mo_heldThing, .int mo_reason, .int mo_acts, .ref mo_lefts_a, .ref mo_inWays_a, .ref mo_more_a, .ref mo_wins_a, .ref mo_been_a, .ref mo_image_a, .ref mo_isKept_a])), (mo_book_a, .inl (cI, 19, .inl ((f_X9_creed mo_book xt).2))), (mo_now_a, .inl (cI, 19, .inl mo_now)), (mo_beside_a, .inl (cI, 7, .inl mo_beside)), (mo_sight_a, .inl (cI, 16, .inl mo_sight)), (mo_pad_a, .inl (cI, 60, .inl mo_pad)), (mo_lefts_a, .inl (cI, 256, .inl mo_lefts)), (mo_inWays_a, .inl (cI, 128, .inl mo_inWays)), (mo_more_a, .inl (cI, 128, .inl mo_more)), (mo_wins_a, .inl (cZ, 201, .inl mo_wins)), (mo_been_a, .inl (cJ, 9, .inr (.inl mo_been))), (mo_image_a, .inl (cI, 100, .inl mo_image)), (mo_isKept_a, .inl (cZ, 2, .inl mo_isKept))] := by
  obtain ⟨R0, R1, hR⟩ := prodE2 (f_X9_creed mo_book xt)
  rw [hR]
  dsimp only
  refine rw_start (cc := cX9_creed) (maxL := 3) (ret := (some .int)) (by decide) rfl (Nat.le_of_ble_eq_true rfl) ?_
  intro p e s m args below meth c hx hb hr hml hown hts hlocks hP hD hS hK ls hl
  have hown : s.vm.findClass RX9 = some m.cls := hown
  have hl : lv_has ls 3 [(0, .ref mo), (1, .int xt)] := hl
  have hq0 := hts (.fieldLink RX9 7 "StuckVanesModel" "book" "[I") (by decide +kernel)
  rw [f_X9_creed] at hR
  refine lv_iload_n hx hb dX9_creed_0 rfl (lv_at hl 1 rfl) ?_
  refine lv_iconst (v := (0 : Int32)) hx hb dX9_creed_1 (by decide) ?_
  refine lv_sipush (v := (255 : Int32)) hx hb dX9_creed_2 (by decide +kernel) ?_
  refine ro_S (As := [.int xt, .int (0 : Int32), .int (255 : Int32)]) (rest := []) ⟨hx, hb, hml, hown, hts⟩ hK (c_X9_in l D cI cJ cZ xt (0 : Int32) (255 : Int32)) va_P_nil (va_cwS 3 hts gX9_creed_X9_in rfl rfl rfl hd_X9_in ⟨(Nat.le_of_ble_eq_true rfl), (Nat.le_of_ble_eq_true rfl)⟩) rfl hl.1 rfl (Nat.le_of_ble_eq_true rfl) dX9_creed_5 (Nat.zero_le _) (Nat.zero_le _) ?_
  refine lv_if_ne (tgt := 14) hx hb dX9_creed_8 (by decide) (fun c8 => ?_) (fun c8 => ?_)
  · rw [if_neg c8] at hR
    refine lv_aload_n hx hb dX9_creed_14 rfl (lv_at hl 0 rfl) ?_
    refine va_get (D := D) (ci := 9) (v := .ref mo_book_a) (C := RX9) (T := TX9) (N := 19) hx hb hts in_X9_creed_X9 hown hK.1 hP 0 rfl rfl 0 (by decide) hq0 (fun _ h9 => h9) rfl dX9_creed_15 ?_
    refine lv_bipush (v := (15 : Int32)) hx hb dX9_creed_18 (by decide +kernel) ?_
    refine ia_ld hx hb hK hP 1 rfl (i := 15) (by omega) (by decide) dX9_creed_20 ?_
    refine lv_istore_n (lv' := [(2, .int (mo_book 15)), (0, .ref mo), (1, .int xt)]) hx hb dX9_creed_21 rfl hl (by decide) rfl (fun ls hl => ?_)
    refine lv_aload_n hx hb dX9_creed_22 rfl (lv_at hl 1 rfl) ?_
    refine va_get (D := D) (ci := 9) (v := .ref mo_book_a) (C := RX9) (T := TX9) (N := 19) hx hb hts in_X9_creed_X9 hown hK.1 hP 0 rfl rfl 0 (by decide) hq0 (fun _ h9 => h9) rfl dX9_creed_23 ?_
    refine lv_bipush (v := (15 : Int32)) hx hb dX9_creed_26 (by decide +kernel) ?_
    refine lv_iload_n hx hb dX9_creed_28 rfl (lv_at hl 2 rfl) ?_
    refine ia_st hx hb hK hP hD hS 1 rfl (i := 15) (by omega) (by decide) dX9_creed_29 (fun H locs hP hD hS => ?_)
    have hP : va_P D vwCl [(mo, .inr (9, [.ref mo_book_a, .ref mo_now_a, .int mo_there, .ref mo_beside_a, .int (nI mo_sights), .ref mo_sight_a, .int (nI mo_signs), .ref mo_pad_a, .int mo_heldAt, .int mo_heldThing, .int mo_reason, .int mo_acts, .ref mo_lefts_a, .ref mo_inWays_a, .ref mo_more_a, .ref mo_wins_a, .ref mo_been_a, .ref mo_image_a, .ref mo_isKept_a])), (mo_book_a, .inl (cI, 19, .inl (upd mo_book 15 xt))), (mo_now_a, .inl (cI, 19, .inl mo_now)), (mo_beside_a, .inl (cI, 7, .inl mo_beside)), (mo_sight_a, .inl (cI, 16, .inl mo_sight)), (mo_pad_a, .inl (cI, 60, .inl mo_pad)), (mo_lefts_a, .inl (cI, 256, .inl mo_lefts)), (mo_inWays_a, .inl (cI, 128, .inl mo_inWays)), (mo_more_a, .inl (cI, 128, .inl mo_more)), (mo_wins_a, .inl (cZ, 201, .inl mo_wins)), (mo_been_a, .inl (cJ, 9, .inr (.inl mo_been))), (mo_image_a, .inl (cI, 100, .inl mo_image)), (mo_isKept_a, .inl (cZ, 2, .inl mo_isKept))] H := hP
    have hD : va_D _ [(mo, .inr (9, [.ref mo_book_a, .ref mo_now_a, .int mo_there, .ref mo_beside_a, .int (nI mo_sights), .ref mo_sight_a, .int (nI mo_signs), .ref mo_pad_a, .int mo_heldAt, .int mo_heldThing, .int mo_reason, .int mo_acts, .ref mo_lefts_a, .ref mo_inWays_a, .ref mo_more_a, .ref mo_wins_a, .ref mo_been_a, .ref mo_image_a, .ref mo_isKept_a])), (mo_book_a, .inl (cI, 19, .inl (upd mo_book 15 xt))), (mo_now_a, .inl (cI, 19, .inl mo_now)), (mo_beside_a, .inl (cI, 7, .inl mo_beside)), (mo_sight_a, .inl (cI, 16, .inl mo_sight)), (mo_pad_a, .inl (cI, 60, .inl mo_pad)), (mo_lefts_a, .inl (cI, 256, .inl mo_lefts)), (mo_inWays_a, .inl (cI, 128, .inl mo_inWays)), (mo_more_a, .inl (cI, 128, .inl mo_more)), (mo_wins_a, .inl (cZ, 201, .inl mo_wins)), (mo_been_a, .inl (cJ, 9, .inr (.inl mo_been))), (mo_image_a, .inl (cI, 100, .inl mo_image)), (mo_isKept_a, .inl (cZ, 2, .inl mo_isKept))] := hD
    refine lv_iload_n hx hb dX9_creed_30 rfl (lv_at hl 0 rfl) ?_
    obtain ⟨rfl, rfl⟩ := prodI2 hR
    exact rw_iret hx hb hr hlocks hP hS dX9_creed_31
  · rw [if_pos c8] at hR
    refine lv_bipush (v := (-2 : Int32)) hx hb dX9_creed_11 (by decide +kernel) ?_
    obtain ⟨rfl, rfl⟩ := prodI2 hR
    exact rw_iret hx hb hr hlocks hP hS dX9_creed_13


theorem in_X9_say_X9 : ∀ w ∈ u_ws RX9 TX9 19, w ∈ wsX9_say := by decide +kernel
def f_X9_say (mo_signs : Nat) (mo_pad : Nat → Int32) (xs : Int32) : Int32 × Int32 × (Nat → Int32) :=
  (if ((f_X9_in xs (33 : Int32) (126 : Int32)) = 0) then ((-2 : Int32), (nI mo_signs), mo_pad) else (if ((nI mo_signs) = (60 : Int32)) then ((-4 : Int32), (nI mo_signs), mo_pad) else ((nI (mo_signs + 1)), (nI (mo_signs + 1)), (upd mo_pad mo_signs xs))))
set_option maxHeartbeats 4000000 in
set_option maxRecDepth 100000 in
theorem c_X9_say (l : Launch) (D : va_G) (cI cJ cZ : ClassId) (mo : Nat) (mo_book_a : Nat) (mo_now_a : Nat) (mo_there : Int32) (mo_beside_a : Nat) (mo_sights : Nat) (mo_sight_a : Nat) (mo_signs : Nat) (mo_pad_a : Nat) (mo_heldAt : Int32) (mo_heldThing : Int32) (mo_reason : Int32) (mo_acts : Int32) (mo_lefts_a : Nat) (mo_inWays_a : Nat) (mo_more_a : Nat) (mo_wins_a : Nat) (mo_been_a : Nat) (mo_image_a : Nat) (mo_isKept_a : Nat) (mo_book : Nat → Int32) (mo_now : Nat → Int32) (mo_beside : Nat → Int32) (mo_sight : Nat → Int32) (mo_pad : Nat → Int32) (mo_lefts : Nat → Int32) (mo_inWays : Nat → Int32) (mo_more : Nat → Int32) (mo_wins : Nat → Int32) (mo_been : Nat → Int64) (mo_image : Nat → Int32) (mo_isKept : Nat → Int32) (xs : Int32) (hsg : mo_signs ≤ 60) : RW l yX9_say wsX9_say ({ frames := 1, cells := 0, slots := 0, locals := 22 }) [.ref mo, .int xs] D cI cJ cZ [(mo, .inr (9, [.ref mo_book_a, .ref mo_now_a, .int mo_there, .ref mo_beside_a, .int (nI mo_sights), .ref mo_sight_a, .int (nI mo_signs), .ref mo_pad_a, .int mo_heldAt, .int mo_heldThing, .int mo_reason, .int mo_acts, .ref mo_lefts_a, .ref mo_inWays_a, .ref mo_more_a, .ref mo_wins_a, .ref mo_been_a, .ref mo_image_a, .ref mo_isKept_a])), (mo_book_a, .inl (cI, 19, .inl mo_book)), (mo_now_a, .inl (cI, 19, .inl mo_now)), (mo_beside_a, .inl (cI, 7, .inl mo_beside)), (mo_sight_a, .inl (cI, 16, .inl mo_sight)), (mo_pad_a, .inl (cI, 60, .inl mo_pad)), (mo_lefts_a, .inl (cI, 256, .inl mo_lefts)), (mo_inWays_a, .inl (cI, 128, .inl mo_inWays)), (mo_more_a, .inl (cI, 128, .inl mo_more)), (mo_wins_a, .inl (cZ, 201, .inl mo_wins)), (mo_been_a, .inl (cJ, 9, .inr (.inl mo_been))), (mo_image_a, .inl (cI, 100, .inl mo_image)), (mo_isKept_a, .inl (cZ, 2, .inl mo_isKept))] (some (.int ((f_X9_say mo_signs mo_pad xs).1))) [(mo, .inr (9, [.ref mo_book_a, .ref mo_now_a, .int mo_there, .ref mo_beside_a, .int (nI mo_sights), .ref mo_sight_a, .int ((f_X9_say mo_signs mo_pad xs).2.1), .ref mo_pad_a, .int mo_heldAt, .int mo_heldThing, .int mo_reason, .int mo_acts, .ref mo_lefts_a, .ref mo_inWays_a, .ref mo_more_a, .ref mo_wins_a, .ref mo_been_a, .ref mo_image_a, .ref mo_isKept_a])), (mo_book_a, .inl (cI, 19, .inl mo_book)), (mo_now_a, .inl (cI, 19, .inl mo_now)), (mo_beside_a, .inl (cI, 7, .inl mo_beside)), (mo_sight_a, .inl (cI, 16, .inl mo_sight)), (mo_pad_a, .inl (cI, 60, .inl ((f_X9_say mo_signs mo_pad xs).2.2))), (mo_lefts_a, .inl (cI, 256, .inl mo_lefts)), (mo_inWays_a, .inl (cI, 128, .inl mo_inWays)), (mo_more_a, .inl (cI, 128, .inl mo_more)), (mo_wins_a, .inl (cZ, 201, .inl mo_wins)), (mo_been_a, .inl (cJ, 9, .inr (.inl mo_been))), (mo_image_a, .inl (cI, 100, .inl mo_image)), (mo_isKept_a, .inl (cZ, 2, .inl mo_isKept))] := by
  obtain ⟨R0, R1, R2, hR⟩ := prodE3 (f_X9_say mo_signs mo_pad xs)
  rw [hR]
  dsimp only
  refine rw_start (cc := cX9_say) (maxL := 2) (ret := (some .int)) (by decide) rfl (Nat.le_of_ble_eq_true rfl) ?_
  intro p e s m args below meth c hx hb hr hml hown hts hlocks hP hD hS hK ls hl
  have hown : s.vm.findClass RX9 = some m.cls := hown
  have hl : lv_has ls 2 [(0, .ref mo), (1, .int xs)] := hl
  have hq0 := hts (.fieldLink RX9 64 "StuckVanesModel" "signs" "I") (by decide +kernel)
  have hq1 := hts (.fieldLink RX9 22 "StuckVanesModel" "pad" "[I") (by decide +kernel)
  rw [f_X9_say] at hR
  refine lv_iload_n hx hb dX9_say_0 rfl (lv_at hl 1 rfl) ?_
  refine lv_bipush (v := (33 : Int32)) hx hb dX9_say_1 (by decide +kernel) ?_
  refine lv_bipush (v := (126 : Int32)) hx hb dX9_say_3 (by decide +kernel) ?_
  refine ro_S (As := [.int xs, .int (33 : Int32), .int (126 : Int32)]) (rest := []) ⟨hx, hb, hml, hown, hts⟩ hK (c_X9_in l D cI cJ cZ xs (33 : Int32) (126 : Int32)) va_P_nil (va_cwS 3 hts gX9_say_X9_in rfl rfl rfl hd_X9_in ⟨(Nat.le_of_ble_eq_true rfl), (Nat.le_of_ble_eq_true rfl)⟩) rfl hl.1 rfl (Nat.le_of_ble_eq_true rfl) dX9_say_5 (Nat.zero_le _) (Nat.zero_le _) ?_
  refine lv_if_ne (tgt := 14) hx hb dX9_say_8 (by decide) (fun c8 => ?_) (fun c8 => ?_)
  · rw [if_neg c8] at hR
    refine lv_aload_n hx hb dX9_say_14 rfl (lv_at hl 0 rfl) ?_
    refine va_get (D := D) (ci := 9) (v := .int (nI mo_signs)) (C := RX9) (T := TX9) (N := 19) hx hb hts in_X9_say_X9 hown hK.1 hP 0 rfl rfl 6 (by decide) hq0 (fun _ h9 => h9) rfl dX9_say_15 ?_
    refine lv_bipush (v := (60 : Int32)) hx hb dX9_say_18 (by decide +kernel) ?_
    refine lv_icmp_ne (tgt := 26) hx hb dX9_say_20 (by decide) (fun c20 => ?_) (fun c20 => ?_)
    · rw [if_neg c20] at hR
      refine lv_aload_n hx hb dX9_say_26 rfl (lv_at hl 0 rfl) ?_
      refine va_get (D := D) (ci := 9) (v := .ref mo_pad_a) (C := RX9) (T := TX9) (N := 19) hx hb hts in_X9_say_X9 hown hK.1 hP 0 rfl rfl 7 (by decide) hq1 (fun _ h9 => h9) rfl dX9_say_27 ?_
      refine lv_aload_n hx hb dX9_say_30 rfl (lv_at hl 0 rfl) ?_
      refine va_get (D := D) (ci := 9) (v := .int (nI mo_signs)) (C := RX9) (T := TX9) (N := 19) hx hb hts in_X9_say_X9 hown hK.1 hP 0 rfl rfl 6 (by decide) hq0 (fun _ h9 => h9) rfl dX9_say_31 ?_
      refine lv_iload_n hx hb dX9_say_34 rfl (lv_at hl 1 rfl) ?_
      refine ia_st hx hb hK hP hD hS 5 rfl (i := mo_signs) (by have := of_ne (a := mo_signs) (b := 60) c20; omega) (by decide) dX9_say_35 (fun H locs hP hD hS => ?_)
      have hP : va_P D vwCl [(mo, .inr (9, [.ref mo_book_a, .ref mo_now_a, .int mo_there, .ref mo_beside_a, .int (nI mo_sights), .ref mo_sight_a, .int (nI mo_signs), .ref mo_pad_a, .int mo_heldAt, .int mo_heldThing, .int mo_reason, .int mo_acts, .ref mo_lefts_a, .ref mo_inWays_a, .ref mo_more_a, .ref mo_wins_a, .ref mo_been_a, .ref mo_image_a, .ref mo_isKept_a])), (mo_book_a, .inl (cI, 19, .inl mo_book)), (mo_now_a, .inl (cI, 19, .inl mo_now)), (mo_beside_a, .inl (cI, 7, .inl mo_beside)), (mo_sight_a, .inl (cI, 16, .inl mo_sight)), (mo_pad_a, .inl (cI, 60, .inl (upd mo_pad mo_signs xs))), (mo_lefts_a, .inl (cI, 256, .inl mo_lefts)), (mo_inWays_a, .inl (cI, 128, .inl mo_inWays)), (mo_more_a, .inl (cI, 128, .inl mo_more)), (mo_wins_a, .inl (cZ, 201, .inl mo_wins)), (mo_been_a, .inl (cJ, 9, .inr (.inl mo_been))), (mo_image_a, .inl (cI, 100, .inl mo_image)), (mo_isKept_a, .inl (cZ, 2, .inl mo_isKept))] H := hP
      have hD : va_D _ [(mo, .inr (9, [.ref mo_book_a, .ref mo_now_a, .int mo_there, .ref mo_beside_a, .int (nI mo_sights), .ref mo_sight_a, .int (nI mo_signs), .ref mo_pad_a, .int mo_heldAt, .int mo_heldThing, .int mo_reason, .int mo_acts, .ref mo_lefts_a, .ref mo_inWays_a, .ref mo_more_a, .ref mo_wins_a, .ref mo_been_a, .ref mo_image_a, .ref mo_isKept_a])), (mo_book_a, .inl (cI, 19, .inl mo_book)), (mo_now_a, .inl (cI, 19, .inl mo_now)), (mo_beside_a, .inl (cI, 7, .inl mo_beside)), (mo_sight_a, .inl (cI, 16, .inl mo_sight)), (mo_pad_a, .inl (cI, 60, .inl (upd mo_pad mo_signs xs))), (mo_lefts_a, .inl (cI, 256, .inl mo_lefts)), (mo_inWays_a, .inl (cI, 128, .inl mo_inWays)), (mo_more_a, .inl (cI, 128, .inl mo_more)), (mo_wins_a, .inl (cZ, 201, .inl mo_wins)), (mo_been_a, .inl (cJ, 9, .inr (.inl mo_been))), (mo_image_a, .inl (cI, 100, .inl mo_image)), (mo_isKept_a, .inl (cZ, 2, .inl mo_isKept))] := hD
      refine lv_aload_n hx hb dX9_say_36 rfl (lv_at hl 0 rfl) ?_
      refine lv_dup hx hb dX9_say_37 rfl ?_
      refine va_get (D := D) (ci := 9) (v := .int (nI mo_signs)) (C := RX9) (T := TX9) (N := 19) hx hb hts in_X9_say_X9 hown hK.1 hP 0 rfl rfl 6 (by decide) hq0 (fun _ h9 => h9) rfl dX9_say_38 ?_
      refine lv_iconst (v := (1 : Int32)) hx hb dX9_say_41 (by decide) ?_
      refine lv_iadd hx hb dX9_say_42 ?_
      rw [show ((nI mo_signs) + (1 : Int32)) = (nI (mo_signs + 1)) from nI_add mo_signs 1]
      refine va_put (D := D) (ci := 9) (v := .int (nI (mo_signs + 1))) (ty := .int) (C := RX9) (T := TX9) (N := 19) hx hb hts in_X9_say_X9 tyX9 tyX9_ok nmX9 hown hK.1 hP hD hS 0 rfl rfl 6 (by decide) hq0 (fun _ h9 => h9) rfl (by decide +kernel) rfl rfl (Nat.le_of_ble_eq_true rfl) dX9_say_43 (fun H locs hP hD hS => ?_)
      have hP : va_P D vwCl [(mo, .inr (9, [.ref mo_book_a, .ref mo_now_a, .int mo_there, .ref mo_beside_a, .int (nI mo_sights), .ref mo_sight_a, .int (nI (mo_signs + 1)), .ref mo_pad_a, .int mo_heldAt, .int mo_heldThing, .int mo_reason, .int mo_acts, .ref mo_lefts_a, .ref mo_inWays_a, .ref mo_more_a, .ref mo_wins_a, .ref mo_been_a, .ref mo_image_a, .ref mo_isKept_a])), (mo_book_a, .inl (cI, 19, .inl mo_book)), (mo_now_a, .inl (cI, 19, .inl mo_now)), (mo_beside_a, .inl (cI, 7, .inl mo_beside)), (mo_sight_a, .inl (cI, 16, .inl mo_sight)), (mo_pad_a, .inl (cI, 60, .inl (upd mo_pad mo_signs xs))), (mo_lefts_a, .inl (cI, 256, .inl mo_lefts)), (mo_inWays_a, .inl (cI, 128, .inl mo_inWays)), (mo_more_a, .inl (cI, 128, .inl mo_more)), (mo_wins_a, .inl (cZ, 201, .inl mo_wins)), (mo_been_a, .inl (cJ, 9, .inr (.inl mo_been))), (mo_image_a, .inl (cI, 100, .inl mo_image)), (mo_isKept_a, .inl (cZ, 2, .inl mo_isKept))] H := hP
      have hD : va_D _ [(mo, .inr (9, [.ref mo_book_a, .ref mo_now_a, .int mo_there, .ref mo_beside_a, .int (nI mo_sights), .ref mo_sight_a, .int (nI (mo_signs + 1)), .ref mo_pad_a, .int mo_heldAt, .int mo_heldThing, .int mo_reason, .int mo_acts, .ref mo_lefts_a, .ref mo_inWays_a, .ref mo_more_a, .ref mo_wins_a, .ref mo_been_a, .ref mo_image_a, .ref mo_isKept_a])), (mo_book_a, .inl (cI, 19, .inl mo_book)), (mo_now_a, .inl (cI, 19, .inl mo_now)), (mo_beside_a, .inl (cI, 7, .inl mo_beside)), (mo_sight_a, .inl (cI, 16, .inl mo_sight)), (mo_pad_a, .inl (cI, 60, .inl (upd mo_pad mo_signs xs))), (mo_lefts_a, .inl (cI, 256, .inl mo_lefts)), (mo_inWays_a, .inl (cI, 128, .inl mo_inWays)), (mo_more_a, .inl (cI, 128, .inl mo_more)), (mo_wins_a, .inl (cZ, 201, .inl mo_wins)), (mo_been_a, .inl (cJ, 9, .inr (.inl mo_been))), (mo_image_a, .inl (cI, 100, .inl mo_image)), (mo_isKept_a, .inl (cZ, 2, .inl mo_isKept))] := hD
      refine lv_aload_n hx hb dX9_say_46 rfl (lv_at hl 0 rfl) ?_
      refine va_get (D := D) (ci := 9) (v := .int (nI (mo_signs + 1))) (C := RX9) (T := TX9) (N := 19) hx hb hts in_X9_say_X9 hown hK.1 hP 0 rfl rfl 6 (by decide) hq0 (fun _ h9 => h9) rfl dX9_say_47 ?_
      obtain ⟨rfl, rfl, rfl⟩ := prodI3 hR
      exact rw_iret hx hb hr hlocks hP hS dX9_say_50
    · rw [if_pos c20] at hR
      refine lv_bipush (v := (-4 : Int32)) hx hb dX9_say_23 (by decide +kernel) ?_
      obtain ⟨rfl, rfl, rfl⟩ := prodI3 hR
      exact rw_iret hx hb hr hlocks hP hS dX9_say_25
  · rw [if_pos c8] at hR
    refine lv_bipush (v := (-2 : Int32)) hx hb dX9_say_11 (by decide +kernel) ?_
    obtain ⟨rfl, rfl, rfl⟩ := prodI3 hR
    exact rw_iret hx hb hr hlocks hP hS dX9_say_13


theorem in_X9_wipe_X9 : ∀ w ∈ u_ws RX9 TX9 19, w ∈ wsX9_wipe := by decide +kernel
def f_X9_wipe (mo_signs : Nat) : Int32 × Int32 :=
  ((nI mo_signs), (0 : Int32))
set_option maxHeartbeats 4000000 in
set_option maxRecDepth 100000 in
theorem c_X9_wipe (l : Launch) (D : va_G) (cI cJ cZ : ClassId) (mo : Nat) (mo_book_a : Nat) (mo_now_a : Nat) (mo_there : Int32) (mo_beside_a : Nat) (mo_sights : Nat) (mo_sight_a : Nat) (mo_signs : Nat) (mo_pad_a : Nat) (mo_heldAt : Int32) (mo_heldThing : Int32) (mo_reason : Int32) (mo_acts : Int32) (mo_lefts_a : Nat) (mo_inWays_a : Nat) (mo_more_a : Nat) (mo_wins_a : Nat) (mo_been_a : Nat) (mo_image_a : Nat) (mo_isKept_a : Nat) (mo_book : Nat → Int32) (mo_now : Nat → Int32) (mo_beside : Nat → Int32) (mo_sight : Nat → Int32) (mo_pad : Nat → Int32) (mo_lefts : Nat → Int32) (mo_inWays : Nat → Int32) (mo_more : Nat → Int32) (mo_wins : Nat → Int32) (mo_been : Nat → Int64) (mo_image : Nat → Int32) (mo_isKept : Nat → Int32) : RW l yX9_wipe wsX9_wipe ({ frames := 0, cells := 0, slots := 0, locals := 0 }) [.ref mo] D cI cJ cZ [(mo, .inr (9, [.ref mo_book_a, .ref mo_now_a, .int mo_there, .ref mo_beside_a, .int (nI mo_sights), .ref mo_sight_a, .int (nI mo_signs), .ref mo_pad_a, .int mo_heldAt, .int mo_heldThing, .int mo_reason, .int mo_acts, .ref mo_lefts_a, .ref mo_inWays_a, .ref mo_more_a, .ref mo_wins_a, .ref mo_been_a, .ref mo_image_a, .ref mo_isKept_a])), (mo_book_a, .inl (cI, 19, .inl mo_book)), (mo_now_a, .inl (cI, 19, .inl mo_now)), (mo_beside_a, .inl (cI, 7, .inl mo_beside)), (mo_sight_a, .inl (cI, 16, .inl mo_sight)), (mo_pad_a, .inl (cI, 60, .inl mo_pad)), (mo_lefts_a, .inl (cI, 256, .inl mo_lefts)), (mo_inWays_a, .inl (cI, 128, .inl mo_inWays)), (mo_more_a, .inl (cI, 128, .inl mo_more)), (mo_wins_a, .inl (cZ, 201, .inl mo_wins)), (mo_been_a, .inl (cJ, 9, .inr (.inl mo_been))), (mo_image_a, .inl (cI, 100, .inl mo_image)), (mo_isKept_a, .inl (cZ, 2, .inl mo_isKept))] (some (.int ((f_X9_wipe mo_signs).1))) [(mo, .inr (9, [.ref mo_book_a, .ref mo_now_a, .int mo_there, .ref mo_beside_a, .int (nI mo_sights), .ref mo_sight_a, .int ((f_X9_wipe mo_signs).2), .ref mo_pad_a, .int mo_heldAt, .int mo_heldThing, .int mo_reason, .int mo_acts, .ref mo_lefts_a, .ref mo_inWays_a, .ref mo_more_a, .ref mo_wins_a, .ref mo_been_a, .ref mo_image_a, .ref mo_isKept_a])), (mo_book_a, .inl (cI, 19, .inl mo_book)), (mo_now_a, .inl (cI, 19, .inl mo_now)), (mo_beside_a, .inl (cI, 7, .inl mo_beside)), (mo_sight_a, .inl (cI, 16, .inl mo_sight)), (mo_pad_a, .inl (cI, 60, .inl mo_pad)), (mo_lefts_a, .inl (cI, 256, .inl mo_lefts)), (mo_inWays_a, .inl (cI, 128, .inl mo_inWays)), (mo_more_a, .inl (cI, 128, .inl mo_more)), (mo_wins_a, .inl (cZ, 201, .inl mo_wins)), (mo_been_a, .inl (cJ, 9, .inr (.inl mo_been))), (mo_image_a, .inl (cI, 100, .inl mo_image)), (mo_isKept_a, .inl (cZ, 2, .inl mo_isKept))] := by
  obtain ⟨R0, R1, hR⟩ := prodE2 (f_X9_wipe mo_signs)
  rw [hR]
  dsimp only
  refine rw_start (cc := cX9_wipe) (maxL := 2) (ret := (some .int)) (by decide) rfl (Nat.le_of_ble_eq_true rfl) ?_
  intro p e s m args below meth c hx hb hr hml hown hts hlocks hP hD hS hK ls hl
  have hown : s.vm.findClass RX9 = some m.cls := hown
  have hl : lv_has ls 2 [(0, .ref mo)] := hl
  have hq0 := hts (.fieldLink RX9 64 "StuckVanesModel" "signs" "I") (by decide +kernel)
  rw [f_X9_wipe] at hR
  refine lv_aload_n hx hb dX9_wipe_0 rfl (lv_at hl 0 rfl) ?_
  refine va_get (D := D) (ci := 9) (v := .int (nI mo_signs)) (C := RX9) (T := TX9) (N := 19) hx hb hts in_X9_wipe_X9 hown hK.1 hP 0 rfl rfl 6 (by decide) hq0 (fun _ h9 => h9) rfl dX9_wipe_1 ?_
  refine lv_istore_n (lv' := [(1, .int (nI mo_signs)), (0, .ref mo)]) hx hb dX9_wipe_4 rfl hl (by decide) rfl (fun ls hl => ?_)
  refine lv_aload_n hx hb dX9_wipe_5 rfl (lv_at hl 1 rfl) ?_
  refine lv_iconst (v := (0 : Int32)) hx hb dX9_wipe_6 (by decide) ?_
  refine va_put (D := D) (ci := 9) (v := .int (0 : Int32)) (ty := .int) (C := RX9) (T := TX9) (N := 19) hx hb hts in_X9_wipe_X9 tyX9 tyX9_ok nmX9 hown hK.1 hP hD hS 0 rfl rfl 6 (by decide) hq0 (fun _ h9 => h9) rfl (by decide +kernel) rfl rfl (Nat.le_of_ble_eq_true rfl) dX9_wipe_7 (fun H locs hP hD hS => ?_)
  have hP : va_P D vwCl [(mo, .inr (9, [.ref mo_book_a, .ref mo_now_a, .int mo_there, .ref mo_beside_a, .int (nI mo_sights), .ref mo_sight_a, .int (0 : Int32), .ref mo_pad_a, .int mo_heldAt, .int mo_heldThing, .int mo_reason, .int mo_acts, .ref mo_lefts_a, .ref mo_inWays_a, .ref mo_more_a, .ref mo_wins_a, .ref mo_been_a, .ref mo_image_a, .ref mo_isKept_a])), (mo_book_a, .inl (cI, 19, .inl mo_book)), (mo_now_a, .inl (cI, 19, .inl mo_now)), (mo_beside_a, .inl (cI, 7, .inl mo_beside)), (mo_sight_a, .inl (cI, 16, .inl mo_sight)), (mo_pad_a, .inl (cI, 60, .inl mo_pad)), (mo_lefts_a, .inl (cI, 256, .inl mo_lefts)), (mo_inWays_a, .inl (cI, 128, .inl mo_inWays)), (mo_more_a, .inl (cI, 128, .inl mo_more)), (mo_wins_a, .inl (cZ, 201, .inl mo_wins)), (mo_been_a, .inl (cJ, 9, .inr (.inl mo_been))), (mo_image_a, .inl (cI, 100, .inl mo_image)), (mo_isKept_a, .inl (cZ, 2, .inl mo_isKept))] H := hP
  have hD : va_D _ [(mo, .inr (9, [.ref mo_book_a, .ref mo_now_a, .int mo_there, .ref mo_beside_a, .int (nI mo_sights), .ref mo_sight_a, .int (0 : Int32), .ref mo_pad_a, .int mo_heldAt, .int mo_heldThing, .int mo_reason, .int mo_acts, .ref mo_lefts_a, .ref mo_inWays_a, .ref mo_more_a, .ref mo_wins_a, .ref mo_been_a, .ref mo_image_a, .ref mo_isKept_a])), (mo_book_a, .inl (cI, 19, .inl mo_book)), (mo_now_a, .inl (cI, 19, .inl mo_now)), (mo_beside_a, .inl (cI, 7, .inl mo_beside)), (mo_sight_a, .inl (cI, 16, .inl mo_sight)), (mo_pad_a, .inl (cI, 60, .inl mo_pad)), (mo_lefts_a, .inl (cI, 256, .inl mo_lefts)), (mo_inWays_a, .inl (cI, 128, .inl mo_inWays)), (mo_more_a, .inl (cI, 128, .inl mo_more)), (mo_wins_a, .inl (cZ, 201, .inl mo_wins)), (mo_been_a, .inl (cJ, 9, .inr (.inl mo_been))), (mo_image_a, .inl (cI, 100, .inl mo_image)), (mo_isKept_a, .inl (cZ, 2, .inl mo_isKept))] := hD
  refine lv_iload_n hx hb dX9_wipe_10 rfl (lv_at hl 0 rfl) ?_
  obtain ⟨rfl, rfl⟩ := prodI2 hR
  exact rw_iret hx hb hr hlocks hP hS dX9_wipe_11


theorem in_X9_faultOf_X9 : ∀ w ∈ u_ws RX9 TX9 19, w ∈ wsX9_faultOf := by decide +kernel
def lp_X9_faultOf_4 (mo_signs : Nat) (mo_pad : Nat → Int32) : Nat → Nat → Int32 → Int32
  | 0, _, v1_4 => (if (v1_4 = 0) then (-6 : Int32) else (nI mo_signs))
  | k4 + 1, i4, v1_4 => (if ((mo_pad i4) = (119 : Int32)) then (if (v1_4 = 0) then (if ((f_X9_in (mo_pad i4) (65 : Int32) (71 : Int32)) = 0) then (if (v1_4 ≤ 0) then (lp_X9_faultOf_4 mo_signs mo_pad k4 (i4 + 1) (2 : Int32)) else (lp_X9_faultOf_4 mo_signs mo_pad k4 (i4 + 1) (0 : Int32))) else (if (v1_4 ≤ 0) then (lp_X9_faultOf_4 mo_signs mo_pad k4 (i4 + 1) (1 : Int32)) else (lp_X9_faultOf_4 mo_signs mo_pad k4 (i4 + 1) (0 : Int32)))) else (if ((f_X9_in (mo_pad i4) (48 : Int32) (55 : Int32)) = 0) then (if (v1_4 = (1 : Int32)) then (if ((mo_pad i4) = (42 : Int32)) then (if (v1_4 ≤ 0) then (if ((f_X9_in (mo_pad i4) (65 : Int32) (71 : Int32)) = 0) then (lp_X9_faultOf_4 mo_signs mo_pad k4 (i4 + 1) (2 : Int32)) else (lp_X9_faultOf_4 mo_signs mo_pad k4 (i4 + 1) (1 : Int32))) else (lp_X9_faultOf_4 mo_signs mo_pad k4 (i4 + 1) (0 : Int32))) else (if ((mo_pad i4) = (35 : Int32)) then (if (v1_4 ≤ 0) then (if ((f_X9_in (mo_pad i4) (65 : Int32) (71 : Int32)) = 0) then (lp_X9_faultOf_4 mo_signs mo_pad k4 (i4 + 1) (2 : Int32)) else (lp_X9_faultOf_4 mo_signs mo_pad k4 (i4 + 1) (1 : Int32))) else (lp_X9_faultOf_4 mo_signs mo_pad k4 (i4 + 1) (0 : Int32))) else (nI i4))) else (nI i4)) else (if (v1_4 ≤ 0) then (if ((f_X9_in (mo_pad i4) (65 : Int32) (71 : Int32)) = 0) then (lp_X9_faultOf_4 mo_signs mo_pad k4 (i4 + 1) (2 : Int32)) else (lp_X9_faultOf_4 mo_signs mo_pad k4 (i4 + 1) (1 : Int32))) else (lp_X9_faultOf_4 mo_signs mo_pad k4 (i4 + 1) (0 : Int32))))) else (if ((mo_pad i4) = (118 : Int32)) then (if (v1_4 = 0) then (if ((f_X9_in (mo_pad i4) (65 : Int32) (71 : Int32)) = 0) then (if (v1_4 ≤ 0) then (lp_X9_faultOf_4 mo_signs mo_pad k4 (i4 + 1) (2 : Int32)) else (lp_X9_faultOf_4 mo_signs mo_pad k4 (i4 + 1) (0 : Int32))) else (if (v1_4 ≤ 0) then (lp_X9_faultOf_4 mo_signs mo_pad k4 (i4 + 1) (1 : Int32)) else (lp_X9_faultOf_4 mo_signs mo_pad k4 (i4 + 1) (0 : Int32)))) else (if ((f_X9_in (mo_pad i4) (48 : Int32) (55 : Int32)) = 0) then (if (v1_4 = (1 : Int32)) then (if ((mo_pad i4) = (42 : Int32)) then (if (v1_4 ≤ 0) then (if ((f_X9_in (mo_pad i4) (65 : Int32) (71 : Int32)) = 0) then (lp_X9_faultOf_4 mo_signs mo_pad k4 (i4 + 1) (2 : Int32)) else (lp_X9_faultOf_4 mo_signs mo_pad k4 (i4 + 1) (1 : Int32))) else (lp_X9_faultOf_4 mo_signs mo_pad k4 (i4 + 1) (0 : Int32))) else (if ((mo_pad i4) = (35 : Int32)) then (if (v1_4 ≤ 0) then (if ((f_X9_in (mo_pad i4) (65 : Int32) (71 : Int32)) = 0) then (lp_X9_faultOf_4 mo_signs mo_pad k4 (i4 + 1) (2 : Int32)) else (lp_X9_faultOf_4 mo_signs mo_pad k4 (i4 + 1) (1 : Int32))) else (lp_X9_faultOf_4 mo_signs mo_pad k4 (i4 + 1) (0 : Int32))) else (nI i4))) else (nI i4)) else (if (v1_4 ≤ 0) then (if ((f_X9_in (mo_pad i4) (65 : Int32) (71 : Int32)) = 0) then (lp_X9_faultOf_4 mo_signs mo_pad k4 (i4 + 1) (2 : Int32)) else (lp_X9_faultOf_4 mo_signs mo_pad k4 (i4 + 1) (1 : Int32))) else (lp_X9_faultOf_4 mo_signs mo_pad k4 (i4 + 1) (0 : Int32))))) else (if (v1_4 = 0) then (if ((f_X9_in (mo_pad i4) (65 : Int32) (71 : Int32)) = 0) then (if ((mo_pad i4) = (46 : Int32)) then (lp_X9_faultOf_4 mo_signs mo_pad k4 (i4 + 1) (0 : Int32)) else (nI i4)) else (if (v1_4 ≤ 0) then (lp_X9_faultOf_4 mo_signs mo_pad k4 (i4 + 1) (1 : Int32)) else (lp_X9_faultOf_4 mo_signs mo_pad k4 (i4 + 1) (0 : Int32)))) else (if ((f_X9_in (mo_pad i4) (48 : Int32) (55 : Int32)) = 0) then (if (v1_4 = (1 : Int32)) then (if ((mo_pad i4) = (42 : Int32)) then (if (v1_4 ≤ 0) then (if ((f_X9_in (mo_pad i4) (65 : Int32) (71 : Int32)) = 0) then (lp_X9_faultOf_4 mo_signs mo_pad k4 (i4 + 1) (0 : Int32)) else (lp_X9_faultOf_4 mo_signs mo_pad k4 (i4 + 1) (1 : Int32))) else (lp_X9_faultOf_4 mo_signs mo_pad k4 (i4 + 1) (0 : Int32))) else (if ((mo_pad i4) = (35 : Int32)) then (if (v1_4 ≤ 0) then (if ((f_X9_in (mo_pad i4) (65 : Int32) (71 : Int32)) = 0) then (lp_X9_faultOf_4 mo_signs mo_pad k4 (i4 + 1) (0 : Int32)) else (lp_X9_faultOf_4 mo_signs mo_pad k4 (i4 + 1) (1 : Int32))) else (lp_X9_faultOf_4 mo_signs mo_pad k4 (i4 + 1) (0 : Int32))) else (nI i4))) else (nI i4)) else (if (v1_4 ≤ 0) then (if ((f_X9_in (mo_pad i4) (65 : Int32) (71 : Int32)) = 0) then (lp_X9_faultOf_4 mo_signs mo_pad k4 (i4 + 1) (0 : Int32)) else (lp_X9_faultOf_4 mo_signs mo_pad k4 (i4 + 1) (1 : Int32))) else (lp_X9_faultOf_4 mo_signs mo_pad k4 (i4 + 1) (0 : Int32)))))))
def f_X9_faultOf (mo_signs : Nat) (mo_pad : Nat → Int32) : Int32 :=
  (lp_X9_faultOf_4 mo_signs mo_pad mo_signs 0 (0 : Int32))
set_option maxHeartbeats 4000000 in
set_option maxRecDepth 100000 in
theorem c_X9_faultOf (l : Launch) (D : va_G) (cI cJ cZ : ClassId) (mo : Nat) (mo_book_a : Nat) (mo_now_a : Nat) (mo_there : Int32) (mo_beside_a : Nat) (mo_sights : Int32) (mo_sight_a : Nat) (mo_signs : Nat) (mo_pad_a : Nat) (mo_heldAt : Int32) (mo_heldThing : Int32) (mo_reason : Int32) (mo_acts : Int32) (mo_lefts_a : Nat) (mo_inWays_a : Nat) (mo_more_a : Nat) (mo_wins_a : Nat) (mo_been_a : Nat) (mo_image_a : Nat) (mo_isKept_a : Nat) (mo_pad : Nat → Int32) (hsg : mo_signs ≤ 60) : RO l yX9_faultOf wsX9_faultOf ({ frames := 1, cells := 0, slots := 0, locals := 22 }) [.ref mo] D cI cJ cZ [(mo, .inr (9, [.ref mo_book_a, .ref mo_now_a, .int mo_there, .ref mo_beside_a, .int mo_sights, .ref mo_sight_a, .int (nI mo_signs), .ref mo_pad_a, .int mo_heldAt, .int mo_heldThing, .int mo_reason, .int mo_acts, .ref mo_lefts_a, .ref mo_inWays_a, .ref mo_more_a, .ref mo_wins_a, .ref mo_been_a, .ref mo_image_a, .ref mo_isKept_a])), (mo_pad_a, .inl (cI, 60, .inl mo_pad))] (.int (f_X9_faultOf mo_signs mo_pad)) := by
  obtain ⟨R, hR⟩ : ∃ R, (f_X9_faultOf mo_signs mo_pad) = R := ⟨_, rfl⟩
  rw [hR]
  refine ro_start (cc := cX9_faultOf) (maxL := 8) (ret := (some .int)) (by decide) rfl (Nat.le_of_ble_eq_true rfl) ?_
  intro p e s m args below meth c hx hb hr hml hown hts hlocks hP hK ls hl
  have hown : s.vm.findClass RX9 = some m.cls := hown
  have hl : lv_has ls 8 [(0, .ref mo)] := hl
  have hq0 := hts (.fieldLink RX9 64 "StuckVanesModel" "signs" "I") (by decide +kernel)
  have hq1 := hts (.fieldLink RX9 22 "StuckVanesModel" "pad" "[I") (by decide +kernel)
  rw [f_X9_faultOf] at hR
  refine lv_iconst (v := (0 : Int32)) hx hb dX9_faultOf_0 (by decide) ?_
  refine lv_istore_n (lv' := [(1, .int (0 : Int32)), (0, .ref mo)]) hx hb dX9_faultOf_1 rfl hl (by decide) rfl (fun ls hl => ?_)
  refine lv_iconst (v := (0 : Int32)) hx hb dX9_faultOf_2 (by decide) ?_
  refine lv_istore_n (lv' := [(2, .int (0 : Int32)), (1, .int (0 : Int32)), (0, .ref mo)]) hx hb dX9_faultOf_3 rfl hl (by decide) rfl (fun ls hl => ?_)
  have hloop4 : ∀ (k4 i4 : Nat) (v1_4 : Int32), i4 + k4 = mo_signs → ∀ (ls : Array Slot), lv_has ls 8 [(2, .int (nI i4)), (1, .int v1_4), (0, .ref mo)] → lp_X9_faultOf_4 mo_signs mo_pad k4 i4 v1_4 = R → W p l e ({ frames := 1, cells := 0, slots := 0, locals := 22 }) s m args below meth c s.heap [] 0 0 (MQ below (ro_Q (.int R)) args s 0 0 (fun _ => False)) (F0 m 4 ls []) := by
    intro k4
    induction k4 with
    | zero =>
      intro i4 v1_4 h4  ls hl hR
      obtain rfl : mo_signs = i4 := by omega
      rw [lp_X9_faultOf_4] at hR
      refine lv_iload_n hx hb dX9_faultOf_4 rfl (lv_at hl 0 rfl) ?_
      refine lv_aload_n hx hb dX9_faultOf_5 rfl (lv_at hl 2 rfl) ?_
      refine va_get (D := D) (ci := 9) (v := .int (nI mo_signs)) (C := RX9) (T := TX9) (N := 19) hx hb hts in_X9_faultOf_X9 hown hK.1 hP 0 rfl rfl 6 (by decide) hq0 (fun _ h9 => h9) rfl dX9_faultOf_6 ?_
      refine lv_icmp_ge (tgt := 156) hx hb dX9_faultOf_9 (by decide) (fun _ => ?_) (fun h => absurd (cle_t (a := mo_signs) (b := mo_signs) rfl rfl (by omega) (by omega)) h)
      refine lv_iload_n hx hb dX9_faultOf_156 rfl (lv_at hl 1 rfl) ?_
      refine lv_if_ne (tgt := 165) hx hb dX9_faultOf_157 (by decide) (fun c157 => ?_) (fun c157 => ?_)
      · rw [if_neg c157] at hR
        refine lv_aload_n hx hb dX9_faultOf_165 rfl (lv_at hl 2 rfl) ?_
        refine va_get (D := D) (ci := 9) (v := .int (nI mo_signs)) (C := RX9) (T := TX9) (N := 19) hx hb hts in_X9_faultOf_X9 hown hK.1 hP 0 rfl rfl 6 (by decide) hq0 (fun _ h9 => h9) rfl dX9_faultOf_166 ?_
        subst hR
        exact ro_iret hx hb hr hlocks dX9_faultOf_169
      · rw [if_pos c157] at hR
        refine lv_bipush (v := (-6 : Int32)) hx hb dX9_faultOf_160 (by decide +kernel) ?_
        refine lv_goto (tgt := 169) hx hb dX9_faultOf_162 (by decide) ?_
        subst hR
        exact ro_iret hx hb hr hlocks dX9_faultOf_169
    | succ k4 ih4 =>
      intro i4 v1_4 h4  ls hl hR
      rw [lp_X9_faultOf_4] at hR
      refine lv_iload_n hx hb dX9_faultOf_4 rfl (lv_at hl 0 rfl) ?_
      refine lv_aload_n hx hb dX9_faultOf_5 rfl (lv_at hl 2 rfl) ?_
      refine va_get (D := D) (ci := 9) (v := .int (nI mo_signs)) (C := RX9) (T := TX9) (N := 19) hx hb hts in_X9_faultOf_X9 hown hK.1 hP 0 rfl rfl 6 (by decide) hq0 (fun _ h9 => h9) rfl dX9_faultOf_6 ?_
      refine lv_icmp_ge (tgt := 156) hx hb dX9_faultOf_9 (by decide) (fun h => absurd h (cle_f (a := mo_signs) (b := i4) rfl rfl (by omega) (by omega))) (fun _ => ?_)
      refine lv_aload_n hx hb dX9_faultOf_12 rfl (lv_at hl 2 rfl) ?_
      refine va_get (D := D) (ci := 9) (v := .ref mo_pad_a) (C := RX9) (T := TX9) (N := 19) hx hb hts in_X9_faultOf_X9 hown hK.1 hP 0 rfl rfl 7 (by decide) hq1 (fun _ h9 => h9) rfl dX9_faultOf_13 ?_
      refine lv_iload_n hx hb dX9_faultOf_16 rfl (lv_at hl 0 rfl) ?_
      refine ia_ld hx hb hK hP 1 rfl (i := i4) (by omega) (by decide) dX9_faultOf_17 ?_
      refine lv_istore_n (lv' := [(3, .int (mo_pad i4)), (2, .int (nI i4)), (1, .int v1_4), (0, .ref mo)]) hx hb dX9_faultOf_18 rfl hl (by decide) rfl (fun ls hl => ?_)
      refine lv_iload_n hx hb dX9_faultOf_19 rfl (lv_at hl 0 rfl) ?_
      refine lv_bipush (v := (65 : Int32)) hx hb dX9_faultOf_20 (by decide +kernel) ?_
      refine lv_bipush (v := (71 : Int32)) hx hb dX9_faultOf_22 (by decide +kernel) ?_
      refine ro_S (As := [.int (mo_pad i4), .int (65 : Int32), .int (71 : Int32)]) (rest := []) ⟨hx, hb, hml, hown, hts⟩ hK (c_X9_in l D cI cJ cZ (mo_pad i4) (65 : Int32) (71 : Int32)) va_P_nil (va_cwS 3 hts gX9_faultOf_X9_in rfl rfl rfl hd_X9_in ⟨(Nat.le_of_ble_eq_true rfl), (Nat.le_of_ble_eq_true rfl)⟩) rfl hl.1 rfl (Nat.le_of_ble_eq_true rfl) dX9_faultOf_24 (Nat.zero_le _) (Nat.zero_le _) ?_
      refine lv_istore (lv' := [(4, .int (f_X9_in (mo_pad i4) (65 : Int32) (71 : Int32))), (3, .int (mo_pad i4)), (2, .int (nI i4)), (1, .int v1_4), (0, .ref mo)]) hx hb dX9_faultOf_27 hl (by decide) rfl (fun ls hl => ?_)
      refine lv_iload_n hx hb dX9_faultOf_29 rfl (lv_at hl 1 rfl) ?_
      refine lv_bipush (v := (48 : Int32)) hx hb dX9_faultOf_30 (by decide +kernel) ?_
      refine lv_bipush (v := (55 : Int32)) hx hb dX9_faultOf_32 (by decide +kernel) ?_
      refine ro_S (As := [.int (mo_pad i4), .int (48 : Int32), .int (55 : Int32)]) (rest := []) ⟨hx, hb, hml, hown, hts⟩ hK (c_X9_in l D cI cJ cZ (mo_pad i4) (48 : Int32) (55 : Int32)) va_P_nil (va_cwS 3 hts gX9_faultOf_X9_in rfl rfl rfl hd_X9_in ⟨(Nat.le_of_ble_eq_true rfl), (Nat.le_of_ble_eq_true rfl)⟩) rfl hl.1 rfl (Nat.le_of_ble_eq_true rfl) dX9_faultOf_34 (Nat.zero_le _) (Nat.zero_le _) ?_
      refine lv_istore (lv' := [(5, .int (f_X9_in (mo_pad i4) (48 : Int32) (55 : Int32))), (4, .int (f_X9_in (mo_pad i4) (65 : Int32) (71 : Int32))), (3, .int (mo_pad i4)), (2, .int (nI i4)), (1, .int v1_4), (0, .ref mo)]) hx hb dX9_faultOf_37 hl (by decide) rfl (fun ls hl => ?_)
      refine lv_iload_n hx hb dX9_faultOf_39 rfl (lv_at hl 2 rfl) ?_
      refine lv_bipush (v := (119 : Int32)) hx hb dX9_faultOf_40 (by decide +kernel) ?_
      refine lv_icmp_eq (tgt := 51) hx hb dX9_faultOf_42 (by decide) (fun c42 => ?_) (fun c42 => ?_)
      · rw [if_pos c42] at hR
        refine lv_iconst (v := (1 : Int32)) hx hb dX9_faultOf_51 (by decide) ?_
        refine lv_goto (tgt := 56) hx hb dX9_faultOf_52 (by decide) ?_
        refine lv_istore (lv' := [(6, .int (1 : Int32)), (5, .int (f_X9_in (mo_pad i4) (48 : Int32) (55 : Int32))), (4, .int (f_X9_in (mo_pad i4) (65 : Int32) (71 : Int32))), (3, .int (mo_pad i4)), (2, .int (nI i4)), (1, .int v1_4), (0, .ref mo)]) hx hb dX9_faultOf_56 hl (by decide) rfl (fun ls hl => ?_)
        refine lv_iload_n hx hb dX9_faultOf_58 rfl (lv_at hl 5 rfl) ?_
        refine lv_if_ne (tgt := 86) hx hb dX9_faultOf_59 (by decide) (fun c59 => ?_) (fun c59 => ?_)
        · rw [if_neg c59] at hR
          refine lv_iload hx hb dX9_faultOf_86 (lv_at hl 1 rfl) ?_
          refine lv_if_ne (tgt := 108) hx hb dX9_faultOf_88 (by decide) (fun c88 => ?_) (fun c88 => ?_)
          · rw [if_neg c88] at hR
            refine lv_iconst (v := (1 : Int32)) hx hb dX9_faultOf_108 (by decide) ?_
            refine lv_goto (tgt := 113) hx hb dX9_faultOf_109 (by decide) ?_
            refine lv_istore (lv' := [(7, .int (1 : Int32)), (6, .int (1 : Int32)), (5, .int (f_X9_in (mo_pad i4) (48 : Int32) (55 : Int32))), (4, .int (f_X9_in (mo_pad i4) (65 : Int32) (71 : Int32))), (3, .int (mo_pad i4)), (2, .int (nI i4)), (1, .int v1_4), (0, .ref mo)]) hx hb dX9_faultOf_113 hl (by decide) rfl (fun ls hl => ?_)
            refine lv_iload hx hb dX9_faultOf_115 (lv_at hl 0 rfl) ?_
            refine lv_if_ne (tgt := 122) hx hb dX9_faultOf_117 (by decide) (fun _ => ?_) (fun h => absurd h (by decide))
            refine lv_iload_n hx hb dX9_faultOf_122 rfl (lv_at hl 6 rfl) ?_
            refine lv_if_le (tgt := 130) hx hb dX9_faultOf_123 (by decide) (fun c123 => ?_) (fun c123 => ?_)
            · rw [if_pos c123] at hR
              refine lv_iload hx hb dX9_faultOf_130 (lv_at hl 3 rfl) ?_
              refine lv_if_eq (tgt := 139) hx hb dX9_faultOf_132 (by decide) (fun c132 => ?_) (fun c132 => ?_)
              · rw [if_pos c132] at hR
                refine lv_iload hx hb dX9_faultOf_139 (lv_at hl 1 rfl) ?_
                refine lv_if_eq (tgt := 148) hx hb dX9_faultOf_141 (by decide) (fun h => absurd h (by decide)) (fun _ => ?_)
                refine lv_iconst (v := (2 : Int32)) hx hb dX9_faultOf_144 (by decide) ?_
                refine lv_goto (tgt := 149) hx hb dX9_faultOf_145 (by decide) ?_
                refine lv_istore_n (lv' := [(1, .int (2 : Int32)), (7, .int (1 : Int32)), (6, .int (1 : Int32)), (5, .int (f_X9_in (mo_pad i4) (48 : Int32) (55 : Int32))), (4, .int (f_X9_in (mo_pad i4) (65 : Int32) (71 : Int32))), (3, .int (mo_pad i4)), (2, .int (nI i4)), (0, .ref mo)]) hx hb dX9_faultOf_149 rfl hl (by decide) rfl (fun ls hl => ?_)
                refine lv_iinc (v := (nI (i4 + 1))) (lv' := [(2, .int (nI (i4 + 1))), (1, .int (2 : Int32)), (7, .int (1 : Int32)), (6, .int (1 : Int32)), (5, .int (f_X9_in (mo_pad i4) (48 : Int32) (55 : Int32))), (4, .int (f_X9_in (mo_pad i4) (65 : Int32) (71 : Int32))), (3, .int (mo_pad i4)), (0, .ref mo)]) hx hb dX9_faultOf_150 hl (k := 6) rfl (by exact nI_add i4 1) (by decide) rfl (fun ls hl => ?_)
                refine lv_goto (tgt := 4) hx hb dX9_faultOf_153 (by decide) ?_
                exact ih4 _ _ (by omega) _ (lv_sub hl [0, 1, 7] rfl) hR
              · rw [if_neg c132] at hR
                refine lv_iconst (v := (1 : Int32)) hx hb dX9_faultOf_135 (by decide) ?_
                refine lv_goto (tgt := 149) hx hb dX9_faultOf_136 (by decide) ?_
                refine lv_istore_n (lv' := [(1, .int (1 : Int32)), (7, .int (1 : Int32)), (6, .int (1 : Int32)), (5, .int (f_X9_in (mo_pad i4) (48 : Int32) (55 : Int32))), (4, .int (f_X9_in (mo_pad i4) (65 : Int32) (71 : Int32))), (3, .int (mo_pad i4)), (2, .int (nI i4)), (0, .ref mo)]) hx hb dX9_faultOf_149 rfl hl (by decide) rfl (fun ls hl => ?_)
                refine lv_iinc (v := (nI (i4 + 1))) (lv' := [(2, .int (nI (i4 + 1))), (1, .int (1 : Int32)), (7, .int (1 : Int32)), (6, .int (1 : Int32)), (5, .int (f_X9_in (mo_pad i4) (48 : Int32) (55 : Int32))), (4, .int (f_X9_in (mo_pad i4) (65 : Int32) (71 : Int32))), (3, .int (mo_pad i4)), (0, .ref mo)]) hx hb dX9_faultOf_150 hl (k := 6) rfl (by exact nI_add i4 1) (by decide) rfl (fun ls hl => ?_)
                refine lv_goto (tgt := 4) hx hb dX9_faultOf_153 (by decide) ?_
                exact ih4 _ _ (by omega) _ (lv_sub hl [0, 1, 7] rfl) hR
            · rw [if_neg c123] at hR
              refine lv_iconst (v := (0 : Int32)) hx hb dX9_faultOf_126 (by decide) ?_
              refine lv_goto (tgt := 149) hx hb dX9_faultOf_127 (by decide) ?_
              refine lv_istore_n (lv' := [(1, .int (0 : Int32)), (7, .int (1 : Int32)), (6, .int (1 : Int32)), (5, .int (f_X9_in (mo_pad i4) (48 : Int32) (55 : Int32))), (4, .int (f_X9_in (mo_pad i4) (65 : Int32) (71 : Int32))), (3, .int (mo_pad i4)), (2, .int (nI i4)), (0, .ref mo)]) hx hb dX9_faultOf_149 rfl hl (by decide) rfl (fun ls hl => ?_)
              refine lv_iinc (v := (nI (i4 + 1))) (lv' := [(2, .int (nI (i4 + 1))), (1, .int (0 : Int32)), (7, .int (1 : Int32)), (6, .int (1 : Int32)), (5, .int (f_X9_in (mo_pad i4) (48 : Int32) (55 : Int32))), (4, .int (f_X9_in (mo_pad i4) (65 : Int32) (71 : Int32))), (3, .int (mo_pad i4)), (0, .ref mo)]) hx hb dX9_faultOf_150 hl (k := 6) rfl (by exact nI_add i4 1) (by decide) rfl (fun ls hl => ?_)
              refine lv_goto (tgt := 4) hx hb dX9_faultOf_153 (by decide) ?_
              exact ih4 _ _ (by omega) _ (lv_sub hl [0, 1, 7] rfl) hR
          · rw [if_pos c88] at hR
            refine lv_iload_n hx hb dX9_faultOf_91 rfl (lv_at hl 5 rfl) ?_
            refine lv_iconst (v := (1 : Int32)) hx hb dX9_faultOf_92 (by decide) ?_
            refine lv_icmp_ne (tgt := 112) hx hb dX9_faultOf_93 (by decide) (fun c93 => ?_) (fun c93 => ?_)
            · rw [if_neg c93] at hR
              refine lv_iconst (v := (0 : Int32)) hx hb dX9_faultOf_112 (by decide) ?_
              refine lv_istore (lv' := [(7, .int (0 : Int32)), (6, .int (1 : Int32)), (5, .int (f_X9_in (mo_pad i4) (48 : Int32) (55 : Int32))), (4, .int (f_X9_in (mo_pad i4) (65 : Int32) (71 : Int32))), (3, .int (mo_pad i4)), (2, .int (nI i4)), (1, .int v1_4), (0, .ref mo)]) hx hb dX9_faultOf_113 hl (by decide) rfl (fun ls hl => ?_)
              refine lv_iload hx hb dX9_faultOf_115 (lv_at hl 0 rfl) ?_
              refine lv_if_ne (tgt := 122) hx hb dX9_faultOf_117 (by decide) (fun h => absurd (by decide) h) (fun _ => ?_)
              refine lv_iload_n hx hb dX9_faultOf_120 rfl (lv_at hl 5 rfl) ?_
              subst hR
              exact ro_iret hx hb hr hlocks dX9_faultOf_121
            · rw [if_pos c93] at hR
              refine lv_iload_n hx hb dX9_faultOf_96 rfl (lv_at hl 3 rfl) ?_
              refine lv_bipush (v := (42 : Int32)) hx hb dX9_faultOf_97 (by decide +kernel) ?_
              refine lv_icmp_eq (tgt := 108) hx hb dX9_faultOf_99 (by decide) (fun c99 => ?_) (fun c99 => ?_)
              · rw [if_pos c99] at hR
                refine lv_iconst (v := (1 : Int32)) hx hb dX9_faultOf_108 (by decide) ?_
                refine lv_goto (tgt := 113) hx hb dX9_faultOf_109 (by decide) ?_
                refine lv_istore (lv' := [(7, .int (1 : Int32)), (6, .int (1 : Int32)), (5, .int (f_X9_in (mo_pad i4) (48 : Int32) (55 : Int32))), (4, .int (f_X9_in (mo_pad i4) (65 : Int32) (71 : Int32))), (3, .int (mo_pad i4)), (2, .int (nI i4)), (1, .int v1_4), (0, .ref mo)]) hx hb dX9_faultOf_113 hl (by decide) rfl (fun ls hl => ?_)
                refine lv_iload hx hb dX9_faultOf_115 (lv_at hl 0 rfl) ?_
                refine lv_if_ne (tgt := 122) hx hb dX9_faultOf_117 (by decide) (fun _ => ?_) (fun h => absurd h (by decide))
                refine lv_iload_n hx hb dX9_faultOf_122 rfl (lv_at hl 6 rfl) ?_
                refine lv_if_le (tgt := 130) hx hb dX9_faultOf_123 (by decide) (fun c123 => ?_) (fun c123 => ?_)
                · rw [if_pos c123] at hR
                  refine lv_iload hx hb dX9_faultOf_130 (lv_at hl 3 rfl) ?_
                  refine lv_if_eq (tgt := 139) hx hb dX9_faultOf_132 (by decide) (fun c132 => ?_) (fun c132 => ?_)
                  · rw [if_pos c132] at hR
                    refine lv_iload hx hb dX9_faultOf_139 (lv_at hl 1 rfl) ?_
                    refine lv_if_eq (tgt := 148) hx hb dX9_faultOf_141 (by decide) (fun h => absurd h (by decide)) (fun _ => ?_)
                    refine lv_iconst (v := (2 : Int32)) hx hb dX9_faultOf_144 (by decide) ?_
                    refine lv_goto (tgt := 149) hx hb dX9_faultOf_145 (by decide) ?_
                    refine lv_istore_n (lv' := [(1, .int (2 : Int32)), (7, .int (1 : Int32)), (6, .int (1 : Int32)), (5, .int (f_X9_in (mo_pad i4) (48 : Int32) (55 : Int32))), (4, .int (f_X9_in (mo_pad i4) (65 : Int32) (71 : Int32))), (3, .int (mo_pad i4)), (2, .int (nI i4)), (0, .ref mo)]) hx hb dX9_faultOf_149 rfl hl (by decide) rfl (fun ls hl => ?_)
                    refine lv_iinc (v := (nI (i4 + 1))) (lv' := [(2, .int (nI (i4 + 1))), (1, .int (2 : Int32)), (7, .int (1 : Int32)), (6, .int (1 : Int32)), (5, .int (f_X9_in (mo_pad i4) (48 : Int32) (55 : Int32))), (4, .int (f_X9_in (mo_pad i4) (65 : Int32) (71 : Int32))), (3, .int (mo_pad i4)), (0, .ref mo)]) hx hb dX9_faultOf_150 hl (k := 6) rfl (by exact nI_add i4 1) (by decide) rfl (fun ls hl => ?_)
                    refine lv_goto (tgt := 4) hx hb dX9_faultOf_153 (by decide) ?_
                    exact ih4 _ _ (by omega) _ (lv_sub hl [0, 1, 7] rfl) hR
                  · rw [if_neg c132] at hR
                    refine lv_iconst (v := (1 : Int32)) hx hb dX9_faultOf_135 (by decide) ?_
                    refine lv_goto (tgt := 149) hx hb dX9_faultOf_136 (by decide) ?_
                    refine lv_istore_n (lv' := [(1, .int (1 : Int32)), (7, .int (1 : Int32)), (6, .int (1 : Int32)), (5, .int (f_X9_in (mo_pad i4) (48 : Int32) (55 : Int32))), (4, .int (f_X9_in (mo_pad i4) (65 : Int32) (71 : Int32))), (3, .int (mo_pad i4)), (2, .int (nI i4)), (0, .ref mo)]) hx hb dX9_faultOf_149 rfl hl (by decide) rfl (fun ls hl => ?_)
                    refine lv_iinc (v := (nI (i4 + 1))) (lv' := [(2, .int (nI (i4 + 1))), (1, .int (1 : Int32)), (7, .int (1 : Int32)), (6, .int (1 : Int32)), (5, .int (f_X9_in (mo_pad i4) (48 : Int32) (55 : Int32))), (4, .int (f_X9_in (mo_pad i4) (65 : Int32) (71 : Int32))), (3, .int (mo_pad i4)), (0, .ref mo)]) hx hb dX9_faultOf_150 hl (k := 6) rfl (by exact nI_add i4 1) (by decide) rfl (fun ls hl => ?_)
                    refine lv_goto (tgt := 4) hx hb dX9_faultOf_153 (by decide) ?_
                    exact ih4 _ _ (by omega) _ (lv_sub hl [0, 1, 7] rfl) hR
                · rw [if_neg c123] at hR
                  refine lv_iconst (v := (0 : Int32)) hx hb dX9_faultOf_126 (by decide) ?_
                  refine lv_goto (tgt := 149) hx hb dX9_faultOf_127 (by decide) ?_
                  refine lv_istore_n (lv' := [(1, .int (0 : Int32)), (7, .int (1 : Int32)), (6, .int (1 : Int32)), (5, .int (f_X9_in (mo_pad i4) (48 : Int32) (55 : Int32))), (4, .int (f_X9_in (mo_pad i4) (65 : Int32) (71 : Int32))), (3, .int (mo_pad i4)), (2, .int (nI i4)), (0, .ref mo)]) hx hb dX9_faultOf_149 rfl hl (by decide) rfl (fun ls hl => ?_)
                  refine lv_iinc (v := (nI (i4 + 1))) (lv' := [(2, .int (nI (i4 + 1))), (1, .int (0 : Int32)), (7, .int (1 : Int32)), (6, .int (1 : Int32)), (5, .int (f_X9_in (mo_pad i4) (48 : Int32) (55 : Int32))), (4, .int (f_X9_in (mo_pad i4) (65 : Int32) (71 : Int32))), (3, .int (mo_pad i4)), (0, .ref mo)]) hx hb dX9_faultOf_150 hl (k := 6) rfl (by exact nI_add i4 1) (by decide) rfl (fun ls hl => ?_)
                  refine lv_goto (tgt := 4) hx hb dX9_faultOf_153 (by decide) ?_
                  exact ih4 _ _ (by omega) _ (lv_sub hl [0, 1, 7] rfl) hR
              · rw [if_neg c99] at hR
                refine lv_iload_n hx hb dX9_faultOf_102 rfl (lv_at hl 3 rfl) ?_
                refine lv_bipush (v := (35 : Int32)) hx hb dX9_faultOf_103 (by decide +kernel) ?_
                refine lv_icmp_ne (tgt := 112) hx hb dX9_faultOf_105 (by decide) (fun c105 => ?_) (fun c105 => ?_)
                · rw [if_neg c105] at hR
                  refine lv_iconst (v := (0 : Int32)) hx hb dX9_faultOf_112 (by decide) ?_
                  refine lv_istore (lv' := [(7, .int (0 : Int32)), (6, .int (1 : Int32)), (5, .int (f_X9_in (mo_pad i4) (48 : Int32) (55 : Int32))), (4, .int (f_X9_in (mo_pad i4) (65 : Int32) (71 : Int32))), (3, .int (mo_pad i4)), (2, .int (nI i4)), (1, .int v1_4), (0, .ref mo)]) hx hb dX9_faultOf_113 hl (by decide) rfl (fun ls hl => ?_)
                  refine lv_iload hx hb dX9_faultOf_115 (lv_at hl 0 rfl) ?_
                  refine lv_if_ne (tgt := 122) hx hb dX9_faultOf_117 (by decide) (fun h => absurd (by decide) h) (fun _ => ?_)
                  refine lv_iload_n hx hb dX9_faultOf_120 rfl (lv_at hl 5 rfl) ?_
                  subst hR
                  exact ro_iret hx hb hr hlocks dX9_faultOf_121
                · rw [if_pos c105] at hR
                  refine lv_iconst (v := (1 : Int32)) hx hb dX9_faultOf_108 (by decide) ?_
                  refine lv_goto (tgt := 113) hx hb dX9_faultOf_109 (by decide) ?_
                  refine lv_istore (lv' := [(7, .int (1 : Int32)), (6, .int (1 : Int32)), (5, .int (f_X9_in (mo_pad i4) (48 : Int32) (55 : Int32))), (4, .int (f_X9_in (mo_pad i4) (65 : Int32) (71 : Int32))), (3, .int (mo_pad i4)), (2, .int (nI i4)), (1, .int v1_4), (0, .ref mo)]) hx hb dX9_faultOf_113 hl (by decide) rfl (fun ls hl => ?_)
                  refine lv_iload hx hb dX9_faultOf_115 (lv_at hl 0 rfl) ?_
                  refine lv_if_ne (tgt := 122) hx hb dX9_faultOf_117 (by decide) (fun _ => ?_) (fun h => absurd h (by decide))
                  refine lv_iload_n hx hb dX9_faultOf_122 rfl (lv_at hl 6 rfl) ?_
                  refine lv_if_le (tgt := 130) hx hb dX9_faultOf_123 (by decide) (fun c123 => ?_) (fun c123 => ?_)
                  · rw [if_pos c123] at hR
                    refine lv_iload hx hb dX9_faultOf_130 (lv_at hl 3 rfl) ?_
                    refine lv_if_eq (tgt := 139) hx hb dX9_faultOf_132 (by decide) (fun c132 => ?_) (fun c132 => ?_)
                    · rw [if_pos c132] at hR
                      refine lv_iload hx hb dX9_faultOf_139 (lv_at hl 1 rfl) ?_
                      refine lv_if_eq (tgt := 148) hx hb dX9_faultOf_141 (by decide) (fun h => absurd h (by decide)) (fun _ => ?_)
                      refine lv_iconst (v := (2 : Int32)) hx hb dX9_faultOf_144 (by decide) ?_
                      refine lv_goto (tgt := 149) hx hb dX9_faultOf_145 (by decide) ?_
                      refine lv_istore_n (lv' := [(1, .int (2 : Int32)), (7, .int (1 : Int32)), (6, .int (1 : Int32)), (5, .int (f_X9_in (mo_pad i4) (48 : Int32) (55 : Int32))), (4, .int (f_X9_in (mo_pad i4) (65 : Int32) (71 : Int32))), (3, .int (mo_pad i4)), (2, .int (nI i4)), (0, .ref mo)]) hx hb dX9_faultOf_149 rfl hl (by decide) rfl (fun ls hl => ?_)
                      refine lv_iinc (v := (nI (i4 + 1))) (lv' := [(2, .int (nI (i4 + 1))), (1, .int (2 : Int32)), (7, .int (1 : Int32)), (6, .int (1 : Int32)), (5, .int (f_X9_in (mo_pad i4) (48 : Int32) (55 : Int32))), (4, .int (f_X9_in (mo_pad i4) (65 : Int32) (71 : Int32))), (3, .int (mo_pad i4)), (0, .ref mo)]) hx hb dX9_faultOf_150 hl (k := 6) rfl (by exact nI_add i4 1) (by decide) rfl (fun ls hl => ?_)
                      refine lv_goto (tgt := 4) hx hb dX9_faultOf_153 (by decide) ?_
                      exact ih4 _ _ (by omega) _ (lv_sub hl [0, 1, 7] rfl) hR
                    · rw [if_neg c132] at hR
                      refine lv_iconst (v := (1 : Int32)) hx hb dX9_faultOf_135 (by decide) ?_
                      refine lv_goto (tgt := 149) hx hb dX9_faultOf_136 (by decide) ?_
                      refine lv_istore_n (lv' := [(1, .int (1 : Int32)), (7, .int (1 : Int32)), (6, .int (1 : Int32)), (5, .int (f_X9_in (mo_pad i4) (48 : Int32) (55 : Int32))), (4, .int (f_X9_in (mo_pad i4) (65 : Int32) (71 : Int32))), (3, .int (mo_pad i4)), (2, .int (nI i4)), (0, .ref mo)]) hx hb dX9_faultOf_149 rfl hl (by decide) rfl (fun ls hl => ?_)
                      refine lv_iinc (v := (nI (i4 + 1))) (lv' := [(2, .int (nI (i4 + 1))), (1, .int (1 : Int32)), (7, .int (1 : Int32)), (6, .int (1 : Int32)), (5, .int (f_X9_in (mo_pad i4) (48 : Int32) (55 : Int32))), (4, .int (f_X9_in (mo_pad i4) (65 : Int32) (71 : Int32))), (3, .int (mo_pad i4)), (0, .ref mo)]) hx hb dX9_faultOf_150 hl (k := 6) rfl (by exact nI_add i4 1) (by decide) rfl (fun ls hl => ?_)
                      refine lv_goto (tgt := 4) hx hb dX9_faultOf_153 (by decide) ?_
                      exact ih4 _ _ (by omega) _ (lv_sub hl [0, 1, 7] rfl) hR
                  · rw [if_neg c123] at hR
                    refine lv_iconst (v := (0 : Int32)) hx hb dX9_faultOf_126 (by decide) ?_
                    refine lv_goto (tgt := 149) hx hb dX9_faultOf_127 (by decide) ?_
                    refine lv_istore_n (lv' := [(1, .int (0 : Int32)), (7, .int (1 : Int32)), (6, .int (1 : Int32)), (5, .int (f_X9_in (mo_pad i4) (48 : Int32) (55 : Int32))), (4, .int (f_X9_in (mo_pad i4) (65 : Int32) (71 : Int32))), (3, .int (mo_pad i4)), (2, .int (nI i4)), (0, .ref mo)]) hx hb dX9_faultOf_149 rfl hl (by decide) rfl (fun ls hl => ?_)
                    refine lv_iinc (v := (nI (i4 + 1))) (lv' := [(2, .int (nI (i4 + 1))), (1, .int (0 : Int32)), (7, .int (1 : Int32)), (6, .int (1 : Int32)), (5, .int (f_X9_in (mo_pad i4) (48 : Int32) (55 : Int32))), (4, .int (f_X9_in (mo_pad i4) (65 : Int32) (71 : Int32))), (3, .int (mo_pad i4)), (0, .ref mo)]) hx hb dX9_faultOf_150 hl (k := 6) rfl (by exact nI_add i4 1) (by decide) rfl (fun ls hl => ?_)
                    refine lv_goto (tgt := 4) hx hb dX9_faultOf_153 (by decide) ?_
                    exact ih4 _ _ (by omega) _ (lv_sub hl [0, 1, 7] rfl) hR
        · rw [if_pos c59] at hR
          refine lv_iload hx hb dX9_faultOf_62 (lv_at hl 2 rfl) ?_
          refine lv_if_ne (tgt := 78) hx hb dX9_faultOf_64 (by decide) (fun c64 => ?_) (fun c64 => ?_)
          · rw [if_neg c64] at hR
            refine lv_iconst (v := (1 : Int32)) hx hb dX9_faultOf_78 (by decide) ?_
            refine lv_goto (tgt := 113) hx hb dX9_faultOf_79 (by decide) ?_
            refine lv_istore (lv' := [(7, .int (1 : Int32)), (6, .int (1 : Int32)), (5, .int (f_X9_in (mo_pad i4) (48 : Int32) (55 : Int32))), (4, .int (f_X9_in (mo_pad i4) (65 : Int32) (71 : Int32))), (3, .int (mo_pad i4)), (2, .int (nI i4)), (1, .int v1_4), (0, .ref mo)]) hx hb dX9_faultOf_113 hl (by decide) rfl (fun ls hl => ?_)
            refine lv_iload hx hb dX9_faultOf_115 (lv_at hl 0 rfl) ?_
            refine lv_if_ne (tgt := 122) hx hb dX9_faultOf_117 (by decide) (fun _ => ?_) (fun h => absurd h (by decide))
            refine lv_iload_n hx hb dX9_faultOf_122 rfl (lv_at hl 6 rfl) ?_
            refine lv_if_le (tgt := 130) hx hb dX9_faultOf_123 (by decide) (fun c123 => ?_) (fun c123 => ?_)
            · rw [if_pos c123] at hR
              refine lv_iload hx hb dX9_faultOf_130 (lv_at hl 3 rfl) ?_
              refine lv_if_eq (tgt := 139) hx hb dX9_faultOf_132 (by decide) (fun h => absurd h c64) (fun _ => ?_)
              refine lv_iconst (v := (1 : Int32)) hx hb dX9_faultOf_135 (by decide) ?_
              refine lv_goto (tgt := 149) hx hb dX9_faultOf_136 (by decide) ?_
              refine lv_istore_n (lv' := [(1, .int (1 : Int32)), (7, .int (1 : Int32)), (6, .int (1 : Int32)), (5, .int (f_X9_in (mo_pad i4) (48 : Int32) (55 : Int32))), (4, .int (f_X9_in (mo_pad i4) (65 : Int32) (71 : Int32))), (3, .int (mo_pad i4)), (2, .int (nI i4)), (0, .ref mo)]) hx hb dX9_faultOf_149 rfl hl (by decide) rfl (fun ls hl => ?_)
              refine lv_iinc (v := (nI (i4 + 1))) (lv' := [(2, .int (nI (i4 + 1))), (1, .int (1 : Int32)), (7, .int (1 : Int32)), (6, .int (1 : Int32)), (5, .int (f_X9_in (mo_pad i4) (48 : Int32) (55 : Int32))), (4, .int (f_X9_in (mo_pad i4) (65 : Int32) (71 : Int32))), (3, .int (mo_pad i4)), (0, .ref mo)]) hx hb dX9_faultOf_150 hl (k := 6) rfl (by exact nI_add i4 1) (by decide) rfl (fun ls hl => ?_)
              refine lv_goto (tgt := 4) hx hb dX9_faultOf_153 (by decide) ?_
              exact ih4 _ _ (by omega) _ (lv_sub hl [0, 1, 7] rfl) hR
            · rw [if_neg c123] at hR
              refine lv_iconst (v := (0 : Int32)) hx hb dX9_faultOf_126 (by decide) ?_
              refine lv_goto (tgt := 149) hx hb dX9_faultOf_127 (by decide) ?_
              refine lv_istore_n (lv' := [(1, .int (0 : Int32)), (7, .int (1 : Int32)), (6, .int (1 : Int32)), (5, .int (f_X9_in (mo_pad i4) (48 : Int32) (55 : Int32))), (4, .int (f_X9_in (mo_pad i4) (65 : Int32) (71 : Int32))), (3, .int (mo_pad i4)), (2, .int (nI i4)), (0, .ref mo)]) hx hb dX9_faultOf_149 rfl hl (by decide) rfl (fun ls hl => ?_)
              refine lv_iinc (v := (nI (i4 + 1))) (lv' := [(2, .int (nI (i4 + 1))), (1, .int (0 : Int32)), (7, .int (1 : Int32)), (6, .int (1 : Int32)), (5, .int (f_X9_in (mo_pad i4) (48 : Int32) (55 : Int32))), (4, .int (f_X9_in (mo_pad i4) (65 : Int32) (71 : Int32))), (3, .int (mo_pad i4)), (0, .ref mo)]) hx hb dX9_faultOf_150 hl (k := 6) rfl (by exact nI_add i4 1) (by decide) rfl (fun ls hl => ?_)
              refine lv_goto (tgt := 4) hx hb dX9_faultOf_153 (by decide) ?_
              exact ih4 _ _ (by omega) _ (lv_sub hl [0, 1, 7] rfl) hR
          · rw [if_pos c64] at hR
            refine lv_iload hx hb dX9_faultOf_67 (lv_at hl 0 rfl) ?_
            refine lv_if_ne (tgt := 78) hx hb dX9_faultOf_69 (by decide) (fun _ => ?_) (fun h => absurd h (by decide))
            refine lv_iconst (v := (1 : Int32)) hx hb dX9_faultOf_78 (by decide) ?_
            refine lv_goto (tgt := 113) hx hb dX9_faultOf_79 (by decide) ?_
            refine lv_istore (lv' := [(7, .int (1 : Int32)), (6, .int (1 : Int32)), (5, .int (f_X9_in (mo_pad i4) (48 : Int32) (55 : Int32))), (4, .int (f_X9_in (mo_pad i4) (65 : Int32) (71 : Int32))), (3, .int (mo_pad i4)), (2, .int (nI i4)), (1, .int v1_4), (0, .ref mo)]) hx hb dX9_faultOf_113 hl (by decide) rfl (fun ls hl => ?_)
            refine lv_iload hx hb dX9_faultOf_115 (lv_at hl 0 rfl) ?_
            refine lv_if_ne (tgt := 122) hx hb dX9_faultOf_117 (by decide) (fun _ => ?_) (fun h => absurd h (by decide))
            refine lv_iload_n hx hb dX9_faultOf_122 rfl (lv_at hl 6 rfl) ?_
            refine lv_if_le (tgt := 130) hx hb dX9_faultOf_123 (by decide) (fun c123 => ?_) (fun c123 => ?_)
            · rw [if_pos c123] at hR
              refine lv_iload hx hb dX9_faultOf_130 (lv_at hl 3 rfl) ?_
              refine lv_if_eq (tgt := 139) hx hb dX9_faultOf_132 (by decide) (fun _ => ?_) (fun h => absurd c64 h)
              refine lv_iload hx hb dX9_faultOf_139 (lv_at hl 1 rfl) ?_
              refine lv_if_eq (tgt := 148) hx hb dX9_faultOf_141 (by decide) (fun h => absurd h (by decide)) (fun _ => ?_)
              refine lv_iconst (v := (2 : Int32)) hx hb dX9_faultOf_144 (by decide) ?_
              refine lv_goto (tgt := 149) hx hb dX9_faultOf_145 (by decide) ?_
              refine lv_istore_n (lv' := [(1, .int (2 : Int32)), (7, .int (1 : Int32)), (6, .int (1 : Int32)), (5, .int (f_X9_in (mo_pad i4) (48 : Int32) (55 : Int32))), (4, .int (f_X9_in (mo_pad i4) (65 : Int32) (71 : Int32))), (3, .int (mo_pad i4)), (2, .int (nI i4)), (0, .ref mo)]) hx hb dX9_faultOf_149 rfl hl (by decide) rfl (fun ls hl => ?_)
              refine lv_iinc (v := (nI (i4 + 1))) (lv' := [(2, .int (nI (i4 + 1))), (1, .int (2 : Int32)), (7, .int (1 : Int32)), (6, .int (1 : Int32)), (5, .int (f_X9_in (mo_pad i4) (48 : Int32) (55 : Int32))), (4, .int (f_X9_in (mo_pad i4) (65 : Int32) (71 : Int32))), (3, .int (mo_pad i4)), (0, .ref mo)]) hx hb dX9_faultOf_150 hl (k := 6) rfl (by exact nI_add i4 1) (by decide) rfl (fun ls hl => ?_)
              refine lv_goto (tgt := 4) hx hb dX9_faultOf_153 (by decide) ?_
              exact ih4 _ _ (by omega) _ (lv_sub hl [0, 1, 7] rfl) hR
            · rw [if_neg c123] at hR
              refine lv_iconst (v := (0 : Int32)) hx hb dX9_faultOf_126 (by decide) ?_
              refine lv_goto (tgt := 149) hx hb dX9_faultOf_127 (by decide) ?_
              refine lv_istore_n (lv' := [(1, .int (0 : Int32)), (7, .int (1 : Int32)), (6, .int (1 : Int32)), (5, .int (f_X9_in (mo_pad i4) (48 : Int32) (55 : Int32))), (4, .int (f_X9_in (mo_pad i4) (65 : Int32) (71 : Int32))), (3, .int (mo_pad i4)), (2, .int (nI i4)), (0, .ref mo)]) hx hb dX9_faultOf_149 rfl hl (by decide) rfl (fun ls hl => ?_)
              refine lv_iinc (v := (nI (i4 + 1))) (lv' := [(2, .int (nI (i4 + 1))), (1, .int (0 : Int32)), (7, .int (1 : Int32)), (6, .int (1 : Int32)), (5, .int (f_X9_in (mo_pad i4) (48 : Int32) (55 : Int32))), (4, .int (f_X9_in (mo_pad i4) (65 : Int32) (71 : Int32))), (3, .int (mo_pad i4)), (0, .ref mo)]) hx hb dX9_faultOf_150 hl (k := 6) rfl (by exact nI_add i4 1) (by decide) rfl (fun ls hl => ?_)
              refine lv_goto (tgt := 4) hx hb dX9_faultOf_153 (by decide) ?_
              exact ih4 _ _ (by omega) _ (lv_sub hl [0, 1, 7] rfl) hR
      · rw [if_neg c42] at hR
        refine lv_iload_n hx hb dX9_faultOf_45 rfl (lv_at hl 2 rfl) ?_
        refine lv_bipush (v := (118 : Int32)) hx hb dX9_faultOf_46 (by decide +kernel) ?_
        refine lv_icmp_ne (tgt := 55) hx hb dX9_faultOf_48 (by decide) (fun c48 => ?_) (fun c48 => ?_)
        · rw [if_neg c48] at hR
          refine lv_iconst (v := (0 : Int32)) hx hb dX9_faultOf_55 (by decide) ?_
          refine lv_istore (lv' := [(6, .int (0 : Int32)), (5, .int (f_X9_in (mo_pad i4) (48 : Int32) (55 : Int32))), (4, .int (f_X9_in (mo_pad i4) (65 : Int32) (71 : Int32))), (3, .int (mo_pad i4)), (2, .int (nI i4)), (1, .int v1_4), (0, .ref mo)]) hx hb dX9_faultOf_56 hl (by decide) rfl (fun ls hl => ?_)
          refine lv_iload_n hx hb dX9_faultOf_58 rfl (lv_at hl 5 rfl) ?_
          refine lv_if_ne (tgt := 86) hx hb dX9_faultOf_59 (by decide) (fun c59 => ?_) (fun c59 => ?_)
          · rw [if_neg c59] at hR
            refine lv_iload hx hb dX9_faultOf_86 (lv_at hl 1 rfl) ?_
            refine lv_if_ne (tgt := 108) hx hb dX9_faultOf_88 (by decide) (fun c88 => ?_) (fun c88 => ?_)
            · rw [if_neg c88] at hR
              refine lv_iconst (v := (1 : Int32)) hx hb dX9_faultOf_108 (by decide) ?_
              refine lv_goto (tgt := 113) hx hb dX9_faultOf_109 (by decide) ?_
              refine lv_istore (lv' := [(7, .int (1 : Int32)), (6, .int (0 : Int32)), (5, .int (f_X9_in (mo_pad i4) (48 : Int32) (55 : Int32))), (4, .int (f_X9_in (mo_pad i4) (65 : Int32) (71 : Int32))), (3, .int (mo_pad i4)), (2, .int (nI i4)), (1, .int v1_4), (0, .ref mo)]) hx hb dX9_faultOf_113 hl (by decide) rfl (fun ls hl => ?_)
              refine lv_iload hx hb dX9_faultOf_115 (lv_at hl 0 rfl) ?_
              refine lv_if_ne (tgt := 122) hx hb dX9_faultOf_117 (by decide) (fun _ => ?_) (fun h => absurd h (by decide))
              refine lv_iload_n hx hb dX9_faultOf_122 rfl (lv_at hl 6 rfl) ?_
              refine lv_if_le (tgt := 130) hx hb dX9_faultOf_123 (by decide) (fun c123 => ?_) (fun c123 => ?_)
              · rw [if_pos c123] at hR
                refine lv_iload hx hb dX9_faultOf_130 (lv_at hl 3 rfl) ?_
                refine lv_if_eq (tgt := 139) hx hb dX9_faultOf_132 (by decide) (fun c132 => ?_) (fun c132 => ?_)
                · rw [if_pos c132] at hR
                  refine lv_iload hx hb dX9_faultOf_139 (lv_at hl 1 rfl) ?_
                  refine lv_if_eq (tgt := 148) hx hb dX9_faultOf_141 (by decide) (fun _ => ?_) (fun h => absurd (by decide) h)
                  refine lv_iconst (v := (0 : Int32)) hx hb dX9_faultOf_148 (by decide) ?_
                  refine lv_istore_n (lv' := [(1, .int (0 : Int32)), (7, .int (1 : Int32)), (6, .int (0 : Int32)), (5, .int (f_X9_in (mo_pad i4) (48 : Int32) (55 : Int32))), (4, .int (f_X9_in (mo_pad i4) (65 : Int32) (71 : Int32))), (3, .int (mo_pad i4)), (2, .int (nI i4)), (0, .ref mo)]) hx hb dX9_faultOf_149 rfl hl (by decide) rfl (fun ls hl => ?_)
                  refine lv_iinc (v := (nI (i4 + 1))) (lv' := [(2, .int (nI (i4 + 1))), (1, .int (0 : Int32)), (7, .int (1 : Int32)), (6, .int (0 : Int32)), (5, .int (f_X9_in (mo_pad i4) (48 : Int32) (55 : Int32))), (4, .int (f_X9_in (mo_pad i4) (65 : Int32) (71 : Int32))), (3, .int (mo_pad i4)), (0, .ref mo)]) hx hb dX9_faultOf_150 hl (k := 6) rfl (by exact nI_add i4 1) (by decide) rfl (fun ls hl => ?_)
                  refine lv_goto (tgt := 4) hx hb dX9_faultOf_153 (by decide) ?_
                  exact ih4 _ _ (by omega) _ (lv_sub hl [0, 1, 7] rfl) hR
                · rw [if_neg c132] at hR
                  refine lv_iconst (v := (1 : Int32)) hx hb dX9_faultOf_135 (by decide) ?_
                  refine lv_goto (tgt := 149) hx hb dX9_faultOf_136 (by decide) ?_
                  refine lv_istore_n (lv' := [(1, .int (1 : Int32)), (7, .int (1 : Int32)), (6, .int (0 : Int32)), (5, .int (f_X9_in (mo_pad i4) (48 : Int32) (55 : Int32))), (4, .int (f_X9_in (mo_pad i4) (65 : Int32) (71 : Int32))), (3, .int (mo_pad i4)), (2, .int (nI i4)), (0, .ref mo)]) hx hb dX9_faultOf_149 rfl hl (by decide) rfl (fun ls hl => ?_)
                  refine lv_iinc (v := (nI (i4 + 1))) (lv' := [(2, .int (nI (i4 + 1))), (1, .int (1 : Int32)), (7, .int (1 : Int32)), (6, .int (0 : Int32)), (5, .int (f_X9_in (mo_pad i4) (48 : Int32) (55 : Int32))), (4, .int (f_X9_in (mo_pad i4) (65 : Int32) (71 : Int32))), (3, .int (mo_pad i4)), (0, .ref mo)]) hx hb dX9_faultOf_150 hl (k := 6) rfl (by exact nI_add i4 1) (by decide) rfl (fun ls hl => ?_)
                  refine lv_goto (tgt := 4) hx hb dX9_faultOf_153 (by decide) ?_
                  exact ih4 _ _ (by omega) _ (lv_sub hl [0, 1, 7] rfl) hR
              · rw [if_neg c123] at hR
                refine lv_iconst (v := (0 : Int32)) hx hb dX9_faultOf_126 (by decide) ?_
                refine lv_goto (tgt := 149) hx hb dX9_faultOf_127 (by decide) ?_
                refine lv_istore_n (lv' := [(1, .int (0 : Int32)), (7, .int (1 : Int32)), (6, .int (0 : Int32)), (5, .int (f_X9_in (mo_pad i4) (48 : Int32) (55 : Int32))), (4, .int (f_X9_in (mo_pad i4) (65 : Int32) (71 : Int32))), (3, .int (mo_pad i4)), (2, .int (nI i4)), (0, .ref mo)]) hx hb dX9_faultOf_149 rfl hl (by decide) rfl (fun ls hl => ?_)
                refine lv_iinc (v := (nI (i4 + 1))) (lv' := [(2, .int (nI (i4 + 1))), (1, .int (0 : Int32)), (7, .int (1 : Int32)), (6, .int (0 : Int32)), (5, .int (f_X9_in (mo_pad i4) (48 : Int32) (55 : Int32))), (4, .int (f_X9_in (mo_pad i4) (65 : Int32) (71 : Int32))), (3, .int (mo_pad i4)), (0, .ref mo)]) hx hb dX9_faultOf_150 hl (k := 6) rfl (by exact nI_add i4 1) (by decide) rfl (fun ls hl => ?_)
                refine lv_goto (tgt := 4) hx hb dX9_faultOf_153 (by decide) ?_
                exact ih4 _ _ (by omega) _ (lv_sub hl [0, 1, 7] rfl) hR
            · rw [if_pos c88] at hR
              refine lv_iload_n hx hb dX9_faultOf_91 rfl (lv_at hl 5 rfl) ?_
              refine lv_iconst (v := (1 : Int32)) hx hb dX9_faultOf_92 (by decide) ?_
              refine lv_icmp_ne (tgt := 112) hx hb dX9_faultOf_93 (by decide) (fun c93 => ?_) (fun c93 => ?_)
              · rw [if_neg c93] at hR
                refine lv_iconst (v := (0 : Int32)) hx hb dX9_faultOf_112 (by decide) ?_
                refine lv_istore (lv' := [(7, .int (0 : Int32)), (6, .int (0 : Int32)), (5, .int (f_X9_in (mo_pad i4) (48 : Int32) (55 : Int32))), (4, .int (f_X9_in (mo_pad i4) (65 : Int32) (71 : Int32))), (3, .int (mo_pad i4)), (2, .int (nI i4)), (1, .int v1_4), (0, .ref mo)]) hx hb dX9_faultOf_113 hl (by decide) rfl (fun ls hl => ?_)
                refine lv_iload hx hb dX9_faultOf_115 (lv_at hl 0 rfl) ?_
                refine lv_if_ne (tgt := 122) hx hb dX9_faultOf_117 (by decide) (fun h => absurd (by decide) h) (fun _ => ?_)
                refine lv_iload_n hx hb dX9_faultOf_120 rfl (lv_at hl 5 rfl) ?_
                subst hR
                exact ro_iret hx hb hr hlocks dX9_faultOf_121
              · rw [if_pos c93] at hR
                refine lv_iload_n hx hb dX9_faultOf_96 rfl (lv_at hl 3 rfl) ?_
                refine lv_bipush (v := (42 : Int32)) hx hb dX9_faultOf_97 (by decide +kernel) ?_
                refine lv_icmp_eq (tgt := 108) hx hb dX9_faultOf_99 (by decide) (fun c99 => ?_) (fun c99 => ?_)
                · rw [if_pos c99] at hR
                  refine lv_iconst (v := (1 : Int32)) hx hb dX9_faultOf_108 (by decide) ?_
                  refine lv_goto (tgt := 113) hx hb dX9_faultOf_109 (by decide) ?_
                  refine lv_istore (lv' := [(7, .int (1 : Int32)), (6, .int (0 : Int32)), (5, .int (f_X9_in (mo_pad i4) (48 : Int32) (55 : Int32))), (4, .int (f_X9_in (mo_pad i4) (65 : Int32) (71 : Int32))), (3, .int (mo_pad i4)), (2, .int (nI i4)), (1, .int v1_4), (0, .ref mo)]) hx hb dX9_faultOf_113 hl (by decide) rfl (fun ls hl => ?_)
                  refine lv_iload hx hb dX9_faultOf_115 (lv_at hl 0 rfl) ?_
                  refine lv_if_ne (tgt := 122) hx hb dX9_faultOf_117 (by decide) (fun _ => ?_) (fun h => absurd h (by decide))
                  refine lv_iload_n hx hb dX9_faultOf_122 rfl (lv_at hl 6 rfl) ?_
                  refine lv_if_le (tgt := 130) hx hb dX9_faultOf_123 (by decide) (fun c123 => ?_) (fun c123 => ?_)
                  · rw [if_pos c123] at hR
                    refine lv_iload hx hb dX9_faultOf_130 (lv_at hl 3 rfl) ?_
                    refine lv_if_eq (tgt := 139) hx hb dX9_faultOf_132 (by decide) (fun c132 => ?_) (fun c132 => ?_)
                    · rw [if_pos c132] at hR
                      refine lv_iload hx hb dX9_faultOf_139 (lv_at hl 1 rfl) ?_
                      refine lv_if_eq (tgt := 148) hx hb dX9_faultOf_141 (by decide) (fun _ => ?_) (fun h => absurd (by decide) h)
                      refine lv_iconst (v := (0 : Int32)) hx hb dX9_faultOf_148 (by decide) ?_
                      refine lv_istore_n (lv' := [(1, .int (0 : Int32)), (7, .int (1 : Int32)), (6, .int (0 : Int32)), (5, .int (f_X9_in (mo_pad i4) (48 : Int32) (55 : Int32))), (4, .int (f_X9_in (mo_pad i4) (65 : Int32) (71 : Int32))), (3, .int (mo_pad i4)), (2, .int (nI i4)), (0, .ref mo)]) hx hb dX9_faultOf_149 rfl hl (by decide) rfl (fun ls hl => ?_)
                      refine lv_iinc (v := (nI (i4 + 1))) (lv' := [(2, .int (nI (i4 + 1))), (1, .int (0 : Int32)), (7, .int (1 : Int32)), (6, .int (0 : Int32)), (5, .int (f_X9_in (mo_pad i4) (48 : Int32) (55 : Int32))), (4, .int (f_X9_in (mo_pad i4) (65 : Int32) (71 : Int32))), (3, .int (mo_pad i4)), (0, .ref mo)]) hx hb dX9_faultOf_150 hl (k := 6) rfl (by exact nI_add i4 1) (by decide) rfl (fun ls hl => ?_)
                      refine lv_goto (tgt := 4) hx hb dX9_faultOf_153 (by decide) ?_
                      exact ih4 _ _ (by omega) _ (lv_sub hl [0, 1, 7] rfl) hR
                    · rw [if_neg c132] at hR
                      refine lv_iconst (v := (1 : Int32)) hx hb dX9_faultOf_135 (by decide) ?_
                      refine lv_goto (tgt := 149) hx hb dX9_faultOf_136 (by decide) ?_
                      refine lv_istore_n (lv' := [(1, .int (1 : Int32)), (7, .int (1 : Int32)), (6, .int (0 : Int32)), (5, .int (f_X9_in (mo_pad i4) (48 : Int32) (55 : Int32))), (4, .int (f_X9_in (mo_pad i4) (65 : Int32) (71 : Int32))), (3, .int (mo_pad i4)), (2, .int (nI i4)), (0, .ref mo)]) hx hb dX9_faultOf_149 rfl hl (by decide) rfl (fun ls hl => ?_)
                      refine lv_iinc (v := (nI (i4 + 1))) (lv' := [(2, .int (nI (i4 + 1))), (1, .int (1 : Int32)), (7, .int (1 : Int32)), (6, .int (0 : Int32)), (5, .int (f_X9_in (mo_pad i4) (48 : Int32) (55 : Int32))), (4, .int (f_X9_in (mo_pad i4) (65 : Int32) (71 : Int32))), (3, .int (mo_pad i4)), (0, .ref mo)]) hx hb dX9_faultOf_150 hl (k := 6) rfl (by exact nI_add i4 1) (by decide) rfl (fun ls hl => ?_)
                      refine lv_goto (tgt := 4) hx hb dX9_faultOf_153 (by decide) ?_
                      exact ih4 _ _ (by omega) _ (lv_sub hl [0, 1, 7] rfl) hR
                  · rw [if_neg c123] at hR
                    refine lv_iconst (v := (0 : Int32)) hx hb dX9_faultOf_126 (by decide) ?_
                    refine lv_goto (tgt := 149) hx hb dX9_faultOf_127 (by decide) ?_
                    refine lv_istore_n (lv' := [(1, .int (0 : Int32)), (7, .int (1 : Int32)), (6, .int (0 : Int32)), (5, .int (f_X9_in (mo_pad i4) (48 : Int32) (55 : Int32))), (4, .int (f_X9_in (mo_pad i4) (65 : Int32) (71 : Int32))), (3, .int (mo_pad i4)), (2, .int (nI i4)), (0, .ref mo)]) hx hb dX9_faultOf_149 rfl hl (by decide) rfl (fun ls hl => ?_)
                    refine lv_iinc (v := (nI (i4 + 1))) (lv' := [(2, .int (nI (i4 + 1))), (1, .int (0 : Int32)), (7, .int (1 : Int32)), (6, .int (0 : Int32)), (5, .int (f_X9_in (mo_pad i4) (48 : Int32) (55 : Int32))), (4, .int (f_X9_in (mo_pad i4) (65 : Int32) (71 : Int32))), (3, .int (mo_pad i4)), (0, .ref mo)]) hx hb dX9_faultOf_150 hl (k := 6) rfl (by exact nI_add i4 1) (by decide) rfl (fun ls hl => ?_)
                    refine lv_goto (tgt := 4) hx hb dX9_faultOf_153 (by decide) ?_
                    exact ih4 _ _ (by omega) _ (lv_sub hl [0, 1, 7] rfl) hR
                · rw [if_neg c99] at hR
                  refine lv_iload_n hx hb dX9_faultOf_102 rfl (lv_at hl 3 rfl) ?_
                  refine lv_bipush (v := (35 : Int32)) hx hb dX9_faultOf_103 (by decide +kernel) ?_
                  refine lv_icmp_ne (tgt := 112) hx hb dX9_faultOf_105 (by decide) (fun c105 => ?_) (fun c105 => ?_)
                  · rw [if_neg c105] at hR
                    refine lv_iconst (v := (0 : Int32)) hx hb dX9_faultOf_112 (by decide) ?_
                    refine lv_istore (lv' := [(7, .int (0 : Int32)), (6, .int (0 : Int32)), (5, .int (f_X9_in (mo_pad i4) (48 : Int32) (55 : Int32))), (4, .int (f_X9_in (mo_pad i4) (65 : Int32) (71 : Int32))), (3, .int (mo_pad i4)), (2, .int (nI i4)), (1, .int v1_4), (0, .ref mo)]) hx hb dX9_faultOf_113 hl (by decide) rfl (fun ls hl => ?_)
                    refine lv_iload hx hb dX9_faultOf_115 (lv_at hl 0 rfl) ?_
                    refine lv_if_ne (tgt := 122) hx hb dX9_faultOf_117 (by decide) (fun h => absurd (by decide) h) (fun _ => ?_)
                    refine lv_iload_n hx hb dX9_faultOf_120 rfl (lv_at hl 5 rfl) ?_
                    subst hR
                    exact ro_iret hx hb hr hlocks dX9_faultOf_121
                  · rw [if_pos c105] at hR
                    refine lv_iconst (v := (1 : Int32)) hx hb dX9_faultOf_108 (by decide) ?_
                    refine lv_goto (tgt := 113) hx hb dX9_faultOf_109 (by decide) ?_
                    refine lv_istore (lv' := [(7, .int (1 : Int32)), (6, .int (0 : Int32)), (5, .int (f_X9_in (mo_pad i4) (48 : Int32) (55 : Int32))), (4, .int (f_X9_in (mo_pad i4) (65 : Int32) (71 : Int32))), (3, .int (mo_pad i4)), (2, .int (nI i4)), (1, .int v1_4), (0, .ref mo)]) hx hb dX9_faultOf_113 hl (by decide) rfl (fun ls hl => ?_)
                    refine lv_iload hx hb dX9_faultOf_115 (lv_at hl 0 rfl) ?_
                    refine lv_if_ne (tgt := 122) hx hb dX9_faultOf_117 (by decide) (fun _ => ?_) (fun h => absurd h (by decide))
                    refine lv_iload_n hx hb dX9_faultOf_122 rfl (lv_at hl 6 rfl) ?_
                    refine lv_if_le (tgt := 130) hx hb dX9_faultOf_123 (by decide) (fun c123 => ?_) (fun c123 => ?_)
                    · rw [if_pos c123] at hR
                      refine lv_iload hx hb dX9_faultOf_130 (lv_at hl 3 rfl) ?_
                      refine lv_if_eq (tgt := 139) hx hb dX9_faultOf_132 (by decide) (fun c132 => ?_) (fun c132 => ?_)
                      · rw [if_pos c132] at hR
                        refine lv_iload hx hb dX9_faultOf_139 (lv_at hl 1 rfl) ?_
                        refine lv_if_eq (tgt := 148) hx hb dX9_faultOf_141 (by decide) (fun _ => ?_) (fun h => absurd (by decide) h)
                        refine lv_iconst (v := (0 : Int32)) hx hb dX9_faultOf_148 (by decide) ?_
                        refine lv_istore_n (lv' := [(1, .int (0 : Int32)), (7, .int (1 : Int32)), (6, .int (0 : Int32)), (5, .int (f_X9_in (mo_pad i4) (48 : Int32) (55 : Int32))), (4, .int (f_X9_in (mo_pad i4) (65 : Int32) (71 : Int32))), (3, .int (mo_pad i4)), (2, .int (nI i4)), (0, .ref mo)]) hx hb dX9_faultOf_149 rfl hl (by decide) rfl (fun ls hl => ?_)
                        refine lv_iinc (v := (nI (i4 + 1))) (lv' := [(2, .int (nI (i4 + 1))), (1, .int (0 : Int32)), (7, .int (1 : Int32)), (6, .int (0 : Int32)), (5, .int (f_X9_in (mo_pad i4) (48 : Int32) (55 : Int32))), (4, .int (f_X9_in (mo_pad i4) (65 : Int32) (71 : Int32))), (3, .int (mo_pad i4)), (0, .ref mo)]) hx hb dX9_faultOf_150 hl (k := 6) rfl (by exact nI_add i4 1) (by decide) rfl (fun ls hl => ?_)
                        refine lv_goto (tgt := 4) hx hb dX9_faultOf_153 (by decide) ?_
                        exact ih4 _ _ (by omega) _ (lv_sub hl [0, 1, 7] rfl) hR
                      · rw [if_neg c132] at hR
                        refine lv_iconst (v := (1 : Int32)) hx hb dX9_faultOf_135 (by decide) ?_
                        refine lv_goto (tgt := 149) hx hb dX9_faultOf_136 (by decide) ?_
                        refine lv_istore_n (lv' := [(1, .int (1 : Int32)), (7, .int (1 : Int32)), (6, .int (0 : Int32)), (5, .int (f_X9_in (mo_pad i4) (48 : Int32) (55 : Int32))), (4, .int (f_X9_in (mo_pad i4) (65 : Int32) (71 : Int32))), (3, .int (mo_pad i4)), (2, .int (nI i4)), (0, .ref mo)]) hx hb dX9_faultOf_149 rfl hl (by decide) rfl (fun ls hl => ?_)
                        refine lv_iinc (v := (nI (i4 + 1))) (lv' := [(2, .int (nI (i4 + 1))), (1, .int (1 : Int32)), (7, .int (1 : Int32)), (6, .int (0 : Int32)), (5, .int (f_X9_in (mo_pad i4) (48 : Int32) (55 : Int32))), (4, .int (f_X9_in (mo_pad i4) (65 : Int32) (71 : Int32))), (3, .int (mo_pad i4)), (0, .ref mo)]) hx hb dX9_faultOf_150 hl (k := 6) rfl (by exact nI_add i4 1) (by decide) rfl (fun ls hl => ?_)
                        refine lv_goto (tgt := 4) hx hb dX9_faultOf_153 (by decide) ?_
                        exact ih4 _ _ (by omega) _ (lv_sub hl [0, 1, 7] rfl) hR
                    · rw [if_neg c123] at hR
                      refine lv_iconst (v := (0 : Int32)) hx hb dX9_faultOf_126 (by decide) ?_
                      refine lv_goto (tgt := 149) hx hb dX9_faultOf_127 (by decide) ?_
                      refine lv_istore_n (lv' := [(1, .int (0 : Int32)), (7, .int (1 : Int32)), (6, .int (0 : Int32)), (5, .int (f_X9_in (mo_pad i4) (48 : Int32) (55 : Int32))), (4, .int (f_X9_in (mo_pad i4) (65 : Int32) (71 : Int32))), (3, .int (mo_pad i4)), (2, .int (nI i4)), (0, .ref mo)]) hx hb dX9_faultOf_149 rfl hl (by decide) rfl (fun ls hl => ?_)
                      refine lv_iinc (v := (nI (i4 + 1))) (lv' := [(2, .int (nI (i4 + 1))), (1, .int (0 : Int32)), (7, .int (1 : Int32)), (6, .int (0 : Int32)), (5, .int (f_X9_in (mo_pad i4) (48 : Int32) (55 : Int32))), (4, .int (f_X9_in (mo_pad i4) (65 : Int32) (71 : Int32))), (3, .int (mo_pad i4)), (0, .ref mo)]) hx hb dX9_faultOf_150 hl (k := 6) rfl (by exact nI_add i4 1) (by decide) rfl (fun ls hl => ?_)
                      refine lv_goto (tgt := 4) hx hb dX9_faultOf_153 (by decide) ?_
                      exact ih4 _ _ (by omega) _ (lv_sub hl [0, 1, 7] rfl) hR
          · rw [if_pos c59] at hR
            refine lv_iload hx hb dX9_faultOf_62 (lv_at hl 2 rfl) ?_
            refine lv_if_ne (tgt := 78) hx hb dX9_faultOf_64 (by decide) (fun c64 => ?_) (fun c64 => ?_)
            · rw [if_neg c64] at hR
              refine lv_iconst (v := (1 : Int32)) hx hb dX9_faultOf_78 (by decide) ?_
              refine lv_goto (tgt := 113) hx hb dX9_faultOf_79 (by decide) ?_
              refine lv_istore (lv' := [(7, .int (1 : Int32)), (6, .int (0 : Int32)), (5, .int (f_X9_in (mo_pad i4) (48 : Int32) (55 : Int32))), (4, .int (f_X9_in (mo_pad i4) (65 : Int32) (71 : Int32))), (3, .int (mo_pad i4)), (2, .int (nI i4)), (1, .int v1_4), (0, .ref mo)]) hx hb dX9_faultOf_113 hl (by decide) rfl (fun ls hl => ?_)
              refine lv_iload hx hb dX9_faultOf_115 (lv_at hl 0 rfl) ?_
              refine lv_if_ne (tgt := 122) hx hb dX9_faultOf_117 (by decide) (fun _ => ?_) (fun h => absurd h (by decide))
              refine lv_iload_n hx hb dX9_faultOf_122 rfl (lv_at hl 6 rfl) ?_
              refine lv_if_le (tgt := 130) hx hb dX9_faultOf_123 (by decide) (fun c123 => ?_) (fun c123 => ?_)
              · rw [if_pos c123] at hR
                refine lv_iload hx hb dX9_faultOf_130 (lv_at hl 3 rfl) ?_
                refine lv_if_eq (tgt := 139) hx hb dX9_faultOf_132 (by decide) (fun h => absurd h c64) (fun _ => ?_)
                refine lv_iconst (v := (1 : Int32)) hx hb dX9_faultOf_135 (by decide) ?_
                refine lv_goto (tgt := 149) hx hb dX9_faultOf_136 (by decide) ?_
                refine lv_istore_n (lv' := [(1, .int (1 : Int32)), (7, .int (1 : Int32)), (6, .int (0 : Int32)), (5, .int (f_X9_in (mo_pad i4) (48 : Int32) (55 : Int32))), (4, .int (f_X9_in (mo_pad i4) (65 : Int32) (71 : Int32))), (3, .int (mo_pad i4)), (2, .int (nI i4)), (0, .ref mo)]) hx hb dX9_faultOf_149 rfl hl (by decide) rfl (fun ls hl => ?_)
                refine lv_iinc (v := (nI (i4 + 1))) (lv' := [(2, .int (nI (i4 + 1))), (1, .int (1 : Int32)), (7, .int (1 : Int32)), (6, .int (0 : Int32)), (5, .int (f_X9_in (mo_pad i4) (48 : Int32) (55 : Int32))), (4, .int (f_X9_in (mo_pad i4) (65 : Int32) (71 : Int32))), (3, .int (mo_pad i4)), (0, .ref mo)]) hx hb dX9_faultOf_150 hl (k := 6) rfl (by exact nI_add i4 1) (by decide) rfl (fun ls hl => ?_)
                refine lv_goto (tgt := 4) hx hb dX9_faultOf_153 (by decide) ?_
                exact ih4 _ _ (by omega) _ (lv_sub hl [0, 1, 7] rfl) hR
              · rw [if_neg c123] at hR
                refine lv_iconst (v := (0 : Int32)) hx hb dX9_faultOf_126 (by decide) ?_
                refine lv_goto (tgt := 149) hx hb dX9_faultOf_127 (by decide) ?_
                refine lv_istore_n (lv' := [(1, .int (0 : Int32)), (7, .int (1 : Int32)), (6, .int (0 : Int32)), (5, .int (f_X9_in (mo_pad i4) (48 : Int32) (55 : Int32))), (4, .int (f_X9_in (mo_pad i4) (65 : Int32) (71 : Int32))), (3, .int (mo_pad i4)), (2, .int (nI i4)), (0, .ref mo)]) hx hb dX9_faultOf_149 rfl hl (by decide) rfl (fun ls hl => ?_)
                refine lv_iinc (v := (nI (i4 + 1))) (lv' := [(2, .int (nI (i4 + 1))), (1, .int (0 : Int32)), (7, .int (1 : Int32)), (6, .int (0 : Int32)), (5, .int (f_X9_in (mo_pad i4) (48 : Int32) (55 : Int32))), (4, .int (f_X9_in (mo_pad i4) (65 : Int32) (71 : Int32))), (3, .int (mo_pad i4)), (0, .ref mo)]) hx hb dX9_faultOf_150 hl (k := 6) rfl (by exact nI_add i4 1) (by decide) rfl (fun ls hl => ?_)
                refine lv_goto (tgt := 4) hx hb dX9_faultOf_153 (by decide) ?_
                exact ih4 _ _ (by omega) _ (lv_sub hl [0, 1, 7] rfl) hR
            · rw [if_pos c64] at hR
              refine lv_iload hx hb dX9_faultOf_67 (lv_at hl 0 rfl) ?_
              refine lv_if_ne (tgt := 78) hx hb dX9_faultOf_69 (by decide) (fun h => absurd (by decide) h) (fun _ => ?_)
              refine lv_iload_n hx hb dX9_faultOf_72 rfl (lv_at hl 3 rfl) ?_
              refine lv_bipush (v := (46 : Int32)) hx hb dX9_faultOf_73 (by decide +kernel) ?_
              refine lv_icmp_ne (tgt := 82) hx hb dX9_faultOf_75 (by decide) (fun c75 => ?_) (fun c75 => ?_)
              · rw [if_neg c75] at hR
                refine lv_iconst (v := (0 : Int32)) hx hb dX9_faultOf_82 (by decide) ?_
                refine lv_goto (tgt := 113) hx hb dX9_faultOf_83 (by decide) ?_
                refine lv_istore (lv' := [(7, .int (0 : Int32)), (6, .int (0 : Int32)), (5, .int (f_X9_in (mo_pad i4) (48 : Int32) (55 : Int32))), (4, .int (f_X9_in (mo_pad i4) (65 : Int32) (71 : Int32))), (3, .int (mo_pad i4)), (2, .int (nI i4)), (1, .int v1_4), (0, .ref mo)]) hx hb dX9_faultOf_113 hl (by decide) rfl (fun ls hl => ?_)
                refine lv_iload hx hb dX9_faultOf_115 (lv_at hl 0 rfl) ?_
                refine lv_if_ne (tgt := 122) hx hb dX9_faultOf_117 (by decide) (fun h => absurd (by decide) h) (fun _ => ?_)
                refine lv_iload_n hx hb dX9_faultOf_120 rfl (lv_at hl 5 rfl) ?_
                subst hR
                exact ro_iret hx hb hr hlocks dX9_faultOf_121
              · rw [if_pos c75] at hR
                refine lv_iconst (v := (1 : Int32)) hx hb dX9_faultOf_78 (by decide) ?_
                refine lv_goto (tgt := 113) hx hb dX9_faultOf_79 (by decide) ?_
                refine lv_istore (lv' := [(7, .int (1 : Int32)), (6, .int (0 : Int32)), (5, .int (f_X9_in (mo_pad i4) (48 : Int32) (55 : Int32))), (4, .int (f_X9_in (mo_pad i4) (65 : Int32) (71 : Int32))), (3, .int (mo_pad i4)), (2, .int (nI i4)), (1, .int v1_4), (0, .ref mo)]) hx hb dX9_faultOf_113 hl (by decide) rfl (fun ls hl => ?_)
                refine lv_iload hx hb dX9_faultOf_115 (lv_at hl 0 rfl) ?_
                refine lv_if_ne (tgt := 122) hx hb dX9_faultOf_117 (by decide) (fun _ => ?_) (fun h => absurd h (by decide))
                refine lv_iload_n hx hb dX9_faultOf_122 rfl (lv_at hl 6 rfl) ?_
                refine lv_if_le (tgt := 130) hx hb dX9_faultOf_123 (by decide) (fun c123 => ?_) (fun c123 => ?_)
                · refine lv_iload hx hb dX9_faultOf_130 (lv_at hl 3 rfl) ?_
                  refine lv_if_eq (tgt := 139) hx hb dX9_faultOf_132 (by decide) (fun _ => ?_) (fun h => absurd c64 h)
                  refine lv_iload hx hb dX9_faultOf_139 (lv_at hl 1 rfl) ?_
                  refine lv_if_eq (tgt := 148) hx hb dX9_faultOf_141 (by decide) (fun _ => ?_) (fun h => absurd (by decide) h)
                  refine lv_iconst (v := (0 : Int32)) hx hb dX9_faultOf_148 (by decide) ?_
                  refine lv_istore_n (lv' := [(1, .int (0 : Int32)), (7, .int (1 : Int32)), (6, .int (0 : Int32)), (5, .int (f_X9_in (mo_pad i4) (48 : Int32) (55 : Int32))), (4, .int (f_X9_in (mo_pad i4) (65 : Int32) (71 : Int32))), (3, .int (mo_pad i4)), (2, .int (nI i4)), (0, .ref mo)]) hx hb dX9_faultOf_149 rfl hl (by decide) rfl (fun ls hl => ?_)
                  refine lv_iinc (v := (nI (i4 + 1))) (lv' := [(2, .int (nI (i4 + 1))), (1, .int (0 : Int32)), (7, .int (1 : Int32)), (6, .int (0 : Int32)), (5, .int (f_X9_in (mo_pad i4) (48 : Int32) (55 : Int32))), (4, .int (f_X9_in (mo_pad i4) (65 : Int32) (71 : Int32))), (3, .int (mo_pad i4)), (0, .ref mo)]) hx hb dX9_faultOf_150 hl (k := 6) rfl (by exact nI_add i4 1) (by decide) rfl (fun ls hl => ?_)
                  refine lv_goto (tgt := 4) hx hb dX9_faultOf_153 (by decide) ?_
                  exact ih4 _ _ (by omega) _ (lv_sub hl [0, 1, 7] rfl) hR
                · refine lv_iconst (v := (0 : Int32)) hx hb dX9_faultOf_126 (by decide) ?_
                  refine lv_goto (tgt := 149) hx hb dX9_faultOf_127 (by decide) ?_
                  refine lv_istore_n (lv' := [(1, .int (0 : Int32)), (7, .int (1 : Int32)), (6, .int (0 : Int32)), (5, .int (f_X9_in (mo_pad i4) (48 : Int32) (55 : Int32))), (4, .int (f_X9_in (mo_pad i4) (65 : Int32) (71 : Int32))), (3, .int (mo_pad i4)), (2, .int (nI i4)), (0, .ref mo)]) hx hb dX9_faultOf_149 rfl hl (by decide) rfl (fun ls hl => ?_)
                  refine lv_iinc (v := (nI (i4 + 1))) (lv' := [(2, .int (nI (i4 + 1))), (1, .int (0 : Int32)), (7, .int (1 : Int32)), (6, .int (0 : Int32)), (5, .int (f_X9_in (mo_pad i4) (48 : Int32) (55 : Int32))), (4, .int (f_X9_in (mo_pad i4) (65 : Int32) (71 : Int32))), (3, .int (mo_pad i4)), (0, .ref mo)]) hx hb dX9_faultOf_150 hl (k := 6) rfl (by exact nI_add i4 1) (by decide) rfl (fun ls hl => ?_)
                  refine lv_goto (tgt := 4) hx hb dX9_faultOf_153 (by decide) ?_
                  exact ih4 _ _ (by omega) _ (lv_sub hl [0, 1, 7] rfl) hR
        · rw [if_pos c48] at hR
          refine lv_iconst (v := (1 : Int32)) hx hb dX9_faultOf_51 (by decide) ?_
          refine lv_goto (tgt := 56) hx hb dX9_faultOf_52 (by decide) ?_
          refine lv_istore (lv' := [(6, .int (1 : Int32)), (5, .int (f_X9_in (mo_pad i4) (48 : Int32) (55 : Int32))), (4, .int (f_X9_in (mo_pad i4) (65 : Int32) (71 : Int32))), (3, .int (mo_pad i4)), (2, .int (nI i4)), (1, .int v1_4), (0, .ref mo)]) hx hb dX9_faultOf_56 hl (by decide) rfl (fun ls hl => ?_)
          refine lv_iload_n hx hb dX9_faultOf_58 rfl (lv_at hl 5 rfl) ?_
          refine lv_if_ne (tgt := 86) hx hb dX9_faultOf_59 (by decide) (fun c59 => ?_) (fun c59 => ?_)
          · rw [if_neg c59] at hR
            refine lv_iload hx hb dX9_faultOf_86 (lv_at hl 1 rfl) ?_
            refine lv_if_ne (tgt := 108) hx hb dX9_faultOf_88 (by decide) (fun c88 => ?_) (fun c88 => ?_)
            · rw [if_neg c88] at hR
              refine lv_iconst (v := (1 : Int32)) hx hb dX9_faultOf_108 (by decide) ?_
              refine lv_goto (tgt := 113) hx hb dX9_faultOf_109 (by decide) ?_
              refine lv_istore (lv' := [(7, .int (1 : Int32)), (6, .int (1 : Int32)), (5, .int (f_X9_in (mo_pad i4) (48 : Int32) (55 : Int32))), (4, .int (f_X9_in (mo_pad i4) (65 : Int32) (71 : Int32))), (3, .int (mo_pad i4)), (2, .int (nI i4)), (1, .int v1_4), (0, .ref mo)]) hx hb dX9_faultOf_113 hl (by decide) rfl (fun ls hl => ?_)
              refine lv_iload hx hb dX9_faultOf_115 (lv_at hl 0 rfl) ?_
              refine lv_if_ne (tgt := 122) hx hb dX9_faultOf_117 (by decide) (fun _ => ?_) (fun h => absurd h (by decide))
              refine lv_iload_n hx hb dX9_faultOf_122 rfl (lv_at hl 6 rfl) ?_
              refine lv_if_le (tgt := 130) hx hb dX9_faultOf_123 (by decide) (fun c123 => ?_) (fun c123 => ?_)
              · rw [if_pos c123] at hR
                refine lv_iload hx hb dX9_faultOf_130 (lv_at hl 3 rfl) ?_
                refine lv_if_eq (tgt := 139) hx hb dX9_faultOf_132 (by decide) (fun c132 => ?_) (fun c132 => ?_)
                · rw [if_pos c132] at hR
                  refine lv_iload hx hb dX9_faultOf_139 (lv_at hl 1 rfl) ?_
                  refine lv_if_eq (tgt := 148) hx hb dX9_faultOf_141 (by decide) (fun h => absurd h (by decide)) (fun _ => ?_)
                  refine lv_iconst (v := (2 : Int32)) hx hb dX9_faultOf_144 (by decide) ?_
                  refine lv_goto (tgt := 149) hx hb dX9_faultOf_145 (by decide) ?_
                  refine lv_istore_n (lv' := [(1, .int (2 : Int32)), (7, .int (1 : Int32)), (6, .int (1 : Int32)), (5, .int (f_X9_in (mo_pad i4) (48 : Int32) (55 : Int32))), (4, .int (f_X9_in (mo_pad i4) (65 : Int32) (71 : Int32))), (3, .int (mo_pad i4)), (2, .int (nI i4)), (0, .ref mo)]) hx hb dX9_faultOf_149 rfl hl (by decide) rfl (fun ls hl => ?_)
                  refine lv_iinc (v := (nI (i4 + 1))) (lv' := [(2, .int (nI (i4 + 1))), (1, .int (2 : Int32)), (7, .int (1 : Int32)), (6, .int (1 : Int32)), (5, .int (f_X9_in (mo_pad i4) (48 : Int32) (55 : Int32))), (4, .int (f_X9_in (mo_pad i4) (65 : Int32) (71 : Int32))), (3, .int (mo_pad i4)), (0, .ref mo)]) hx hb dX9_faultOf_150 hl (k := 6) rfl (by exact nI_add i4 1) (by decide) rfl (fun ls hl => ?_)
                  refine lv_goto (tgt := 4) hx hb dX9_faultOf_153 (by decide) ?_
                  exact ih4 _ _ (by omega) _ (lv_sub hl [0, 1, 7] rfl) hR
                · rw [if_neg c132] at hR
                  refine lv_iconst (v := (1 : Int32)) hx hb dX9_faultOf_135 (by decide) ?_
                  refine lv_goto (tgt := 149) hx hb dX9_faultOf_136 (by decide) ?_
                  refine lv_istore_n (lv' := [(1, .int (1 : Int32)), (7, .int (1 : Int32)), (6, .int (1 : Int32)), (5, .int (f_X9_in (mo_pad i4) (48 : Int32) (55 : Int32))), (4, .int (f_X9_in (mo_pad i4) (65 : Int32) (71 : Int32))), (3, .int (mo_pad i4)), (2, .int (nI i4)), (0, .ref mo)]) hx hb dX9_faultOf_149 rfl hl (by decide) rfl (fun ls hl => ?_)
                  refine lv_iinc (v := (nI (i4 + 1))) (lv' := [(2, .int (nI (i4 + 1))), (1, .int (1 : Int32)), (7, .int (1 : Int32)), (6, .int (1 : Int32)), (5, .int (f_X9_in (mo_pad i4) (48 : Int32) (55 : Int32))), (4, .int (f_X9_in (mo_pad i4) (65 : Int32) (71 : Int32))), (3, .int (mo_pad i4)), (0, .ref mo)]) hx hb dX9_faultOf_150 hl (k := 6) rfl (by exact nI_add i4 1) (by decide) rfl (fun ls hl => ?_)
                  refine lv_goto (tgt := 4) hx hb dX9_faultOf_153 (by decide) ?_
                  exact ih4 _ _ (by omega) _ (lv_sub hl [0, 1, 7] rfl) hR
              · rw [if_neg c123] at hR
                refine lv_iconst (v := (0 : Int32)) hx hb dX9_faultOf_126 (by decide) ?_
                refine lv_goto (tgt := 149) hx hb dX9_faultOf_127 (by decide) ?_
                refine lv_istore_n (lv' := [(1, .int (0 : Int32)), (7, .int (1 : Int32)), (6, .int (1 : Int32)), (5, .int (f_X9_in (mo_pad i4) (48 : Int32) (55 : Int32))), (4, .int (f_X9_in (mo_pad i4) (65 : Int32) (71 : Int32))), (3, .int (mo_pad i4)), (2, .int (nI i4)), (0, .ref mo)]) hx hb dX9_faultOf_149 rfl hl (by decide) rfl (fun ls hl => ?_)
                refine lv_iinc (v := (nI (i4 + 1))) (lv' := [(2, .int (nI (i4 + 1))), (1, .int (0 : Int32)), (7, .int (1 : Int32)), (6, .int (1 : Int32)), (5, .int (f_X9_in (mo_pad i4) (48 : Int32) (55 : Int32))), (4, .int (f_X9_in (mo_pad i4) (65 : Int32) (71 : Int32))), (3, .int (mo_pad i4)), (0, .ref mo)]) hx hb dX9_faultOf_150 hl (k := 6) rfl (by exact nI_add i4 1) (by decide) rfl (fun ls hl => ?_)
                refine lv_goto (tgt := 4) hx hb dX9_faultOf_153 (by decide) ?_
                exact ih4 _ _ (by omega) _ (lv_sub hl [0, 1, 7] rfl) hR
            · rw [if_pos c88] at hR
              refine lv_iload_n hx hb dX9_faultOf_91 rfl (lv_at hl 5 rfl) ?_
              refine lv_iconst (v := (1 : Int32)) hx hb dX9_faultOf_92 (by decide) ?_
              refine lv_icmp_ne (tgt := 112) hx hb dX9_faultOf_93 (by decide) (fun c93 => ?_) (fun c93 => ?_)
              · rw [if_neg c93] at hR
                refine lv_iconst (v := (0 : Int32)) hx hb dX9_faultOf_112 (by decide) ?_
                refine lv_istore (lv' := [(7, .int (0 : Int32)), (6, .int (1 : Int32)), (5, .int (f_X9_in (mo_pad i4) (48 : Int32) (55 : Int32))), (4, .int (f_X9_in (mo_pad i4) (65 : Int32) (71 : Int32))), (3, .int (mo_pad i4)), (2, .int (nI i4)), (1, .int v1_4), (0, .ref mo)]) hx hb dX9_faultOf_113 hl (by decide) rfl (fun ls hl => ?_)
                refine lv_iload hx hb dX9_faultOf_115 (lv_at hl 0 rfl) ?_
                refine lv_if_ne (tgt := 122) hx hb dX9_faultOf_117 (by decide) (fun h => absurd (by decide) h) (fun _ => ?_)
                refine lv_iload_n hx hb dX9_faultOf_120 rfl (lv_at hl 5 rfl) ?_
                subst hR
                exact ro_iret hx hb hr hlocks dX9_faultOf_121
              · rw [if_pos c93] at hR
                refine lv_iload_n hx hb dX9_faultOf_96 rfl (lv_at hl 3 rfl) ?_
                refine lv_bipush (v := (42 : Int32)) hx hb dX9_faultOf_97 (by decide +kernel) ?_
                refine lv_icmp_eq (tgt := 108) hx hb dX9_faultOf_99 (by decide) (fun c99 => ?_) (fun c99 => ?_)
                · rw [if_pos c99] at hR
                  refine lv_iconst (v := (1 : Int32)) hx hb dX9_faultOf_108 (by decide) ?_
                  refine lv_goto (tgt := 113) hx hb dX9_faultOf_109 (by decide) ?_
                  refine lv_istore (lv' := [(7, .int (1 : Int32)), (6, .int (1 : Int32)), (5, .int (f_X9_in (mo_pad i4) (48 : Int32) (55 : Int32))), (4, .int (f_X9_in (mo_pad i4) (65 : Int32) (71 : Int32))), (3, .int (mo_pad i4)), (2, .int (nI i4)), (1, .int v1_4), (0, .ref mo)]) hx hb dX9_faultOf_113 hl (by decide) rfl (fun ls hl => ?_)
                  refine lv_iload hx hb dX9_faultOf_115 (lv_at hl 0 rfl) ?_
                  refine lv_if_ne (tgt := 122) hx hb dX9_faultOf_117 (by decide) (fun _ => ?_) (fun h => absurd h (by decide))
                  refine lv_iload_n hx hb dX9_faultOf_122 rfl (lv_at hl 6 rfl) ?_
                  refine lv_if_le (tgt := 130) hx hb dX9_faultOf_123 (by decide) (fun c123 => ?_) (fun c123 => ?_)
                  · rw [if_pos c123] at hR
                    refine lv_iload hx hb dX9_faultOf_130 (lv_at hl 3 rfl) ?_
                    refine lv_if_eq (tgt := 139) hx hb dX9_faultOf_132 (by decide) (fun c132 => ?_) (fun c132 => ?_)
                    · rw [if_pos c132] at hR
                      refine lv_iload hx hb dX9_faultOf_139 (lv_at hl 1 rfl) ?_
                      refine lv_if_eq (tgt := 148) hx hb dX9_faultOf_141 (by decide) (fun h => absurd h (by decide)) (fun _ => ?_)
                      refine lv_iconst (v := (2 : Int32)) hx hb dX9_faultOf_144 (by decide) ?_
                      refine lv_goto (tgt := 149) hx hb dX9_faultOf_145 (by decide) ?_
                      refine lv_istore_n (lv' := [(1, .int (2 : Int32)), (7, .int (1 : Int32)), (6, .int (1 : Int32)), (5, .int (f_X9_in (mo_pad i4) (48 : Int32) (55 : Int32))), (4, .int (f_X9_in (mo_pad i4) (65 : Int32) (71 : Int32))), (3, .int (mo_pad i4)), (2, .int (nI i4)), (0, .ref mo)]) hx hb dX9_faultOf_149 rfl hl (by decide) rfl (fun ls hl => ?_)
                      refine lv_iinc (v := (nI (i4 + 1))) (lv' := [(2, .int (nI (i4 + 1))), (1, .int (2 : Int32)), (7, .int (1 : Int32)), (6, .int (1 : Int32)), (5, .int (f_X9_in (mo_pad i4) (48 : Int32) (55 : Int32))), (4, .int (f_X9_in (mo_pad i4) (65 : Int32) (71 : Int32))), (3, .int (mo_pad i4)), (0, .ref mo)]) hx hb dX9_faultOf_150 hl (k := 6) rfl (by exact nI_add i4 1) (by decide) rfl (fun ls hl => ?_)
                      refine lv_goto (tgt := 4) hx hb dX9_faultOf_153 (by decide) ?_
                      exact ih4 _ _ (by omega) _ (lv_sub hl [0, 1, 7] rfl) hR
                    · rw [if_neg c132] at hR
                      refine lv_iconst (v := (1 : Int32)) hx hb dX9_faultOf_135 (by decide) ?_
                      refine lv_goto (tgt := 149) hx hb dX9_faultOf_136 (by decide) ?_
                      refine lv_istore_n (lv' := [(1, .int (1 : Int32)), (7, .int (1 : Int32)), (6, .int (1 : Int32)), (5, .int (f_X9_in (mo_pad i4) (48 : Int32) (55 : Int32))), (4, .int (f_X9_in (mo_pad i4) (65 : Int32) (71 : Int32))), (3, .int (mo_pad i4)), (2, .int (nI i4)), (0, .ref mo)]) hx hb dX9_faultOf_149 rfl hl (by decide) rfl (fun ls hl => ?_)
                      refine lv_iinc (v := (nI (i4 + 1))) (lv' := [(2, .int (nI (i4 + 1))), (1, .int (1 : Int32)), (7, .int (1 : Int32)), (6, .int (1 : Int32)), (5, .int (f_X9_in (mo_pad i4) (48 : Int32) (55 : Int32))), (4, .int (f_X9_in (mo_pad i4) (65 : Int32) (71 : Int32))), (3, .int (mo_pad i4)), (0, .ref mo)]) hx hb dX9_faultOf_150 hl (k := 6) rfl (by exact nI_add i4 1) (by decide) rfl (fun ls hl => ?_)
                      refine lv_goto (tgt := 4) hx hb dX9_faultOf_153 (by decide) ?_
                      exact ih4 _ _ (by omega) _ (lv_sub hl [0, 1, 7] rfl) hR
                  · rw [if_neg c123] at hR
                    refine lv_iconst (v := (0 : Int32)) hx hb dX9_faultOf_126 (by decide) ?_
                    refine lv_goto (tgt := 149) hx hb dX9_faultOf_127 (by decide) ?_
                    refine lv_istore_n (lv' := [(1, .int (0 : Int32)), (7, .int (1 : Int32)), (6, .int (1 : Int32)), (5, .int (f_X9_in (mo_pad i4) (48 : Int32) (55 : Int32))), (4, .int (f_X9_in (mo_pad i4) (65 : Int32) (71 : Int32))), (3, .int (mo_pad i4)), (2, .int (nI i4)), (0, .ref mo)]) hx hb dX9_faultOf_149 rfl hl (by decide) rfl (fun ls hl => ?_)
                    refine lv_iinc (v := (nI (i4 + 1))) (lv' := [(2, .int (nI (i4 + 1))), (1, .int (0 : Int32)), (7, .int (1 : Int32)), (6, .int (1 : Int32)), (5, .int (f_X9_in (mo_pad i4) (48 : Int32) (55 : Int32))), (4, .int (f_X9_in (mo_pad i4) (65 : Int32) (71 : Int32))), (3, .int (mo_pad i4)), (0, .ref mo)]) hx hb dX9_faultOf_150 hl (k := 6) rfl (by exact nI_add i4 1) (by decide) rfl (fun ls hl => ?_)
                    refine lv_goto (tgt := 4) hx hb dX9_faultOf_153 (by decide) ?_
                    exact ih4 _ _ (by omega) _ (lv_sub hl [0, 1, 7] rfl) hR
                · rw [if_neg c99] at hR
                  refine lv_iload_n hx hb dX9_faultOf_102 rfl (lv_at hl 3 rfl) ?_
                  refine lv_bipush (v := (35 : Int32)) hx hb dX9_faultOf_103 (by decide +kernel) ?_
                  refine lv_icmp_ne (tgt := 112) hx hb dX9_faultOf_105 (by decide) (fun c105 => ?_) (fun c105 => ?_)
                  · rw [if_neg c105] at hR
                    refine lv_iconst (v := (0 : Int32)) hx hb dX9_faultOf_112 (by decide) ?_
                    refine lv_istore (lv' := [(7, .int (0 : Int32)), (6, .int (1 : Int32)), (5, .int (f_X9_in (mo_pad i4) (48 : Int32) (55 : Int32))), (4, .int (f_X9_in (mo_pad i4) (65 : Int32) (71 : Int32))), (3, .int (mo_pad i4)), (2, .int (nI i4)), (1, .int v1_4), (0, .ref mo)]) hx hb dX9_faultOf_113 hl (by decide) rfl (fun ls hl => ?_)
                    refine lv_iload hx hb dX9_faultOf_115 (lv_at hl 0 rfl) ?_
                    refine lv_if_ne (tgt := 122) hx hb dX9_faultOf_117 (by decide) (fun h => absurd (by decide) h) (fun _ => ?_)
                    refine lv_iload_n hx hb dX9_faultOf_120 rfl (lv_at hl 5 rfl) ?_
                    subst hR
                    exact ro_iret hx hb hr hlocks dX9_faultOf_121
                  · rw [if_pos c105] at hR
                    refine lv_iconst (v := (1 : Int32)) hx hb dX9_faultOf_108 (by decide) ?_
                    refine lv_goto (tgt := 113) hx hb dX9_faultOf_109 (by decide) ?_
                    refine lv_istore (lv' := [(7, .int (1 : Int32)), (6, .int (1 : Int32)), (5, .int (f_X9_in (mo_pad i4) (48 : Int32) (55 : Int32))), (4, .int (f_X9_in (mo_pad i4) (65 : Int32) (71 : Int32))), (3, .int (mo_pad i4)), (2, .int (nI i4)), (1, .int v1_4), (0, .ref mo)]) hx hb dX9_faultOf_113 hl (by decide) rfl (fun ls hl => ?_)
                    refine lv_iload hx hb dX9_faultOf_115 (lv_at hl 0 rfl) ?_
                    refine lv_if_ne (tgt := 122) hx hb dX9_faultOf_117 (by decide) (fun _ => ?_) (fun h => absurd h (by decide))
                    refine lv_iload_n hx hb dX9_faultOf_122 rfl (lv_at hl 6 rfl) ?_
                    refine lv_if_le (tgt := 130) hx hb dX9_faultOf_123 (by decide) (fun c123 => ?_) (fun c123 => ?_)
                    · rw [if_pos c123] at hR
                      refine lv_iload hx hb dX9_faultOf_130 (lv_at hl 3 rfl) ?_
                      refine lv_if_eq (tgt := 139) hx hb dX9_faultOf_132 (by decide) (fun c132 => ?_) (fun c132 => ?_)
                      · rw [if_pos c132] at hR
                        refine lv_iload hx hb dX9_faultOf_139 (lv_at hl 1 rfl) ?_
                        refine lv_if_eq (tgt := 148) hx hb dX9_faultOf_141 (by decide) (fun h => absurd h (by decide)) (fun _ => ?_)
                        refine lv_iconst (v := (2 : Int32)) hx hb dX9_faultOf_144 (by decide) ?_
                        refine lv_goto (tgt := 149) hx hb dX9_faultOf_145 (by decide) ?_
                        refine lv_istore_n (lv' := [(1, .int (2 : Int32)), (7, .int (1 : Int32)), (6, .int (1 : Int32)), (5, .int (f_X9_in (mo_pad i4) (48 : Int32) (55 : Int32))), (4, .int (f_X9_in (mo_pad i4) (65 : Int32) (71 : Int32))), (3, .int (mo_pad i4)), (2, .int (nI i4)), (0, .ref mo)]) hx hb dX9_faultOf_149 rfl hl (by decide) rfl (fun ls hl => ?_)
                        refine lv_iinc (v := (nI (i4 + 1))) (lv' := [(2, .int (nI (i4 + 1))), (1, .int (2 : Int32)), (7, .int (1 : Int32)), (6, .int (1 : Int32)), (5, .int (f_X9_in (mo_pad i4) (48 : Int32) (55 : Int32))), (4, .int (f_X9_in (mo_pad i4) (65 : Int32) (71 : Int32))), (3, .int (mo_pad i4)), (0, .ref mo)]) hx hb dX9_faultOf_150 hl (k := 6) rfl (by exact nI_add i4 1) (by decide) rfl (fun ls hl => ?_)
                        refine lv_goto (tgt := 4) hx hb dX9_faultOf_153 (by decide) ?_
                        exact ih4 _ _ (by omega) _ (lv_sub hl [0, 1, 7] rfl) hR
                      · rw [if_neg c132] at hR
                        refine lv_iconst (v := (1 : Int32)) hx hb dX9_faultOf_135 (by decide) ?_
                        refine lv_goto (tgt := 149) hx hb dX9_faultOf_136 (by decide) ?_
                        refine lv_istore_n (lv' := [(1, .int (1 : Int32)), (7, .int (1 : Int32)), (6, .int (1 : Int32)), (5, .int (f_X9_in (mo_pad i4) (48 : Int32) (55 : Int32))), (4, .int (f_X9_in (mo_pad i4) (65 : Int32) (71 : Int32))), (3, .int (mo_pad i4)), (2, .int (nI i4)), (0, .ref mo)]) hx hb dX9_faultOf_149 rfl hl (by decide) rfl (fun ls hl => ?_)
                        refine lv_iinc (v := (nI (i4 + 1))) (lv' := [(2, .int (nI (i4 + 1))), (1, .int (1 : Int32)), (7, .int (1 : Int32)), (6, .int (1 : Int32)), (5, .int (f_X9_in (mo_pad i4) (48 : Int32) (55 : Int32))), (4, .int (f_X9_in (mo_pad i4) (65 : Int32) (71 : Int32))), (3, .int (mo_pad i4)), (0, .ref mo)]) hx hb dX9_faultOf_150 hl (k := 6) rfl (by exact nI_add i4 1) (by decide) rfl (fun ls hl => ?_)
                        refine lv_goto (tgt := 4) hx hb dX9_faultOf_153 (by decide) ?_
                        exact ih4 _ _ (by omega) _ (lv_sub hl [0, 1, 7] rfl) hR
                    · rw [if_neg c123] at hR
                      refine lv_iconst (v := (0 : Int32)) hx hb dX9_faultOf_126 (by decide) ?_
                      refine lv_goto (tgt := 149) hx hb dX9_faultOf_127 (by decide) ?_
                      refine lv_istore_n (lv' := [(1, .int (0 : Int32)), (7, .int (1 : Int32)), (6, .int (1 : Int32)), (5, .int (f_X9_in (mo_pad i4) (48 : Int32) (55 : Int32))), (4, .int (f_X9_in (mo_pad i4) (65 : Int32) (71 : Int32))), (3, .int (mo_pad i4)), (2, .int (nI i4)), (0, .ref mo)]) hx hb dX9_faultOf_149 rfl hl (by decide) rfl (fun ls hl => ?_)
                      refine lv_iinc (v := (nI (i4 + 1))) (lv' := [(2, .int (nI (i4 + 1))), (1, .int (0 : Int32)), (7, .int (1 : Int32)), (6, .int (1 : Int32)), (5, .int (f_X9_in (mo_pad i4) (48 : Int32) (55 : Int32))), (4, .int (f_X9_in (mo_pad i4) (65 : Int32) (71 : Int32))), (3, .int (mo_pad i4)), (0, .ref mo)]) hx hb dX9_faultOf_150 hl (k := 6) rfl (by exact nI_add i4 1) (by decide) rfl (fun ls hl => ?_)
                      refine lv_goto (tgt := 4) hx hb dX9_faultOf_153 (by decide) ?_
                      exact ih4 _ _ (by omega) _ (lv_sub hl [0, 1, 7] rfl) hR
          · rw [if_pos c59] at hR
            refine lv_iload hx hb dX9_faultOf_62 (lv_at hl 2 rfl) ?_
            refine lv_if_ne (tgt := 78) hx hb dX9_faultOf_64 (by decide) (fun c64 => ?_) (fun c64 => ?_)
            · rw [if_neg c64] at hR
              refine lv_iconst (v := (1 : Int32)) hx hb dX9_faultOf_78 (by decide) ?_
              refine lv_goto (tgt := 113) hx hb dX9_faultOf_79 (by decide) ?_
              refine lv_istore (lv' := [(7, .int (1 : Int32)), (6, .int (1 : Int32)), (5, .int (f_X9_in (mo_pad i4) (48 : Int32) (55 : Int32))), (4, .int (f_X9_in (mo_pad i4) (65 : Int32) (71 : Int32))), (3, .int (mo_pad i4)), (2, .int (nI i4)), (1, .int v1_4), (0, .ref mo)]) hx hb dX9_faultOf_113 hl (by decide) rfl (fun ls hl => ?_)
              refine lv_iload hx hb dX9_faultOf_115 (lv_at hl 0 rfl) ?_
              refine lv_if_ne (tgt := 122) hx hb dX9_faultOf_117 (by decide) (fun _ => ?_) (fun h => absurd h (by decide))
              refine lv_iload_n hx hb dX9_faultOf_122 rfl (lv_at hl 6 rfl) ?_
              refine lv_if_le (tgt := 130) hx hb dX9_faultOf_123 (by decide) (fun c123 => ?_) (fun c123 => ?_)
              · rw [if_pos c123] at hR
                refine lv_iload hx hb dX9_faultOf_130 (lv_at hl 3 rfl) ?_
                refine lv_if_eq (tgt := 139) hx hb dX9_faultOf_132 (by decide) (fun h => absurd h c64) (fun _ => ?_)
                refine lv_iconst (v := (1 : Int32)) hx hb dX9_faultOf_135 (by decide) ?_
                refine lv_goto (tgt := 149) hx hb dX9_faultOf_136 (by decide) ?_
                refine lv_istore_n (lv' := [(1, .int (1 : Int32)), (7, .int (1 : Int32)), (6, .int (1 : Int32)), (5, .int (f_X9_in (mo_pad i4) (48 : Int32) (55 : Int32))), (4, .int (f_X9_in (mo_pad i4) (65 : Int32) (71 : Int32))), (3, .int (mo_pad i4)), (2, .int (nI i4)), (0, .ref mo)]) hx hb dX9_faultOf_149 rfl hl (by decide) rfl (fun ls hl => ?_)
                refine lv_iinc (v := (nI (i4 + 1))) (lv' := [(2, .int (nI (i4 + 1))), (1, .int (1 : Int32)), (7, .int (1 : Int32)), (6, .int (1 : Int32)), (5, .int (f_X9_in (mo_pad i4) (48 : Int32) (55 : Int32))), (4, .int (f_X9_in (mo_pad i4) (65 : Int32) (71 : Int32))), (3, .int (mo_pad i4)), (0, .ref mo)]) hx hb dX9_faultOf_150 hl (k := 6) rfl (by exact nI_add i4 1) (by decide) rfl (fun ls hl => ?_)
                refine lv_goto (tgt := 4) hx hb dX9_faultOf_153 (by decide) ?_
                exact ih4 _ _ (by omega) _ (lv_sub hl [0, 1, 7] rfl) hR
              · rw [if_neg c123] at hR
                refine lv_iconst (v := (0 : Int32)) hx hb dX9_faultOf_126 (by decide) ?_
                refine lv_goto (tgt := 149) hx hb dX9_faultOf_127 (by decide) ?_
                refine lv_istore_n (lv' := [(1, .int (0 : Int32)), (7, .int (1 : Int32)), (6, .int (1 : Int32)), (5, .int (f_X9_in (mo_pad i4) (48 : Int32) (55 : Int32))), (4, .int (f_X9_in (mo_pad i4) (65 : Int32) (71 : Int32))), (3, .int (mo_pad i4)), (2, .int (nI i4)), (0, .ref mo)]) hx hb dX9_faultOf_149 rfl hl (by decide) rfl (fun ls hl => ?_)
                refine lv_iinc (v := (nI (i4 + 1))) (lv' := [(2, .int (nI (i4 + 1))), (1, .int (0 : Int32)), (7, .int (1 : Int32)), (6, .int (1 : Int32)), (5, .int (f_X9_in (mo_pad i4) (48 : Int32) (55 : Int32))), (4, .int (f_X9_in (mo_pad i4) (65 : Int32) (71 : Int32))), (3, .int (mo_pad i4)), (0, .ref mo)]) hx hb dX9_faultOf_150 hl (k := 6) rfl (by exact nI_add i4 1) (by decide) rfl (fun ls hl => ?_)
                refine lv_goto (tgt := 4) hx hb dX9_faultOf_153 (by decide) ?_
                exact ih4 _ _ (by omega) _ (lv_sub hl [0, 1, 7] rfl) hR
            · rw [if_pos c64] at hR
              refine lv_iload hx hb dX9_faultOf_67 (lv_at hl 0 rfl) ?_
              refine lv_if_ne (tgt := 78) hx hb dX9_faultOf_69 (by decide) (fun _ => ?_) (fun h => absurd h (by decide))
              refine lv_iconst (v := (1 : Int32)) hx hb dX9_faultOf_78 (by decide) ?_
              refine lv_goto (tgt := 113) hx hb dX9_faultOf_79 (by decide) ?_
              refine lv_istore (lv' := [(7, .int (1 : Int32)), (6, .int (1 : Int32)), (5, .int (f_X9_in (mo_pad i4) (48 : Int32) (55 : Int32))), (4, .int (f_X9_in (mo_pad i4) (65 : Int32) (71 : Int32))), (3, .int (mo_pad i4)), (2, .int (nI i4)), (1, .int v1_4), (0, .ref mo)]) hx hb dX9_faultOf_113 hl (by decide) rfl (fun ls hl => ?_)
              refine lv_iload hx hb dX9_faultOf_115 (lv_at hl 0 rfl) ?_
              refine lv_if_ne (tgt := 122) hx hb dX9_faultOf_117 (by decide) (fun _ => ?_) (fun h => absurd h (by decide))
              refine lv_iload_n hx hb dX9_faultOf_122 rfl (lv_at hl 6 rfl) ?_
              refine lv_if_le (tgt := 130) hx hb dX9_faultOf_123 (by decide) (fun c123 => ?_) (fun c123 => ?_)
              · rw [if_pos c123] at hR
                refine lv_iload hx hb dX9_faultOf_130 (lv_at hl 3 rfl) ?_
                refine lv_if_eq (tgt := 139) hx hb dX9_faultOf_132 (by decide) (fun _ => ?_) (fun h => absurd c64 h)
                refine lv_iload hx hb dX9_faultOf_139 (lv_at hl 1 rfl) ?_
                refine lv_if_eq (tgt := 148) hx hb dX9_faultOf_141 (by decide) (fun h => absurd h (by decide)) (fun _ => ?_)
                refine lv_iconst (v := (2 : Int32)) hx hb dX9_faultOf_144 (by decide) ?_
                refine lv_goto (tgt := 149) hx hb dX9_faultOf_145 (by decide) ?_
                refine lv_istore_n (lv' := [(1, .int (2 : Int32)), (7, .int (1 : Int32)), (6, .int (1 : Int32)), (5, .int (f_X9_in (mo_pad i4) (48 : Int32) (55 : Int32))), (4, .int (f_X9_in (mo_pad i4) (65 : Int32) (71 : Int32))), (3, .int (mo_pad i4)), (2, .int (nI i4)), (0, .ref mo)]) hx hb dX9_faultOf_149 rfl hl (by decide) rfl (fun ls hl => ?_)
                refine lv_iinc (v := (nI (i4 + 1))) (lv' := [(2, .int (nI (i4 + 1))), (1, .int (2 : Int32)), (7, .int (1 : Int32)), (6, .int (1 : Int32)), (5, .int (f_X9_in (mo_pad i4) (48 : Int32) (55 : Int32))), (4, .int (f_X9_in (mo_pad i4) (65 : Int32) (71 : Int32))), (3, .int (mo_pad i4)), (0, .ref mo)]) hx hb dX9_faultOf_150 hl (k := 6) rfl (by exact nI_add i4 1) (by decide) rfl (fun ls hl => ?_)
                refine lv_goto (tgt := 4) hx hb dX9_faultOf_153 (by decide) ?_
                exact ih4 _ _ (by omega) _ (lv_sub hl [0, 1, 7] rfl) hR
              · rw [if_neg c123] at hR
                refine lv_iconst (v := (0 : Int32)) hx hb dX9_faultOf_126 (by decide) ?_
                refine lv_goto (tgt := 149) hx hb dX9_faultOf_127 (by decide) ?_
                refine lv_istore_n (lv' := [(1, .int (0 : Int32)), (7, .int (1 : Int32)), (6, .int (1 : Int32)), (5, .int (f_X9_in (mo_pad i4) (48 : Int32) (55 : Int32))), (4, .int (f_X9_in (mo_pad i4) (65 : Int32) (71 : Int32))), (3, .int (mo_pad i4)), (2, .int (nI i4)), (0, .ref mo)]) hx hb dX9_faultOf_149 rfl hl (by decide) rfl (fun ls hl => ?_)
                refine lv_iinc (v := (nI (i4 + 1))) (lv' := [(2, .int (nI (i4 + 1))), (1, .int (0 : Int32)), (7, .int (1 : Int32)), (6, .int (1 : Int32)), (5, .int (f_X9_in (mo_pad i4) (48 : Int32) (55 : Int32))), (4, .int (f_X9_in (mo_pad i4) (65 : Int32) (71 : Int32))), (3, .int (mo_pad i4)), (0, .ref mo)]) hx hb dX9_faultOf_150 hl (k := 6) rfl (by exact nI_add i4 1) (by decide) rfl (fun ls hl => ?_)
                refine lv_goto (tgt := 4) hx hb dX9_faultOf_153 (by decide) ?_
                exact ih4 _ _ (by omega) _ (lv_sub hl [0, 1, 7] rfl) hR
  exact hloop4 mo_signs 0 _ (by omega) _ hl hR


theorem hd_X9_faultOf : yX9_faultOf.cls ≠ "java/lang/invoke/MethodHandle" ∧ yX9_faultOf.cls ≠ "java/lang/invoke/VarHandle" ∧ (parseMethodDescriptor yX9_faultOf.desc).map (fun d => d.parameters.length) = some 0 := by decide +kernel
def f_X9_fault (mo_signs : Nat) (mo_pad : Nat → Int32) : Int32 :=
  (f_X9_faultOf mo_signs mo_pad)
set_option maxHeartbeats 4000000 in
set_option maxRecDepth 100000 in
theorem c_X9_fault (l : Launch) (D : va_G) (cI cJ cZ : ClassId) (mo : Nat) (mo_book_a : Nat) (mo_now_a : Nat) (mo_there : Int32) (mo_beside_a : Nat) (mo_sights : Nat) (mo_sight_a : Nat) (mo_signs : Nat) (mo_pad_a : Nat) (mo_heldAt : Int32) (mo_heldThing : Int32) (mo_reason : Int32) (mo_acts : Int32) (mo_lefts_a : Nat) (mo_inWays_a : Nat) (mo_more_a : Nat) (mo_wins_a : Nat) (mo_been_a : Nat) (mo_image_a : Nat) (mo_isKept_a : Nat) (mo_book : Nat → Int32) (mo_now : Nat → Int32) (mo_beside : Nat → Int32) (mo_sight : Nat → Int32) (mo_pad : Nat → Int32) (mo_lefts : Nat → Int32) (mo_inWays : Nat → Int32) (mo_more : Nat → Int32) (mo_wins : Nat → Int32) (mo_been : Nat → Int64) (mo_image : Nat → Int32) (mo_isKept : Nat → Int32) (hsg : mo_signs ≤ 60) : RO l yX9_fault wsX9_fault ({ frames := 2, cells := 0, slots := 0, locals := 49 }) [.ref mo] D cI cJ cZ [(mo, .inr (9, [.ref mo_book_a, .ref mo_now_a, .int mo_there, .ref mo_beside_a, .int (nI mo_sights), .ref mo_sight_a, .int (nI mo_signs), .ref mo_pad_a, .int mo_heldAt, .int mo_heldThing, .int mo_reason, .int mo_acts, .ref mo_lefts_a, .ref mo_inWays_a, .ref mo_more_a, .ref mo_wins_a, .ref mo_been_a, .ref mo_image_a, .ref mo_isKept_a])), (mo_book_a, .inl (cI, 19, .inl mo_book)), (mo_now_a, .inl (cI, 19, .inl mo_now)), (mo_beside_a, .inl (cI, 7, .inl mo_beside)), (mo_sight_a, .inl (cI, 16, .inl mo_sight)), (mo_pad_a, .inl (cI, 60, .inl mo_pad)), (mo_lefts_a, .inl (cI, 256, .inl mo_lefts)), (mo_inWays_a, .inl (cI, 128, .inl mo_inWays)), (mo_more_a, .inl (cI, 128, .inl mo_more)), (mo_wins_a, .inl (cZ, 201, .inl mo_wins)), (mo_been_a, .inl (cJ, 9, .inr (.inl mo_been))), (mo_image_a, .inl (cI, 100, .inl mo_image)), (mo_isKept_a, .inl (cZ, 2, .inl mo_isKept))] (.int (f_X9_fault mo_signs mo_pad)) := by
  obtain ⟨R, hR⟩ : ∃ R, (f_X9_fault mo_signs mo_pad) = R := ⟨_, rfl⟩
  rw [hR]
  refine ro_start (cc := cX9_fault) (maxL := 1) (ret := (some .int)) (by decide) rfl (Nat.le_of_ble_eq_true rfl) ?_
  intro p e s m args below meth c hx hb hr hml hown hts hlocks hP hK ls hl
  have hown : s.vm.findClass RX9 = some m.cls := hown
  have hl : lv_has ls 1 [(0, .ref mo)] := hl
  rw [f_X9_fault] at hR
  refine lv_aload_n hx hb dX9_fault_0 rfl (lv_at hl 0 rfl) ?_
  refine ro_V (As := []) (rest := []) ⟨hx, hb, hml, hown, hts⟩ hK (c_X9_faultOf l D cI cJ cZ mo mo_book_a mo_now_a mo_there mo_beside_a (nI mo_sights) mo_sight_a mo_signs mo_pad_a mo_heldAt mo_heldThing mo_reason mo_acts mo_lefts_a mo_inWays_a mo_more_a mo_wins_a mo_been_a mo_image_a mo_isKept_a mo_pad (by first | assumption | omega)) hP 0 rfl rfl (rw_sub hP [0, 5] rfl) (cwV 0 hts gX9_fault_X9_faultOf rfl rfl rfl ⟨rfl, hd_X9_faultOf⟩ ⟨(Nat.le_of_ble_eq_true rfl), (Nat.le_of_ble_eq_true rfl)⟩) rfl hl.1 rfl (Nat.le_of_ble_eq_true rfl) dX9_fault_1 (Nat.zero_le _) (Nat.zero_le _) ?_
  subst hR
  exact ro_iret hx hb hr hlocks dX9_fault_4


theorem in_X9_asNow_X9 : ∀ w ∈ u_ws RX9 TX9 19, w ∈ wsX9_asNow := by decide +kernel
def lp_X9_asNow_2 (mo_book : Nat → Int32) : Nat → Nat → (Nat → Int32) → (Nat → Int32)
  | 0, _, r2_2 => r2_2
  | k2 + 1, i2, r2_2 => (lp_X9_asNow_2 mo_book k2 (i2 + 1) (upd r2_2 i2 (mo_book i2)))
def f_X9_asNow (mo_book : Nat → Int32) (mo_now : Nat → Int32) : Int32 × Int32 × (Nat → Int32) :=
  ((-6 : Int32), (-6 : Int32), (lp_X9_asNow_2 mo_book 19 0 mo_now))
set_option maxHeartbeats 4000000 in
set_option maxRecDepth 100000 in
theorem c_X9_asNow (l : Launch) (D : va_G) (cI cJ cZ : ClassId) (mo : Nat) (mo_book_a : Nat) (mo_now_a : Nat) (mo_there : Int32) (mo_beside_a : Nat) (mo_sights : Int32) (mo_sight_a : Nat) (mo_signs : Int32) (mo_pad_a : Nat) (mo_heldAt : Int32) (mo_heldThing : Int32) (mo_reason : Int32) (mo_acts : Int32) (mo_lefts_a : Nat) (mo_inWays_a : Nat) (mo_more_a : Nat) (mo_wins_a : Nat) (mo_been_a : Nat) (mo_image_a : Nat) (mo_isKept_a : Nat) (mo_book : Nat → Int32) (mo_now : Nat → Int32) : RW l yX9_asNow wsX9_asNow ({ frames := 0, cells := 0, slots := 0, locals := 0 }) [.ref mo] D cI cJ cZ [(mo, .inr (9, [.ref mo_book_a, .ref mo_now_a, .int mo_there, .ref mo_beside_a, .int mo_sights, .ref mo_sight_a, .int mo_signs, .ref mo_pad_a, .int mo_heldAt, .int mo_heldThing, .int mo_reason, .int mo_acts, .ref mo_lefts_a, .ref mo_inWays_a, .ref mo_more_a, .ref mo_wins_a, .ref mo_been_a, .ref mo_image_a, .ref mo_isKept_a])), (mo_book_a, .inl (cI, 19, .inl mo_book)), (mo_now_a, .inl (cI, 19, .inl mo_now))] none [(mo, .inr (9, [.ref mo_book_a, .ref mo_now_a, .int mo_there, .ref mo_beside_a, .int mo_sights, .ref mo_sight_a, .int mo_signs, .ref mo_pad_a, .int ((f_X9_asNow mo_book mo_now).1), .int ((f_X9_asNow mo_book mo_now).2.1), .int mo_reason, .int mo_acts, .ref mo_lefts_a, .ref mo_inWays_a, .ref mo_more_a, .ref mo_wins_a, .ref mo_been_a, .ref mo_image_a, .ref mo_isKept_a])), (mo_book_a, .inl (cI, 19, .inl mo_book)), (mo_now_a, .inl (cI, 19, .inl ((f_X9_asNow mo_book mo_now).2.2)))] := by
  obtain ⟨R0, R1, R2, hR⟩ := prodE3 (f_X9_asNow mo_book mo_now)
  rw [hR]
  dsimp only
  refine rw_start (cc := cX9_asNow) (maxL := 2) (ret := none) (by decide) rfl (Nat.le_of_ble_eq_true rfl) ?_
  intro p e s m args below meth c hx hb hr hml hown hts hlocks hP hD hS hK ls hl
  have hown : s.vm.findClass RX9 = some m.cls := hown
  have hl : lv_has ls 2 [(0, .ref mo)] := hl
  have hq0 := hts (.fieldLink RX9 13 "StuckVanesModel" "now" "[I") (by decide +kernel)
  have hq1 := hts (.fieldLink RX9 7 "StuckVanesModel" "book" "[I") (by decide +kernel)
  have hq2 := hts (.fieldLink RX9 71 "StuckVanesModel" "heldAt" "I") (by decide +kernel)
  have hq3 := hts (.fieldLink RX9 74 "StuckVanesModel" "heldThing" "I") (by decide +kernel)
  rw [f_X9_asNow] at hR
  refine lv_iconst (v := (0 : Int32)) hx hb dX9_asNow_0 (by decide) ?_
  refine lv_istore_n (lv' := [(1, .int (0 : Int32)), (0, .ref mo)]) hx hb dX9_asNow_1 rfl hl (by decide) rfl (fun ls hl => ?_)
  obtain ⟨F2_1, hF2_1⟩ : ∃ x, (lp_X9_asNow_2 mo_book 19 0 mo_now) = x := ⟨_, rfl⟩
  try rw [hF2_1] at hR
  have hexit2 : ∀ (H : Heap) (locs : List Loc), va_P D vwCl [(mo, .inr (9, [.ref mo_book_a, .ref mo_now_a, .int mo_there, .ref mo_beside_a, .int mo_sights, .ref mo_sight_a, .int mo_signs, .ref mo_pad_a, .int mo_heldAt, .int mo_heldThing, .int mo_reason, .int mo_acts, .ref mo_lefts_a, .ref mo_inWays_a, .ref mo_more_a, .ref mo_wins_a, .ref mo_been_a, .ref mo_image_a, .ref mo_isKept_a])), (mo_book_a, .inl (cI, 19, .inl mo_book)), (mo_now_a, .inl (cI, 19, .inl F2_1))] H → va_D (va_In [(mo, .inr (9, [.ref mo_book_a, .ref mo_now_a, .int mo_there, .ref mo_beside_a, .int mo_sights, .ref mo_sight_a, .int mo_signs, .ref mo_pad_a, .int mo_heldAt, .int mo_heldThing, .int mo_reason, .int mo_acts, .ref mo_lefts_a, .ref mo_inWays_a, .ref mo_more_a, .ref mo_wins_a, .ref mo_been_a, .ref mo_image_a, .ref mo_isKept_a])), (mo_book_a, .inl (cI, 19, .inl mo_book)), (mo_now_a, .inl (cI, 19, .inl mo_now))]) [(mo, .inr (9, [.ref mo_book_a, .ref mo_now_a, .int mo_there, .ref mo_beside_a, .int mo_sights, .ref mo_sight_a, .int mo_signs, .ref mo_pad_a, .int mo_heldAt, .int mo_heldThing, .int mo_reason, .int mo_acts, .ref mo_lefts_a, .ref mo_inWays_a, .ref mo_more_a, .ref mo_wins_a, .ref mo_been_a, .ref mo_image_a, .ref mo_isKept_a])), (mo_book_a, .inl (cI, 19, .inl mo_book)), (mo_now_a, .inl (cI, 19, .inl F2_1))] → va_S (va_In [(mo, .inr (9, [.ref mo_book_a, .ref mo_now_a, .int mo_there, .ref mo_beside_a, .int mo_sights, .ref mo_sight_a, .int mo_signs, .ref mo_pad_a, .int mo_heldAt, .int mo_heldThing, .int mo_reason, .int mo_acts, .ref mo_lefts_a, .ref mo_inWays_a, .ref mo_more_a, .ref mo_wins_a, .ref mo_been_a, .ref mo_image_a, .ref mo_isKept_a])), (mo_book_a, .inl (cI, 19, .inl mo_book)), (mo_now_a, .inl (cI, 19, .inl mo_now))]) s.heap H locs → ∀ (ls : Array Slot), lv_has ls 2 [(0, .ref mo)] → W p l e ({ frames := 0, cells := 0, slots := 0, locals := 0 }) s m args below meth c H locs 0 0 (MQ below (rw_Q D none [(mo, .inr (9, [.ref mo_book_a, .ref mo_now_a, .int mo_there, .ref mo_beside_a, .int mo_sights, .ref mo_sight_a, .int mo_signs, .ref mo_pad_a, .int mo_heldAt, .int mo_heldThing, .int mo_reason, .int mo_acts, .ref mo_lefts_a, .ref mo_inWays_a, .ref mo_more_a, .ref mo_wins_a, .ref mo_been_a, .ref mo_image_a, .ref mo_isKept_a])), (mo_book_a, .inl (cI, 19, .inl mo_book)), (mo_now_a, .inl (cI, 19, .inl mo_now))] [(mo, .inr (9, [.ref mo_book_a, .ref mo_now_a, .int mo_there, .ref mo_beside_a, .int mo_sights, .ref mo_sight_a, .int mo_signs, .ref mo_pad_a, .int R0, .int R1, .int mo_reason, .int mo_acts, .ref mo_lefts_a, .ref mo_inWays_a, .ref mo_more_a, .ref mo_wins_a, .ref mo_been_a, .ref mo_image_a, .ref mo_isKept_a])), (mo_book_a, .inl (cI, 19, .inl mo_book)), (mo_now_a, .inl (cI, 19, .inl R2))]) args s 0 0 (va_In [(mo, .inr (9, [.ref mo_book_a, .ref mo_now_a, .int mo_there, .ref mo_beside_a, .int mo_sights, .ref mo_sight_a, .int mo_signs, .ref mo_pad_a, .int mo_heldAt, .int mo_heldThing, .int mo_reason, .int mo_acts, .ref mo_lefts_a, .ref mo_inWays_a, .ref mo_more_a, .ref mo_wins_a, .ref mo_been_a, .ref mo_image_a, .ref mo_isKept_a])), (mo_book_a, .inl (cI, 19, .inl mo_book)), (mo_now_a, .inl (cI, 19, .inl mo_now))])) (F0 m 26 ls []) := by
    intro H locs hP hD hS ls hl
    refine lv_aload_n hx hb dX9_asNow_26 rfl (lv_at hl 0 rfl) ?_
    refine lv_bipush (v := (-6 : Int32)) hx hb dX9_asNow_27 (by decide +kernel) ?_
    refine va_put (D := D) (ci := 9) (v := .int (-6 : Int32)) (ty := .int) (C := RX9) (T := TX9) (N := 19) hx hb hts in_X9_asNow_X9 tyX9 tyX9_ok nmX9 hown hK.1 hP hD hS 0 rfl rfl 8 (by decide) hq2 (fun _ h9 => h9) rfl (by decide +kernel) rfl rfl (Nat.le_of_ble_eq_true rfl) dX9_asNow_29 (fun H locs hP hD hS => ?_)
    have hP : va_P D vwCl [(mo, .inr (9, [.ref mo_book_a, .ref mo_now_a, .int mo_there, .ref mo_beside_a, .int mo_sights, .ref mo_sight_a, .int mo_signs, .ref mo_pad_a, .int (-6 : Int32), .int mo_heldThing, .int mo_reason, .int mo_acts, .ref mo_lefts_a, .ref mo_inWays_a, .ref mo_more_a, .ref mo_wins_a, .ref mo_been_a, .ref mo_image_a, .ref mo_isKept_a])), (mo_book_a, .inl (cI, 19, .inl mo_book)), (mo_now_a, .inl (cI, 19, .inl F2_1))] H := hP
    have hD : va_D _ [(mo, .inr (9, [.ref mo_book_a, .ref mo_now_a, .int mo_there, .ref mo_beside_a, .int mo_sights, .ref mo_sight_a, .int mo_signs, .ref mo_pad_a, .int (-6 : Int32), .int mo_heldThing, .int mo_reason, .int mo_acts, .ref mo_lefts_a, .ref mo_inWays_a, .ref mo_more_a, .ref mo_wins_a, .ref mo_been_a, .ref mo_image_a, .ref mo_isKept_a])), (mo_book_a, .inl (cI, 19, .inl mo_book)), (mo_now_a, .inl (cI, 19, .inl F2_1))] := hD
    refine lv_aload_n hx hb dX9_asNow_32 rfl (lv_at hl 0 rfl) ?_
    refine lv_bipush (v := (-6 : Int32)) hx hb dX9_asNow_33 (by decide +kernel) ?_
    refine va_put (D := D) (ci := 9) (v := .int (-6 : Int32)) (ty := .int) (C := RX9) (T := TX9) (N := 19) hx hb hts in_X9_asNow_X9 tyX9 tyX9_ok nmX9 hown hK.1 hP hD hS 0 rfl rfl 9 (by decide) hq3 (fun _ h9 => h9) rfl (by decide +kernel) rfl rfl (Nat.le_of_ble_eq_true rfl) dX9_asNow_35 (fun H locs hP hD hS => ?_)
    have hP : va_P D vwCl [(mo, .inr (9, [.ref mo_book_a, .ref mo_now_a, .int mo_there, .ref mo_beside_a, .int mo_sights, .ref mo_sight_a, .int mo_signs, .ref mo_pad_a, .int (-6 : Int32), .int (-6 : Int32), .int mo_reason, .int mo_acts, .ref mo_lefts_a, .ref mo_inWays_a, .ref mo_more_a, .ref mo_wins_a, .ref mo_been_a, .ref mo_image_a, .ref mo_isKept_a])), (mo_book_a, .inl (cI, 19, .inl mo_book)), (mo_now_a, .inl (cI, 19, .inl F2_1))] H := hP
    have hD : va_D _ [(mo, .inr (9, [.ref mo_book_a, .ref mo_now_a, .int mo_there, .ref mo_beside_a, .int mo_sights, .ref mo_sight_a, .int mo_signs, .ref mo_pad_a, .int (-6 : Int32), .int (-6 : Int32), .int mo_reason, .int mo_acts, .ref mo_lefts_a, .ref mo_inWays_a, .ref mo_more_a, .ref mo_wins_a, .ref mo_been_a, .ref mo_image_a, .ref mo_isKept_a])), (mo_book_a, .inl (cI, 19, .inl mo_book)), (mo_now_a, .inl (cI, 19, .inl F2_1))] := hD
    obtain ⟨rfl, rfl, rfl⟩ := prodI3 hR
    exact rw_vret hx hb hr hlocks hP hS dX9_asNow_38
  have hloop2 : ∀ (k2 i2 : Nat) (r2_2 : Nat → Int32), i2 + k2 = 19 → ∀ (H : Heap) (locs : List Loc), va_P D vwCl [(mo, .inr (9, [.ref mo_book_a, .ref mo_now_a, .int mo_there, .ref mo_beside_a, .int mo_sights, .ref mo_sight_a, .int mo_signs, .ref mo_pad_a, .int mo_heldAt, .int mo_heldThing, .int mo_reason, .int mo_acts, .ref mo_lefts_a, .ref mo_inWays_a, .ref mo_more_a, .ref mo_wins_a, .ref mo_been_a, .ref mo_image_a, .ref mo_isKept_a])), (mo_book_a, .inl (cI, 19, .inl mo_book)), (mo_now_a, .inl (cI, 19, .inl r2_2))] H → va_D (va_In [(mo, .inr (9, [.ref mo_book_a, .ref mo_now_a, .int mo_there, .ref mo_beside_a, .int mo_sights, .ref mo_sight_a, .int mo_signs, .ref mo_pad_a, .int mo_heldAt, .int mo_heldThing, .int mo_reason, .int mo_acts, .ref mo_lefts_a, .ref mo_inWays_a, .ref mo_more_a, .ref mo_wins_a, .ref mo_been_a, .ref mo_image_a, .ref mo_isKept_a])), (mo_book_a, .inl (cI, 19, .inl mo_book)), (mo_now_a, .inl (cI, 19, .inl mo_now))]) [(mo, .inr (9, [.ref mo_book_a, .ref mo_now_a, .int mo_there, .ref mo_beside_a, .int mo_sights, .ref mo_sight_a, .int mo_signs, .ref mo_pad_a, .int mo_heldAt, .int mo_heldThing, .int mo_reason, .int mo_acts, .ref mo_lefts_a, .ref mo_inWays_a, .ref mo_more_a, .ref mo_wins_a, .ref mo_been_a, .ref mo_image_a, .ref mo_isKept_a])), (mo_book_a, .inl (cI, 19, .inl mo_book)), (mo_now_a, .inl (cI, 19, .inl r2_2))] → va_S (va_In [(mo, .inr (9, [.ref mo_book_a, .ref mo_now_a, .int mo_there, .ref mo_beside_a, .int mo_sights, .ref mo_sight_a, .int mo_signs, .ref mo_pad_a, .int mo_heldAt, .int mo_heldThing, .int mo_reason, .int mo_acts, .ref mo_lefts_a, .ref mo_inWays_a, .ref mo_more_a, .ref mo_wins_a, .ref mo_been_a, .ref mo_image_a, .ref mo_isKept_a])), (mo_book_a, .inl (cI, 19, .inl mo_book)), (mo_now_a, .inl (cI, 19, .inl mo_now))]) s.heap H locs → ∀ (ls : Array Slot), lv_has ls 2 [(1, .int (nI i2)), (0, .ref mo)] → lp_X9_asNow_2 mo_book k2 i2 r2_2 = F2_1 → W p l e ({ frames := 0, cells := 0, slots := 0, locals := 0 }) s m args below meth c H locs 0 0 (MQ below (rw_Q D none [(mo, .inr (9, [.ref mo_book_a, .ref mo_now_a, .int mo_there, .ref mo_beside_a, .int mo_sights, .ref mo_sight_a, .int mo_signs, .ref mo_pad_a, .int mo_heldAt, .int mo_heldThing, .int mo_reason, .int mo_acts, .ref mo_lefts_a, .ref mo_inWays_a, .ref mo_more_a, .ref mo_wins_a, .ref mo_been_a, .ref mo_image_a, .ref mo_isKept_a])), (mo_book_a, .inl (cI, 19, .inl mo_book)), (mo_now_a, .inl (cI, 19, .inl mo_now))] [(mo, .inr (9, [.ref mo_book_a, .ref mo_now_a, .int mo_there, .ref mo_beside_a, .int mo_sights, .ref mo_sight_a, .int mo_signs, .ref mo_pad_a, .int R0, .int R1, .int mo_reason, .int mo_acts, .ref mo_lefts_a, .ref mo_inWays_a, .ref mo_more_a, .ref mo_wins_a, .ref mo_been_a, .ref mo_image_a, .ref mo_isKept_a])), (mo_book_a, .inl (cI, 19, .inl mo_book)), (mo_now_a, .inl (cI, 19, .inl R2))]) args s 0 0 (va_In [(mo, .inr (9, [.ref mo_book_a, .ref mo_now_a, .int mo_there, .ref mo_beside_a, .int mo_sights, .ref mo_sight_a, .int mo_signs, .ref mo_pad_a, .int mo_heldAt, .int mo_heldThing, .int mo_reason, .int mo_acts, .ref mo_lefts_a, .ref mo_inWays_a, .ref mo_more_a, .ref mo_wins_a, .ref mo_been_a, .ref mo_image_a, .ref mo_isKept_a])), (mo_book_a, .inl (cI, 19, .inl mo_book)), (mo_now_a, .inl (cI, 19, .inl mo_now))])) (F0 m 2 ls []) := by
    intro k2
    induction k2 with
    | zero =>
      intro i2 r2_2 h2  H locs hP hD hS ls hl hR
      obtain rfl : 19 = i2 := by omega
      rw [lp_X9_asNow_2] at hR
      refine lv_iload_n hx hb dX9_asNow_2 rfl (lv_at hl 0 rfl) ?_
      refine lv_bipush (v := (19 : Int32)) hx hb dX9_asNow_3 (by decide +kernel) ?_
      refine lv_icmp_ge (tgt := 26) hx hb dX9_asNow_5 (by decide) (fun _ => ?_) (fun h => absurd (cle_t (a := 19) (b := 19) rfl rfl (by omega) (by omega)) h)
      subst hR
      exact hexit2 _ _ hP hD hS _ (lv_sub hl [1] rfl)
    | succ k2 ih2 =>
      intro i2 r2_2 h2  H locs hP hD hS ls hl hR
      rw [lp_X9_asNow_2] at hR
      refine lv_iload_n hx hb dX9_asNow_2 rfl (lv_at hl 0 rfl) ?_
      refine lv_bipush (v := (19 : Int32)) hx hb dX9_asNow_3 (by decide +kernel) ?_
      refine lv_icmp_ge (tgt := 26) hx hb dX9_asNow_5 (by decide) (fun h => absurd h (cle_f (a := 19) (b := i2) rfl rfl (by omega) (by omega))) (fun _ => ?_)
      refine lv_aload_n hx hb dX9_asNow_8 rfl (lv_at hl 1 rfl) ?_
      refine va_get (D := D) (ci := 9) (v := .ref mo_now_a) (C := RX9) (T := TX9) (N := 19) hx hb hts in_X9_asNow_X9 hown hK.1 hP 0 rfl rfl 1 (by decide) hq0 (fun _ h9 => h9) rfl dX9_asNow_9 ?_
      refine lv_iload_n hx hb dX9_asNow_12 rfl (lv_at hl 0 rfl) ?_
      refine lv_aload_n hx hb dX9_asNow_13 rfl (lv_at hl 1 rfl) ?_
      refine va_get (D := D) (ci := 9) (v := .ref mo_book_a) (C := RX9) (T := TX9) (N := 19) hx hb hts in_X9_asNow_X9 hown hK.1 hP 0 rfl rfl 0 (by decide) hq1 (fun _ h9 => h9) rfl dX9_asNow_14 ?_
      refine lv_iload_n hx hb dX9_asNow_17 rfl (lv_at hl 0 rfl) ?_
      refine ia_ld hx hb hK hP 1 rfl (i := i2) (by omega) (by decide) dX9_asNow_18 ?_
      refine ia_st hx hb hK hP hD hS 2 rfl (i := i2) (by omega) (by decide) dX9_asNow_19 (fun H locs hP hD hS => ?_)
      have hP : va_P D vwCl [(mo, .inr (9, [.ref mo_book_a, .ref mo_now_a, .int mo_there, .ref mo_beside_a, .int mo_sights, .ref mo_sight_a, .int mo_signs, .ref mo_pad_a, .int mo_heldAt, .int mo_heldThing, .int mo_reason, .int mo_acts, .ref mo_lefts_a, .ref mo_inWays_a, .ref mo_more_a, .ref mo_wins_a, .ref mo_been_a, .ref mo_image_a, .ref mo_isKept_a])), (mo_book_a, .inl (cI, 19, .inl mo_book)), (mo_now_a, .inl (cI, 19, .inl (upd r2_2 i2 (mo_book i2))))] H := hP
      have hD : va_D _ [(mo, .inr (9, [.ref mo_book_a, .ref mo_now_a, .int mo_there, .ref mo_beside_a, .int mo_sights, .ref mo_sight_a, .int mo_signs, .ref mo_pad_a, .int mo_heldAt, .int mo_heldThing, .int mo_reason, .int mo_acts, .ref mo_lefts_a, .ref mo_inWays_a, .ref mo_more_a, .ref mo_wins_a, .ref mo_been_a, .ref mo_image_a, .ref mo_isKept_a])), (mo_book_a, .inl (cI, 19, .inl mo_book)), (mo_now_a, .inl (cI, 19, .inl (upd r2_2 i2 (mo_book i2))))] := hD
      refine lv_iinc (v := (nI (i2 + 1))) (lv' := [(1, .int (nI (i2 + 1))), (0, .ref mo)]) hx hb dX9_asNow_20 hl (k := 0) rfl (by exact nI_add i2 1) (by decide) rfl (fun ls hl => ?_)
      refine lv_goto (tgt := 2) hx hb dX9_asNow_23 (by decide) ?_
      exact ih2 _ _ (by omega) _ _ hP hD hS _ (lv_sub hl [0, 1] rfl) hR
  exact hloop2 19 0 _ (by omega) _ _ hP hD hS _ hl hF2_1


theorem in_X9_oil_X9 : ∀ w ∈ u_ws RX9 TX9 19, w ∈ wsX9_oil := by decide +kernel
theorem hd_X9_isThere : yX9_isThere.cls ≠ "java/lang/invoke/MethodHandle" ∧ yX9_isThere.cls ≠ "java/lang/invoke/VarHandle" ∧ (parseMethodDescriptor yX9_isThere.desc).map (fun d => d.parameters.length) = some 1 := by decide +kernel
def f_X9_oil (mo_there : Int32) (mo_now : Nat → Int32) (xp : Int32) : Int32 × (Nat → Int32) :=
  (if ((f_X9_isThere mo_there xp) = 0) then ((1 : Int32), mo_now) else (if ((f_X9_has (mo_now 14) xp) = 0) then (if ((mo_now 17) = 0) then ((4 : Int32), mo_now) else ((0 : Int32), (upd (upd mo_now 17 ((mo_now 17) - (1 : Int32))) 14 (((upd mo_now 17 ((mo_now 17) - (1 : Int32))) 14) ||| ((1 : Int32) <<< (xp &&& 31)))))) else ((2 : Int32), mo_now)))
set_option maxHeartbeats 4000000 in
set_option maxRecDepth 100000 in
theorem c_X9_oil (l : Launch) (D : va_G) (cI cJ cZ : ClassId) (mo : Nat) (mo_book_a : Nat) (mo_now_a : Nat) (mo_there : Int32) (mo_beside_a : Nat) (mo_sights : Int32) (mo_sight_a : Nat) (mo_signs : Int32) (mo_pad_a : Nat) (mo_heldAt : Int32) (mo_heldThing : Int32) (mo_reason : Int32) (mo_acts : Int32) (mo_lefts_a : Nat) (mo_inWays_a : Nat) (mo_more_a : Nat) (mo_wins_a : Nat) (mo_been_a : Nat) (mo_image_a : Nat) (mo_isKept_a : Nat) (mo_now : Nat → Int32) (xp : Int32) : RW l yX9_oil wsX9_oil ({ frames := 2, cells := 0, slots := 0, locals := 43 }) [.ref mo, .int xp] D cI cJ cZ [(mo, .inr (9, [.ref mo_book_a, .ref mo_now_a, .int mo_there, .ref mo_beside_a, .int mo_sights, .ref mo_sight_a, .int mo_signs, .ref mo_pad_a, .int mo_heldAt, .int mo_heldThing, .int mo_reason, .int mo_acts, .ref mo_lefts_a, .ref mo_inWays_a, .ref mo_more_a, .ref mo_wins_a, .ref mo_been_a, .ref mo_image_a, .ref mo_isKept_a])), (mo_now_a, .inl (cI, 19, .inl mo_now))] (some (.int ((f_X9_oil mo_there mo_now xp).1))) [(mo, .inr (9, [.ref mo_book_a, .ref mo_now_a, .int mo_there, .ref mo_beside_a, .int mo_sights, .ref mo_sight_a, .int mo_signs, .ref mo_pad_a, .int mo_heldAt, .int mo_heldThing, .int mo_reason, .int mo_acts, .ref mo_lefts_a, .ref mo_inWays_a, .ref mo_more_a, .ref mo_wins_a, .ref mo_been_a, .ref mo_image_a, .ref mo_isKept_a])), (mo_now_a, .inl (cI, 19, .inl ((f_X9_oil mo_there mo_now xp).2)))] := by
  obtain ⟨R0, R1, hR⟩ := prodE2 (f_X9_oil mo_there mo_now xp)
  rw [hR]
  dsimp only
  refine rw_start (cc := cX9_oil) (maxL := 2) (ret := (some .int)) (by decide) rfl (Nat.le_of_ble_eq_true rfl) ?_
  intro p e s m args below meth c hx hb hr hml hown hts hlocks hP hD hS hK ls hl
  have hown : s.vm.findClass RX9 = some m.cls := hown
  have hl : lv_has ls 2 [(0, .ref mo), (1, .int xp)] := hl
  have hq0 := hts (.fieldLink RX9 13 "StuckVanesModel" "now" "[I") (by decide +kernel)
  rw [f_X9_oil] at hR
  refine lv_aload_n hx hb dX9_oil_0 rfl (lv_at hl 0 rfl) ?_
  refine lv_iload_n hx hb dX9_oil_1 rfl (lv_at hl 1 rfl) ?_
  refine ro_V (As := [.int xp]) (rest := []) ⟨hx, hb, hml, hown, hts⟩ hK (c_X9_isThere l D cI cJ cZ mo mo_book_a mo_now_a mo_there mo_beside_a mo_sights mo_sight_a mo_signs mo_pad_a mo_heldAt mo_heldThing mo_reason mo_acts mo_lefts_a mo_inWays_a mo_more_a mo_wins_a mo_been_a mo_image_a mo_isKept_a xp) hP 0 rfl rfl (rw_sub hP [0] rfl) (cwV 1 hts gX9_oil_X9_isThere rfl rfl rfl ⟨rfl, hd_X9_isThere⟩ ⟨(Nat.le_of_ble_eq_true rfl), (Nat.le_of_ble_eq_true rfl)⟩) rfl hl.1 rfl (Nat.le_of_ble_eq_true rfl) dX9_oil_2 (Nat.zero_le _) (Nat.zero_le _) ?_
  refine lv_if_ne (tgt := 10) hx hb dX9_oil_5 (by decide) (fun c5 => ?_) (fun c5 => ?_)
  · rw [if_neg c5] at hR
    refine lv_aload_n hx hb dX9_oil_10 rfl (lv_at hl 0 rfl) ?_
    refine va_get (D := D) (ci := 9) (v := .ref mo_now_a) (C := RX9) (T := TX9) (N := 19) hx hb hts in_X9_oil_X9 hown hK.1 hP 0 rfl rfl 1 (by decide) hq0 (fun _ h9 => h9) rfl dX9_oil_11 ?_
    refine lv_bipush (v := (14 : Int32)) hx hb dX9_oil_14 (by decide +kernel) ?_
    refine ia_ld hx hb hK hP 1 rfl (i := 14) (by omega) (by decide) dX9_oil_16 ?_
    refine lv_iload_n hx hb dX9_oil_17 rfl (lv_at hl 1 rfl) ?_
    refine ro_S (As := [.int (mo_now 14), .int xp]) (rest := []) ⟨hx, hb, hml, hown, hts⟩ hK (c_X9_has l D cI cJ cZ (mo_now 14) xp) va_P_nil (va_cwS 2 hts gX9_oil_X9_has rfl rfl rfl hd_X9_has ⟨(Nat.le_of_ble_eq_true rfl), (Nat.le_of_ble_eq_true rfl)⟩) rfl hl.1 rfl (Nat.le_of_ble_eq_true rfl) dX9_oil_18 (Nat.zero_le _) (Nat.zero_le _) ?_
    refine lv_if_eq (tgt := 26) hx hb dX9_oil_21 (by decide) (fun c21 => ?_) (fun c21 => ?_)
    · rw [if_pos c21] at hR
      refine lv_aload_n hx hb dX9_oil_26 rfl (lv_at hl 0 rfl) ?_
      refine va_get (D := D) (ci := 9) (v := .ref mo_now_a) (C := RX9) (T := TX9) (N := 19) hx hb hts in_X9_oil_X9 hown hK.1 hP 0 rfl rfl 1 (by decide) hq0 (fun _ h9 => h9) rfl dX9_oil_27 ?_
      refine lv_bipush (v := (17 : Int32)) hx hb dX9_oil_30 (by decide +kernel) ?_
      refine ia_ld hx hb hK hP 1 rfl (i := 17) (by omega) (by decide) dX9_oil_32 ?_
      refine lv_if_ne (tgt := 38) hx hb dX9_oil_33 (by decide) (fun c33 => ?_) (fun c33 => ?_)
      · rw [if_neg c33] at hR
        refine lv_aload_n hx hb dX9_oil_38 rfl (lv_at hl 0 rfl) ?_
        refine va_get (D := D) (ci := 9) (v := .ref mo_now_a) (C := RX9) (T := TX9) (N := 19) hx hb hts in_X9_oil_X9 hown hK.1 hP 0 rfl rfl 1 (by decide) hq0 (fun _ h9 => h9) rfl dX9_oil_39 ?_
        refine lv_bipush (v := (17 : Int32)) hx hb dX9_oil_42 (by decide +kernel) ?_
        refine lv_dup2_11 hx hb dX9_oil_44 rfl rfl ?_
        refine ia_ld hx hb hK hP 1 rfl (i := 17) (by omega) (by decide) dX9_oil_45 ?_
        refine lv_iconst (v := (1 : Int32)) hx hb dX9_oil_46 (by decide) ?_
        refine lv_isub hx hb dX9_oil_47 ?_
        refine ia_st hx hb hK hP hD hS 1 rfl (i := 17) (by omega) (by decide) dX9_oil_48 (fun H locs hP hD hS => ?_)
        have hP : va_P D vwCl [(mo, .inr (9, [.ref mo_book_a, .ref mo_now_a, .int mo_there, .ref mo_beside_a, .int mo_sights, .ref mo_sight_a, .int mo_signs, .ref mo_pad_a, .int mo_heldAt, .int mo_heldThing, .int mo_reason, .int mo_acts, .ref mo_lefts_a, .ref mo_inWays_a, .ref mo_more_a, .ref mo_wins_a, .ref mo_been_a, .ref mo_image_a, .ref mo_isKept_a])), (mo_now_a, .inl (cI, 19, .inl (upd mo_now 17 ((mo_now 17) - (1 : Int32)))))] H := hP
        have hD : va_D _ [(mo, .inr (9, [.ref mo_book_a, .ref mo_now_a, .int mo_there, .ref mo_beside_a, .int mo_sights, .ref mo_sight_a, .int mo_signs, .ref mo_pad_a, .int mo_heldAt, .int mo_heldThing, .int mo_reason, .int mo_acts, .ref mo_lefts_a, .ref mo_inWays_a, .ref mo_more_a, .ref mo_wins_a, .ref mo_been_a, .ref mo_image_a, .ref mo_isKept_a])), (mo_now_a, .inl (cI, 19, .inl (upd mo_now 17 ((mo_now 17) - (1 : Int32)))))] := hD
        refine lv_aload_n hx hb dX9_oil_49 rfl (lv_at hl 0 rfl) ?_
        refine va_get (D := D) (ci := 9) (v := .ref mo_now_a) (C := RX9) (T := TX9) (N := 19) hx hb hts in_X9_oil_X9 hown hK.1 hP 0 rfl rfl 1 (by decide) hq0 (fun _ h9 => h9) rfl dX9_oil_50 ?_
        refine lv_bipush (v := (14 : Int32)) hx hb dX9_oil_53 (by decide +kernel) ?_
        refine lv_dup2_11 hx hb dX9_oil_55 rfl rfl ?_
        refine ia_ld hx hb hK hP 1 rfl (i := 14) (by omega) (by decide) dX9_oil_56 ?_
        refine lv_iconst (v := (1 : Int32)) hx hb dX9_oil_57 (by decide) ?_
        refine lv_iload_n hx hb dX9_oil_58 rfl (lv_at hl 1 rfl) ?_
        refine lv_ishl hx hb dX9_oil_59 ?_
        refine lv_ior hx hb dX9_oil_60 ?_
        refine ia_st hx hb hK hP hD hS 1 rfl (i := 14) (by omega) (by decide) dX9_oil_61 (fun H locs hP hD hS => ?_)
        have hP : va_P D vwCl [(mo, .inr (9, [.ref mo_book_a, .ref mo_now_a, .int mo_there, .ref mo_beside_a, .int mo_sights, .ref mo_sight_a, .int mo_signs, .ref mo_pad_a, .int mo_heldAt, .int mo_heldThing, .int mo_reason, .int mo_acts, .ref mo_lefts_a, .ref mo_inWays_a, .ref mo_more_a, .ref mo_wins_a, .ref mo_been_a, .ref mo_image_a, .ref mo_isKept_a])), (mo_now_a, .inl (cI, 19, .inl (upd (upd mo_now 17 ((mo_now 17) - (1 : Int32))) 14 (((upd mo_now 17 ((mo_now 17) - (1 : Int32))) 14) ||| ((1 : Int32) <<< (xp &&& 31))))))] H := hP
        have hD : va_D _ [(mo, .inr (9, [.ref mo_book_a, .ref mo_now_a, .int mo_there, .ref mo_beside_a, .int mo_sights, .ref mo_sight_a, .int mo_signs, .ref mo_pad_a, .int mo_heldAt, .int mo_heldThing, .int mo_reason, .int mo_acts, .ref mo_lefts_a, .ref mo_inWays_a, .ref mo_more_a, .ref mo_wins_a, .ref mo_been_a, .ref mo_image_a, .ref mo_isKept_a])), (mo_now_a, .inl (cI, 19, .inl (upd (upd mo_now 17 ((mo_now 17) - (1 : Int32))) 14 (((upd mo_now 17 ((mo_now 17) - (1 : Int32))) 14) ||| ((1 : Int32) <<< (xp &&& 31))))))] := hD
        refine lv_iconst (v := (0 : Int32)) hx hb dX9_oil_62 (by decide) ?_
        obtain ⟨rfl, rfl⟩ := prodI2 hR
        exact rw_iret hx hb hr hlocks hP hS dX9_oil_63
      · rw [if_pos c33] at hR
        refine lv_iconst (v := (4 : Int32)) hx hb dX9_oil_36 (by decide) ?_
        obtain ⟨rfl, rfl⟩ := prodI2 hR
        exact rw_iret hx hb hr hlocks hP hS dX9_oil_37
    · rw [if_neg c21] at hR
      refine lv_iconst (v := (2 : Int32)) hx hb dX9_oil_24 (by decide) ?_
      obtain ⟨rfl, rfl⟩ := prodI2 hR
      exact rw_iret hx hb hr hlocks hP hS dX9_oil_25
  · rw [if_pos c5] at hR
    refine lv_iconst (v := (1 : Int32)) hx hb dX9_oil_8 (by decide) ?_
    obtain ⟨rfl, rfl⟩ := prodI2 hR
    exact rw_iret hx hb hr hlocks hP hS dX9_oil_9


theorem in_X9_wire_X9 : ∀ w ∈ u_ws RX9 TX9 19, w ∈ wsX9_wire := by decide +kernel
def f_X9_wire (mo_there : Int32) (mo_now : Nat → Int32) (xp : Int32) : Int32 × (Nat → Int32) :=
  (if ((f_X9_isThere mo_there xp) = 0) then ((1 : Int32), mo_now) else (if ((f_X9_has (mo_now 14) xp) = 0) then ((2 : Int32), mo_now) else ((0 : Int32), (upd mo_now 14 ((mo_now 14) &&& (((1 : Int32) <<< (xp &&& 31)) ^^^ (-1 : Int32)))))))
set_option maxHeartbeats 4000000 in
set_option maxRecDepth 100000 in
theorem c_X9_wire (l : Launch) (D : va_G) (cI cJ cZ : ClassId) (mo : Nat) (mo_book_a : Nat) (mo_now_a : Nat) (mo_there : Int32) (mo_beside_a : Nat) (mo_sights : Int32) (mo_sight_a : Nat) (mo_signs : Int32) (mo_pad_a : Nat) (mo_heldAt : Int32) (mo_heldThing : Int32) (mo_reason : Int32) (mo_acts : Int32) (mo_lefts_a : Nat) (mo_inWays_a : Nat) (mo_more_a : Nat) (mo_wins_a : Nat) (mo_been_a : Nat) (mo_image_a : Nat) (mo_isKept_a : Nat) (mo_now : Nat → Int32) (xp : Int32) : RW l yX9_wire wsX9_wire ({ frames := 2, cells := 0, slots := 0, locals := 43 }) [.ref mo, .int xp] D cI cJ cZ [(mo, .inr (9, [.ref mo_book_a, .ref mo_now_a, .int mo_there, .ref mo_beside_a, .int mo_sights, .ref mo_sight_a, .int mo_signs, .ref mo_pad_a, .int mo_heldAt, .int mo_heldThing, .int mo_reason, .int mo_acts, .ref mo_lefts_a, .ref mo_inWays_a, .ref mo_more_a, .ref mo_wins_a, .ref mo_been_a, .ref mo_image_a, .ref mo_isKept_a])), (mo_now_a, .inl (cI, 19, .inl mo_now))] (some (.int ((f_X9_wire mo_there mo_now xp).1))) [(mo, .inr (9, [.ref mo_book_a, .ref mo_now_a, .int mo_there, .ref mo_beside_a, .int mo_sights, .ref mo_sight_a, .int mo_signs, .ref mo_pad_a, .int mo_heldAt, .int mo_heldThing, .int mo_reason, .int mo_acts, .ref mo_lefts_a, .ref mo_inWays_a, .ref mo_more_a, .ref mo_wins_a, .ref mo_been_a, .ref mo_image_a, .ref mo_isKept_a])), (mo_now_a, .inl (cI, 19, .inl ((f_X9_wire mo_there mo_now xp).2)))] := by
  obtain ⟨R0, R1, hR⟩ := prodE2 (f_X9_wire mo_there mo_now xp)
  rw [hR]
  dsimp only
  refine rw_start (cc := cX9_wire) (maxL := 2) (ret := (some .int)) (by decide) rfl (Nat.le_of_ble_eq_true rfl) ?_
  intro p e s m args below meth c hx hb hr hml hown hts hlocks hP hD hS hK ls hl
  have hown : s.vm.findClass RX9 = some m.cls := hown
  have hl : lv_has ls 2 [(0, .ref mo), (1, .int xp)] := hl
  have hq0 := hts (.fieldLink RX9 13 "StuckVanesModel" "now" "[I") (by decide +kernel)
  rw [f_X9_wire] at hR
  refine lv_aload_n hx hb dX9_wire_0 rfl (lv_at hl 0 rfl) ?_
  refine lv_iload_n hx hb dX9_wire_1 rfl (lv_at hl 1 rfl) ?_
  refine ro_V (As := [.int xp]) (rest := []) ⟨hx, hb, hml, hown, hts⟩ hK (c_X9_isThere l D cI cJ cZ mo mo_book_a mo_now_a mo_there mo_beside_a mo_sights mo_sight_a mo_signs mo_pad_a mo_heldAt mo_heldThing mo_reason mo_acts mo_lefts_a mo_inWays_a mo_more_a mo_wins_a mo_been_a mo_image_a mo_isKept_a xp) hP 0 rfl rfl (rw_sub hP [0] rfl) (cwV 1 hts gX9_wire_X9_isThere rfl rfl rfl ⟨rfl, hd_X9_isThere⟩ ⟨(Nat.le_of_ble_eq_true rfl), (Nat.le_of_ble_eq_true rfl)⟩) rfl hl.1 rfl (Nat.le_of_ble_eq_true rfl) dX9_wire_2 (Nat.zero_le _) (Nat.zero_le _) ?_
  refine lv_if_ne (tgt := 10) hx hb dX9_wire_5 (by decide) (fun c5 => ?_) (fun c5 => ?_)
  · rw [if_neg c5] at hR
    refine lv_aload_n hx hb dX9_wire_10 rfl (lv_at hl 0 rfl) ?_
    refine va_get (D := D) (ci := 9) (v := .ref mo_now_a) (C := RX9) (T := TX9) (N := 19) hx hb hts in_X9_wire_X9 hown hK.1 hP 0 rfl rfl 1 (by decide) hq0 (fun _ h9 => h9) rfl dX9_wire_11 ?_
    refine lv_bipush (v := (14 : Int32)) hx hb dX9_wire_14 (by decide +kernel) ?_
    refine ia_ld hx hb hK hP 1 rfl (i := 14) (by omega) (by decide) dX9_wire_16 ?_
    refine lv_iload_n hx hb dX9_wire_17 rfl (lv_at hl 1 rfl) ?_
    refine ro_S (As := [.int (mo_now 14), .int xp]) (rest := []) ⟨hx, hb, hml, hown, hts⟩ hK (c_X9_has l D cI cJ cZ (mo_now 14) xp) va_P_nil (va_cwS 2 hts gX9_wire_X9_has rfl rfl rfl hd_X9_has ⟨(Nat.le_of_ble_eq_true rfl), (Nat.le_of_ble_eq_true rfl)⟩) rfl hl.1 rfl (Nat.le_of_ble_eq_true rfl) dX9_wire_18 (Nat.zero_le _) (Nat.zero_le _) ?_
    refine lv_if_ne (tgt := 26) hx hb dX9_wire_21 (by decide) (fun c21 => ?_) (fun c21 => ?_)
    · rw [if_neg c21] at hR
      refine lv_aload_n hx hb dX9_wire_26 rfl (lv_at hl 0 rfl) ?_
      refine va_get (D := D) (ci := 9) (v := .ref mo_now_a) (C := RX9) (T := TX9) (N := 19) hx hb hts in_X9_wire_X9 hown hK.1 hP 0 rfl rfl 1 (by decide) hq0 (fun _ h9 => h9) rfl dX9_wire_27 ?_
      refine lv_bipush (v := (14 : Int32)) hx hb dX9_wire_30 (by decide +kernel) ?_
      refine lv_dup2_11 hx hb dX9_wire_32 rfl rfl ?_
      refine ia_ld hx hb hK hP 1 rfl (i := 14) (by omega) (by decide) dX9_wire_33 ?_
      refine lv_iconst (v := (1 : Int32)) hx hb dX9_wire_34 (by decide) ?_
      refine lv_iload_n hx hb dX9_wire_35 rfl (lv_at hl 1 rfl) ?_
      refine lv_ishl hx hb dX9_wire_36 ?_
      refine lv_iconst (v := (-1 : Int32)) hx hb dX9_wire_37 (by decide) ?_
      refine lv_ixor hx hb dX9_wire_38 ?_
      refine lv_iand hx hb dX9_wire_39 ?_
      refine ia_st hx hb hK hP hD hS 1 rfl (i := 14) (by omega) (by decide) dX9_wire_40 (fun H locs hP hD hS => ?_)
      have hP : va_P D vwCl [(mo, .inr (9, [.ref mo_book_a, .ref mo_now_a, .int mo_there, .ref mo_beside_a, .int mo_sights, .ref mo_sight_a, .int mo_signs, .ref mo_pad_a, .int mo_heldAt, .int mo_heldThing, .int mo_reason, .int mo_acts, .ref mo_lefts_a, .ref mo_inWays_a, .ref mo_more_a, .ref mo_wins_a, .ref mo_been_a, .ref mo_image_a, .ref mo_isKept_a])), (mo_now_a, .inl (cI, 19, .inl (upd mo_now 14 ((mo_now 14) &&& (((1 : Int32) <<< (xp &&& 31)) ^^^ (-1 : Int32))))))] H := hP
      have hD : va_D _ [(mo, .inr (9, [.ref mo_book_a, .ref mo_now_a, .int mo_there, .ref mo_beside_a, .int mo_sights, .ref mo_sight_a, .int mo_signs, .ref mo_pad_a, .int mo_heldAt, .int mo_heldThing, .int mo_reason, .int mo_acts, .ref mo_lefts_a, .ref mo_inWays_a, .ref mo_more_a, .ref mo_wins_a, .ref mo_been_a, .ref mo_image_a, .ref mo_isKept_a])), (mo_now_a, .inl (cI, 19, .inl (upd mo_now 14 ((mo_now 14) &&& (((1 : Int32) <<< (xp &&& 31)) ^^^ (-1 : Int32))))))] := hD
      refine lv_iconst (v := (0 : Int32)) hx hb dX9_wire_41 (by decide) ?_
      obtain ⟨rfl, rfl⟩ := prodI2 hR
      exact rw_iret hx hb hr hlocks hP hS dX9_wire_42
    · rw [if_pos c21] at hR
      refine lv_iconst (v := (2 : Int32)) hx hb dX9_wire_24 (by decide) ?_
      obtain ⟨rfl, rfl⟩ := prodI2 hR
      exact rw_iret hx hb hr hlocks hP hS dX9_wire_25
  · rw [if_pos c5] at hR
    refine lv_iconst (v := (1 : Int32)) hx hb dX9_wire_8 (by decide) ?_
    obtain ⟨rfl, rfl⟩ := prodI2 hR
    exact rw_iret hx hb hr hlocks hP hS dX9_wire_9


theorem in_X9_hand_X9 : ∀ w ∈ u_ws RX9 TX9 19, w ∈ wsX9_hand := by decide +kernel
def f_X9_hand (mo_there : Int32) (mo_now : Nat → Int32) (xp : Int32) (xw : Int32) : Int32 × (Nat → Int32) :=
  (if ((f_X9_isThere mo_there xp) = 0) then ((1 : Int32), mo_now) else (if ((f_X9_has (mo_now 14) xp) = 0) then ((2 : Int32), mo_now) else (if ((mo_now xp.toNatClampNeg) = xw) then ((3 : Int32), mo_now) else ((0 : Int32), (upd mo_now xp.toNatClampNeg xw)))))
set_option maxHeartbeats 4000000 in
set_option maxRecDepth 100000 in
theorem c_X9_hand (l : Launch) (D : va_G) (cI cJ cZ : ClassId) (mo : Nat) (mo_book_a : Nat) (mo_now_a : Nat) (mo_there : Int32) (mo_beside_a : Nat) (mo_sights : Int32) (mo_sight_a : Nat) (mo_signs : Int32) (mo_pad_a : Nat) (mo_heldAt : Int32) (mo_heldThing : Int32) (mo_reason : Int32) (mo_acts : Int32) (mo_lefts_a : Nat) (mo_inWays_a : Nat) (mo_more_a : Nat) (mo_wins_a : Nat) (mo_been_a : Nat) (mo_image_a : Nat) (mo_isKept_a : Nat) (mo_now : Nat → Int32) (xp : Int32) (xw : Int32) : RW l yX9_hand wsX9_hand ({ frames := 2, cells := 0, slots := 0, locals := 43 }) [.ref mo, .int xp, .int xw] D cI cJ cZ [(mo, .inr (9, [.ref mo_book_a, .ref mo_now_a, .int mo_there, .ref mo_beside_a, .int mo_sights, .ref mo_sight_a, .int mo_signs, .ref mo_pad_a, .int mo_heldAt, .int mo_heldThing, .int mo_reason, .int mo_acts, .ref mo_lefts_a, .ref mo_inWays_a, .ref mo_more_a, .ref mo_wins_a, .ref mo_been_a, .ref mo_image_a, .ref mo_isKept_a])), (mo_now_a, .inl (cI, 19, .inl mo_now))] (some (.int ((f_X9_hand mo_there mo_now xp xw).1))) [(mo, .inr (9, [.ref mo_book_a, .ref mo_now_a, .int mo_there, .ref mo_beside_a, .int mo_sights, .ref mo_sight_a, .int mo_signs, .ref mo_pad_a, .int mo_heldAt, .int mo_heldThing, .int mo_reason, .int mo_acts, .ref mo_lefts_a, .ref mo_inWays_a, .ref mo_more_a, .ref mo_wins_a, .ref mo_been_a, .ref mo_image_a, .ref mo_isKept_a])), (mo_now_a, .inl (cI, 19, .inl ((f_X9_hand mo_there mo_now xp xw).2)))] := by
  obtain ⟨R0, R1, hR⟩ := prodE2 (f_X9_hand mo_there mo_now xp xw)
  rw [hR]
  dsimp only
  refine rw_start (cc := cX9_hand) (maxL := 3) (ret := (some .int)) (by decide) rfl (Nat.le_of_ble_eq_true rfl) ?_
  intro p e s m args below meth c hx hb hr hml hown hts hlocks hP hD hS hK ls hl
  have hown : s.vm.findClass RX9 = some m.cls := hown
  have hl : lv_has ls 3 [(0, .ref mo), (1, .int xp), (2, .int xw)] := hl
  have hq0 := hts (.fieldLink RX9 13 "StuckVanesModel" "now" "[I") (by decide +kernel)
  rw [f_X9_hand] at hR
  refine lv_aload_n hx hb dX9_hand_0 rfl (lv_at hl 0 rfl) ?_
  refine lv_iload_n hx hb dX9_hand_1 rfl (lv_at hl 1 rfl) ?_
  refine ro_V (As := [.int xp]) (rest := []) ⟨hx, hb, hml, hown, hts⟩ hK (c_X9_isThere l D cI cJ cZ mo mo_book_a mo_now_a mo_there mo_beside_a mo_sights mo_sight_a mo_signs mo_pad_a mo_heldAt mo_heldThing mo_reason mo_acts mo_lefts_a mo_inWays_a mo_more_a mo_wins_a mo_been_a mo_image_a mo_isKept_a xp) hP 0 rfl rfl (rw_sub hP [0] rfl) (cwV 1 hts gX9_hand_X9_isThere rfl rfl rfl ⟨rfl, hd_X9_isThere⟩ ⟨(Nat.le_of_ble_eq_true rfl), (Nat.le_of_ble_eq_true rfl)⟩) rfl hl.1 rfl (Nat.le_of_ble_eq_true rfl) dX9_hand_2 (Nat.zero_le _) (Nat.zero_le _) ?_
  refine lv_if_ne (tgt := 10) hx hb dX9_hand_5 (by decide) (fun c5 => ?_) (fun c5 => ?_)
  · rw [if_neg c5] at hR
    refine lv_aload_n hx hb dX9_hand_10 rfl (lv_at hl 0 rfl) ?_
    refine va_get (D := D) (ci := 9) (v := .ref mo_now_a) (C := RX9) (T := TX9) (N := 19) hx hb hts in_X9_hand_X9 hown hK.1 hP 0 rfl rfl 1 (by decide) hq0 (fun _ h9 => h9) rfl dX9_hand_11 ?_
    refine lv_bipush (v := (14 : Int32)) hx hb dX9_hand_14 (by decide +kernel) ?_
    refine ia_ld hx hb hK hP 1 rfl (i := 14) (by omega) (by decide) dX9_hand_16 ?_
    refine lv_iload_n hx hb dX9_hand_17 rfl (lv_at hl 1 rfl) ?_
    refine ro_S (As := [.int (mo_now 14), .int xp]) (rest := []) ⟨hx, hb, hml, hown, hts⟩ hK (c_X9_has l D cI cJ cZ (mo_now 14) xp) va_P_nil (va_cwS 2 hts gX9_hand_X9_has rfl rfl rfl hd_X9_has ⟨(Nat.le_of_ble_eq_true rfl), (Nat.le_of_ble_eq_true rfl)⟩) rfl hl.1 rfl (Nat.le_of_ble_eq_true rfl) dX9_hand_18 (Nat.zero_le _) (Nat.zero_le _) ?_
    refine lv_if_ne (tgt := 26) hx hb dX9_hand_21 (by decide) (fun c21 => ?_) (fun c21 => ?_)
    · rw [if_neg c21] at hR
      refine lv_aload_n hx hb dX9_hand_26 rfl (lv_at hl 0 rfl) ?_
      refine va_get (D := D) (ci := 9) (v := .ref mo_now_a) (C := RX9) (T := TX9) (N := 19) hx hb hts in_X9_hand_X9 hown hK.1 hP 0 rfl rfl 1 (by decide) hq0 (fun _ h9 => h9) rfl dX9_hand_27 ?_
      refine lv_iload_n hx hb dX9_hand_30 rfl (lv_at hl 1 rfl) ?_
      refine va_iald hx hb hK.1 hP 1 0 rfl rfl (vp_mono (vp_there9 c5) (by decide) (by decide) (by decide)) dX9_hand_31 ?_
      refine lv_iload_n hx hb dX9_hand_32 rfl (lv_at hl 2 rfl) ?_
      refine lv_icmp_ne (tgt := 38) hx hb dX9_hand_33 (by decide) (fun c33 => ?_) (fun c33 => ?_)
      · rw [if_neg c33] at hR
        refine lv_aload_n hx hb dX9_hand_38 rfl (lv_at hl 0 rfl) ?_
        refine va_get (D := D) (ci := 9) (v := .ref mo_now_a) (C := RX9) (T := TX9) (N := 19) hx hb hts in_X9_hand_X9 hown hK.1 hP 0 rfl rfl 1 (by decide) hq0 (fun _ h9 => h9) rfl dX9_hand_39 ?_
        refine lv_iload_n hx hb dX9_hand_42 rfl (lv_at hl 1 rfl) ?_
        refine lv_iload_n hx hb dX9_hand_43 rfl (lv_at hl 2 rfl) ?_
        refine va_iast hx hb hK.1 hP hD hS 1 0 rfl rfl (vp_mono (vp_there9 c5) (by decide) (by decide) (by decide)) dX9_hand_44 (fun H locs hP hD hS => ?_)
        have hP : va_P D vwCl [(mo, .inr (9, [.ref mo_book_a, .ref mo_now_a, .int mo_there, .ref mo_beside_a, .int mo_sights, .ref mo_sight_a, .int mo_signs, .ref mo_pad_a, .int mo_heldAt, .int mo_heldThing, .int mo_reason, .int mo_acts, .ref mo_lefts_a, .ref mo_inWays_a, .ref mo_more_a, .ref mo_wins_a, .ref mo_been_a, .ref mo_image_a, .ref mo_isKept_a])), (mo_now_a, .inl (cI, 19, .inl (upd mo_now xp.toNatClampNeg xw)))] H := hP
        have hD : va_D _ [(mo, .inr (9, [.ref mo_book_a, .ref mo_now_a, .int mo_there, .ref mo_beside_a, .int mo_sights, .ref mo_sight_a, .int mo_signs, .ref mo_pad_a, .int mo_heldAt, .int mo_heldThing, .int mo_reason, .int mo_acts, .ref mo_lefts_a, .ref mo_inWays_a, .ref mo_more_a, .ref mo_wins_a, .ref mo_been_a, .ref mo_image_a, .ref mo_isKept_a])), (mo_now_a, .inl (cI, 19, .inl (upd mo_now xp.toNatClampNeg xw)))] := hD
        refine lv_iconst (v := (0 : Int32)) hx hb dX9_hand_45 (by decide) ?_
        obtain ⟨rfl, rfl⟩ := prodI2 hR
        exact rw_iret hx hb hr hlocks hP hS dX9_hand_46
      · rw [if_pos c33] at hR
        refine lv_iconst (v := (3 : Int32)) hx hb dX9_hand_36 (by decide) ?_
        obtain ⟨rfl, rfl⟩ := prodI2 hR
        exact rw_iret hx hb hr hlocks hP hS dX9_hand_37
    · rw [if_pos c21] at hR
      refine lv_iconst (v := (2 : Int32)) hx hb dX9_hand_24 (by decide) ?_
      obtain ⟨rfl, rfl⟩ := prodI2 hR
      exact rw_iret hx hb hr hlocks hP hS dX9_hand_25
  · rw [if_pos c5] at hR
    refine lv_iconst (v := (1 : Int32)) hx hb dX9_hand_8 (by decide) ?_
    obtain ⟨rfl, rfl⟩ := prodI2 hR
    exact rw_iret hx hb hr hlocks hP hS dX9_hand_9


theorem in_X9_blow_X9 : ∀ w ∈ u_ws RX9 TX9 19, w ∈ wsX9_blow := by decide +kernel
def f_X9_blow (mo_now : Nat → Int32) (xw : Int32) : Int32 × (Nat → Int32) :=
  (if ((mo_now 16) = xw) then ((5 : Int32), mo_now) else ((0 : Int32), (upd mo_now 16 xw)))
set_option maxHeartbeats 4000000 in
set_option maxRecDepth 100000 in
theorem c_X9_blow (l : Launch) (D : va_G) (cI cJ cZ : ClassId) (mo : Nat) (mo_book_a : Nat) (mo_now_a : Nat) (mo_there : Int32) (mo_beside_a : Nat) (mo_sights : Int32) (mo_sight_a : Nat) (mo_signs : Int32) (mo_pad_a : Nat) (mo_heldAt : Int32) (mo_heldThing : Int32) (mo_reason : Int32) (mo_acts : Int32) (mo_lefts_a : Nat) (mo_inWays_a : Nat) (mo_more_a : Nat) (mo_wins_a : Nat) (mo_been_a : Nat) (mo_image_a : Nat) (mo_isKept_a : Nat) (mo_now : Nat → Int32) (xw : Int32) : RW l yX9_blow wsX9_blow ({ frames := 0, cells := 0, slots := 0, locals := 0 }) [.ref mo, .int xw] D cI cJ cZ [(mo, .inr (9, [.ref mo_book_a, .ref mo_now_a, .int mo_there, .ref mo_beside_a, .int mo_sights, .ref mo_sight_a, .int mo_signs, .ref mo_pad_a, .int mo_heldAt, .int mo_heldThing, .int mo_reason, .int mo_acts, .ref mo_lefts_a, .ref mo_inWays_a, .ref mo_more_a, .ref mo_wins_a, .ref mo_been_a, .ref mo_image_a, .ref mo_isKept_a])), (mo_now_a, .inl (cI, 19, .inl mo_now))] (some (.int ((f_X9_blow mo_now xw).1))) [(mo, .inr (9, [.ref mo_book_a, .ref mo_now_a, .int mo_there, .ref mo_beside_a, .int mo_sights, .ref mo_sight_a, .int mo_signs, .ref mo_pad_a, .int mo_heldAt, .int mo_heldThing, .int mo_reason, .int mo_acts, .ref mo_lefts_a, .ref mo_inWays_a, .ref mo_more_a, .ref mo_wins_a, .ref mo_been_a, .ref mo_image_a, .ref mo_isKept_a])), (mo_now_a, .inl (cI, 19, .inl ((f_X9_blow mo_now xw).2)))] := by
  obtain ⟨R0, R1, hR⟩ := prodE2 (f_X9_blow mo_now xw)
  rw [hR]
  dsimp only
  refine rw_start (cc := cX9_blow) (maxL := 2) (ret := (some .int)) (by decide) rfl (Nat.le_of_ble_eq_true rfl) ?_
  intro p e s m args below meth c hx hb hr hml hown hts hlocks hP hD hS hK ls hl
  have hown : s.vm.findClass RX9 = some m.cls := hown
  have hl : lv_has ls 2 [(0, .ref mo), (1, .int xw)] := hl
  have hq0 := hts (.fieldLink RX9 13 "StuckVanesModel" "now" "[I") (by decide +kernel)
  rw [f_X9_blow] at hR
  refine lv_aload_n hx hb dX9_blow_0 rfl (lv_at hl 0 rfl) ?_
  refine va_get (D := D) (ci := 9) (v := .ref mo_now_a) (C := RX9) (T := TX9) (N := 19) hx hb hts in_X9_blow_X9 hown hK.1 hP 0 rfl rfl 1 (by decide) hq0 (fun _ h9 => h9) rfl dX9_blow_1 ?_
  refine lv_bipush (v := (16 : Int32)) hx hb dX9_blow_4 (by decide +kernel) ?_
  refine ia_ld hx hb hK hP 1 rfl (i := 16) (by omega) (by decide) dX9_blow_6 ?_
  refine lv_iload_n hx hb dX9_blow_7 rfl (lv_at hl 1 rfl) ?_
  refine lv_icmp_ne (tgt := 13) hx hb dX9_blow_8 (by decide) (fun c8 => ?_) (fun c8 => ?_)
  · rw [if_neg c8] at hR
    refine lv_aload_n hx hb dX9_blow_13 rfl (lv_at hl 0 rfl) ?_
    refine va_get (D := D) (ci := 9) (v := .ref mo_now_a) (C := RX9) (T := TX9) (N := 19) hx hb hts in_X9_blow_X9 hown hK.1 hP 0 rfl rfl 1 (by decide) hq0 (fun _ h9 => h9) rfl dX9_blow_14 ?_
    refine lv_bipush (v := (16 : Int32)) hx hb dX9_blow_17 (by decide +kernel) ?_
    refine lv_iload_n hx hb dX9_blow_19 rfl (lv_at hl 1 rfl) ?_
    refine ia_st hx hb hK hP hD hS 1 rfl (i := 16) (by omega) (by decide) dX9_blow_20 (fun H locs hP hD hS => ?_)
    have hP : va_P D vwCl [(mo, .inr (9, [.ref mo_book_a, .ref mo_now_a, .int mo_there, .ref mo_beside_a, .int mo_sights, .ref mo_sight_a, .int mo_signs, .ref mo_pad_a, .int mo_heldAt, .int mo_heldThing, .int mo_reason, .int mo_acts, .ref mo_lefts_a, .ref mo_inWays_a, .ref mo_more_a, .ref mo_wins_a, .ref mo_been_a, .ref mo_image_a, .ref mo_isKept_a])), (mo_now_a, .inl (cI, 19, .inl (upd mo_now 16 xw)))] H := hP
    have hD : va_D _ [(mo, .inr (9, [.ref mo_book_a, .ref mo_now_a, .int mo_there, .ref mo_beside_a, .int mo_sights, .ref mo_sight_a, .int mo_signs, .ref mo_pad_a, .int mo_heldAt, .int mo_heldThing, .int mo_reason, .int mo_acts, .ref mo_lefts_a, .ref mo_inWays_a, .ref mo_more_a, .ref mo_wins_a, .ref mo_been_a, .ref mo_image_a, .ref mo_isKept_a])), (mo_now_a, .inl (cI, 19, .inl (upd mo_now 16 xw)))] := hD
    refine lv_iconst (v := (0 : Int32)) hx hb dX9_blow_21 (by decide) ?_
    obtain ⟨rfl, rfl⟩ := prodI2 hR
    exact rw_iret hx hb hr hlocks hP hS dX9_blow_22
  · rw [if_pos c8] at hR
    refine lv_iconst (v := (5 : Int32)) hx hb dX9_blow_11 (by decide) ?_
    obtain ⟨rfl, rfl⟩ := prodI2 hR
    exact rw_iret hx hb hr hlocks hP hS dX9_blow_12


theorem in_X9_agreeing_X9 : ∀ w ∈ u_ws RX9 TX9 19, w ∈ wsX9_agreeing := by decide +kernel
theorem hd_X9_apartOf : yX9_apartOf.cls ≠ "java/lang/invoke/MethodHandle" ∧ yX9_apartOf.cls ≠ "java/lang/invoke/VarHandle" ∧ (parseMethodDescriptor yX9_apartOf.desc).map (fun d => d.parameters.length) = some 2 := by decide +kernel
def lp_X9_agreeing_4 (mo_there : Int32) (mo_now : Nat → Int32) (xt : Int32) : Nat → Nat → Int32 → Int32
  | 0, _, v2_4 => v2_4
  | k4 + 1, i4, v2_4 => (if ((f_X9_isThere mo_there (nI i4)) = 0) then (lp_X9_agreeing_4 mo_there mo_now xt k4 (i4 + 1) (v2_4 ||| (0 : Int32))) else (if ((2 : Int32) ≤ (f_X9_apartOf (mo_now i4) xt)) then (lp_X9_agreeing_4 mo_there mo_now xt k4 (i4 + 1) (v2_4 ||| (0 : Int32))) else (lp_X9_agreeing_4 mo_there mo_now xt k4 (i4 + 1) (v2_4 ||| ((1 : Int32) <<< ((nI i4) &&& 31))))))
def f_X9_agreeing (mo_there : Int32) (mo_now : Nat → Int32) (xt : Int32) : Int32 :=
  (lp_X9_agreeing_4 mo_there mo_now xt 7 0 (0 : Int32))
set_option maxHeartbeats 4000000 in
set_option maxRecDepth 100000 in
theorem c_X9_agreeing (l : Launch) (D : va_G) (cI cJ cZ : ClassId) (mo : Nat) (mo_book_a : Nat) (mo_now_a : Nat) (mo_there : Int32) (mo_beside_a : Nat) (mo_sights : Int32) (mo_sight_a : Nat) (mo_signs : Int32) (mo_pad_a : Nat) (mo_heldAt : Int32) (mo_heldThing : Int32) (mo_reason : Int32) (mo_acts : Int32) (mo_lefts_a : Nat) (mo_inWays_a : Nat) (mo_more_a : Nat) (mo_wins_a : Nat) (mo_been_a : Nat) (mo_image_a : Nat) (mo_isKept_a : Nat) (mo_now : Nat → Int32) (xt : Int32) : RO l yX9_agreeing wsX9_agreeing ({ frames := 2, cells := 0, slots := 0, locals := 43 }) [.ref mo, .int xt] D cI cJ cZ [(mo, .inr (9, [.ref mo_book_a, .ref mo_now_a, .int mo_there, .ref mo_beside_a, .int mo_sights, .ref mo_sight_a, .int mo_signs, .ref mo_pad_a, .int mo_heldAt, .int mo_heldThing, .int mo_reason, .int mo_acts, .ref mo_lefts_a, .ref mo_inWays_a, .ref mo_more_a, .ref mo_wins_a, .ref mo_been_a, .ref mo_image_a, .ref mo_isKept_a])), (mo_now_a, .inl (cI, 19, .inl mo_now))] (.int (f_X9_agreeing mo_there mo_now xt)) := by
  obtain ⟨R, hR⟩ : ∃ R, (f_X9_agreeing mo_there mo_now xt) = R := ⟨_, rfl⟩
  rw [hR]
  refine ro_start (cc := cX9_agreeing) (maxL := 4) (ret := (some .int)) (by decide) rfl (Nat.le_of_ble_eq_true rfl) ?_
  intro p e s m args below meth c hx hb hr hml hown hts hlocks hP hK ls hl
  have hown : s.vm.findClass RX9 = some m.cls := hown
  have hl : lv_has ls 4 [(0, .ref mo), (1, .int xt)] := hl
  have hq0 := hts (.fieldLink RX9 13 "StuckVanesModel" "now" "[I") (by decide +kernel)
  rw [f_X9_agreeing] at hR
  refine lv_iconst (v := (0 : Int32)) hx hb dX9_agreeing_0 (by decide) ?_
  refine lv_istore_n (lv' := [(2, .int (0 : Int32)), (0, .ref mo), (1, .int xt)]) hx hb dX9_agreeing_1 rfl hl (by decide) rfl (fun ls hl => ?_)
  refine lv_iconst (v := (0 : Int32)) hx hb dX9_agreeing_2 (by decide) ?_
  refine lv_istore_n (lv' := [(3, .int (0 : Int32)), (2, .int (0 : Int32)), (0, .ref mo), (1, .int xt)]) hx hb dX9_agreeing_3 rfl hl (by decide) rfl (fun ls hl => ?_)
  obtain ⟨F4_1, hF4_1⟩ : ∃ x, (lp_X9_agreeing_4 mo_there mo_now xt 7 0 (0 : Int32)) = x := ⟨_, rfl⟩
  try rw [hF4_1] at hR
  have hexit4 : ∀ (ls : Array Slot), lv_has ls 4 [(2, .int F4_1), (0, .ref mo), (1, .int xt)] → W p l e ({ frames := 2, cells := 0, slots := 0, locals := 43 }) s m args below meth c s.heap [] 0 0 (MQ below (ro_Q (.int R)) args s 0 0 (fun _ => False)) (F0 m 48 ls []) := by
    intro ls hl
    refine lv_iload_n hx hb dX9_agreeing_48 rfl (lv_at hl 0 rfl) ?_
    subst hR
    exact ro_iret hx hb hr hlocks dX9_agreeing_49
  have hloop4 : ∀ (k4 i4 : Nat) (v2_4 : Int32), i4 + k4 = 7 → ∀ (ls : Array Slot), lv_has ls 4 [(3, .int (nI i4)), (2, .int v2_4), (0, .ref mo), (1, .int xt)] → lp_X9_agreeing_4 mo_there mo_now xt k4 i4 v2_4 = F4_1 → W p l e ({ frames := 2, cells := 0, slots := 0, locals := 43 }) s m args below meth c s.heap [] 0 0 (MQ below (ro_Q (.int R)) args s 0 0 (fun _ => False)) (F0 m 4 ls []) := by
    intro k4
    induction k4 with
    | zero =>
      intro i4 v2_4 h4  ls hl hR
      obtain rfl : 7 = i4 := by omega
      rw [lp_X9_agreeing_4] at hR
      refine lv_iload_n hx hb dX9_agreeing_4 rfl (lv_at hl 0 rfl) ?_
      refine lv_bipush (v := (7 : Int32)) hx hb dX9_agreeing_5 (by decide +kernel) ?_
      refine lv_icmp_ge (tgt := 48) hx hb dX9_agreeing_7 (by decide) (fun _ => ?_) (fun h => absurd (cle_t (a := 7) (b := 7) rfl rfl (by omega) (by omega)) h)
      subst hR
      exact hexit4 _ (lv_sub hl [1, 2, 3] rfl)
    | succ k4 ih4 =>
      intro i4 v2_4 h4  ls hl hR
      rw [lp_X9_agreeing_4] at hR
      refine lv_iload_n hx hb dX9_agreeing_4 rfl (lv_at hl 0 rfl) ?_
      refine lv_bipush (v := (7 : Int32)) hx hb dX9_agreeing_5 (by decide +kernel) ?_
      refine lv_icmp_ge (tgt := 48) hx hb dX9_agreeing_7 (by decide) (fun h => absurd h (cle_f (a := 7) (b := i4) rfl rfl (by omega) (by omega))) (fun _ => ?_)
      refine lv_iload_n hx hb dX9_agreeing_10 rfl (lv_at hl 1 rfl) ?_
      refine lv_aload_n hx hb dX9_agreeing_11 rfl (lv_at hl 2 rfl) ?_
      refine lv_iload_n hx hb dX9_agreeing_12 rfl (lv_at hl 0 rfl) ?_
      refine ro_V (As := [.int (nI i4)]) (rest := [.int v2_4]) ⟨hx, hb, hml, hown, hts⟩ hK (c_X9_isThere l D cI cJ cZ mo mo_book_a mo_now_a mo_there mo_beside_a mo_sights mo_sight_a mo_signs mo_pad_a mo_heldAt mo_heldThing mo_reason mo_acts mo_lefts_a mo_inWays_a mo_more_a mo_wins_a mo_been_a mo_image_a mo_isKept_a (nI i4)) hP 0 rfl rfl (rw_sub hP [0] rfl) (cwV 1 hts gX9_agreeing_X9_isThere rfl rfl rfl ⟨rfl, hd_X9_isThere⟩ ⟨(Nat.le_of_ble_eq_true rfl), (Nat.le_of_ble_eq_true rfl)⟩) rfl hl.1 rfl (Nat.le_of_ble_eq_true rfl) dX9_agreeing_13 (Nat.zero_le _) (Nat.zero_le _) ?_
      refine lv_if_eq (tgt := 39) hx hb dX9_agreeing_16 (by decide) (fun c16 => ?_) (fun c16 => ?_)
      · rw [if_pos c16] at hR
        refine lv_iconst (v := (0 : Int32)) hx hb dX9_agreeing_39 (by decide) ?_
        refine lv_ior hx hb dX9_agreeing_40 ?_
        refine lv_istore_n (lv' := [(2, .int (v2_4 ||| (0 : Int32))), (3, .int (nI i4)), (0, .ref mo), (1, .int xt)]) hx hb dX9_agreeing_41 rfl hl (by decide) rfl (fun ls hl => ?_)
        refine lv_iinc (v := (nI (i4 + 1))) (lv' := [(3, .int (nI (i4 + 1))), (2, .int (v2_4 ||| (0 : Int32))), (0, .ref mo), (1, .int xt)]) hx hb dX9_agreeing_42 hl (k := 1) rfl (by exact nI_add i4 1) (by decide) rfl (fun ls hl => ?_)
        refine lv_goto (tgt := 4) hx hb dX9_agreeing_45 (by decide) ?_
        exact ih4 _ _ (by omega) _ (lv_sub hl [0, 1, 2, 3] rfl) hR
      · rw [if_neg c16] at hR
        refine lv_aload_n hx hb dX9_agreeing_19 rfl (lv_at hl 2 rfl) ?_
        refine va_get (D := D) (ci := 9) (v := .ref mo_now_a) (C := RX9) (T := TX9) (N := 19) hx hb hts in_X9_agreeing_X9 hown hK.1 hP 0 rfl rfl 1 (by decide) hq0 (fun _ h9 => h9) rfl dX9_agreeing_20 ?_
        refine lv_iload_n hx hb dX9_agreeing_23 rfl (lv_at hl 0 rfl) ?_
        refine ia_ld hx hb hK hP 1 rfl (i := i4) (by omega) (by decide) dX9_agreeing_24 ?_
        refine lv_iload_n hx hb dX9_agreeing_25 rfl (lv_at hl 3 rfl) ?_
        refine ro_S (As := [.int (mo_now i4), .int xt]) (rest := [.int v2_4]) ⟨hx, hb, hml, hown, hts⟩ hK (c_X9_apartOf l D cI cJ cZ (mo_now i4) xt) va_P_nil (va_cwS 2 hts gX9_agreeing_X9_apartOf rfl rfl rfl hd_X9_apartOf ⟨(Nat.le_of_ble_eq_true rfl), (Nat.le_of_ble_eq_true rfl)⟩) rfl hl.1 rfl (Nat.le_of_ble_eq_true rfl) dX9_agreeing_26 (Nat.zero_le _) (Nat.zero_le _) ?_
        refine lv_iconst (v := (2 : Int32)) hx hb dX9_agreeing_29 (by decide) ?_
        refine lv_icmp_ge (tgt := 39) hx hb dX9_agreeing_30 (by decide) (fun c30 => ?_) (fun c30 => ?_)
        · rw [if_pos c30] at hR
          refine lv_iconst (v := (0 : Int32)) hx hb dX9_agreeing_39 (by decide) ?_
          refine lv_ior hx hb dX9_agreeing_40 ?_
          refine lv_istore_n (lv' := [(2, .int (v2_4 ||| (0 : Int32))), (3, .int (nI i4)), (0, .ref mo), (1, .int xt)]) hx hb dX9_agreeing_41 rfl hl (by decide) rfl (fun ls hl => ?_)
          refine lv_iinc (v := (nI (i4 + 1))) (lv' := [(3, .int (nI (i4 + 1))), (2, .int (v2_4 ||| (0 : Int32))), (0, .ref mo), (1, .int xt)]) hx hb dX9_agreeing_42 hl (k := 1) rfl (by exact nI_add i4 1) (by decide) rfl (fun ls hl => ?_)
          refine lv_goto (tgt := 4) hx hb dX9_agreeing_45 (by decide) ?_
          exact ih4 _ _ (by omega) _ (lv_sub hl [0, 1, 2, 3] rfl) hR
        · rw [if_neg c30] at hR
          refine lv_iconst (v := (1 : Int32)) hx hb dX9_agreeing_33 (by decide) ?_
          refine lv_iload_n hx hb dX9_agreeing_34 rfl (lv_at hl 0 rfl) ?_
          refine lv_ishl hx hb dX9_agreeing_35 ?_
          refine lv_goto (tgt := 40) hx hb dX9_agreeing_36 (by decide) ?_
          refine lv_ior hx hb dX9_agreeing_40 ?_
          refine lv_istore_n (lv' := [(2, .int (v2_4 ||| ((1 : Int32) <<< ((nI i4) &&& 31)))), (3, .int (nI i4)), (0, .ref mo), (1, .int xt)]) hx hb dX9_agreeing_41 rfl hl (by decide) rfl (fun ls hl => ?_)
          refine lv_iinc (v := (nI (i4 + 1))) (lv' := [(3, .int (nI (i4 + 1))), (2, .int (v2_4 ||| ((1 : Int32) <<< ((nI i4) &&& 31)))), (0, .ref mo), (1, .int xt)]) hx hb dX9_agreeing_42 hl (k := 1) rfl (by exact nI_add i4 1) (by decide) rfl (fun ls hl => ?_)
          refine lv_goto (tgt := 4) hx hb dX9_agreeing_45 (by decide) ?_
          exact ih4 _ _ (by omega) _ (lv_sub hl [0, 1, 2, 3] rfl) hR
  exact hloop4 7 0 _ (by omega) _ hl hF4_1


theorem in_X9_isCarried_X9 : ∀ w ∈ u_ws RX9 TX9 19, w ∈ wsX9_isCarried := by decide +kernel
theorem hd_X9_agreeing : yX9_agreeing.cls ≠ "java/lang/invoke/MethodHandle" ∧ yX9_agreeing.cls ≠ "java/lang/invoke/VarHandle" ∧ (parseMethodDescriptor yX9_agreeing.desc).map (fun d => d.parameters.length) = some 1 := by decide +kernel
def f_X9_isCarried (mo_there : Int32) (mo_now : Nat → Int32) (xt : Int32) : Int32 :=
  (if (((2 : Int32) * (f_X9_bits (f_X9_agreeing mo_there mo_now xt))) ≤ (f_X9_bits mo_there)) then (0 : Int32) else (1 : Int32))
set_option maxHeartbeats 4000000 in
set_option maxRecDepth 100000 in
theorem c_X9_isCarried (l : Launch) (D : va_G) (cI cJ cZ : ClassId) (mo : Nat) (mo_book_a : Nat) (mo_now_a : Nat) (mo_there : Int32) (mo_beside_a : Nat) (mo_sights : Int32) (mo_sight_a : Nat) (mo_signs : Int32) (mo_pad_a : Nat) (mo_heldAt : Int32) (mo_heldThing : Int32) (mo_reason : Int32) (mo_acts : Int32) (mo_lefts_a : Nat) (mo_inWays_a : Nat) (mo_more_a : Nat) (mo_wins_a : Nat) (mo_been_a : Nat) (mo_image_a : Nat) (mo_isKept_a : Nat) (mo_now : Nat → Int32) (xt : Int32) : RO l yX9_isCarried wsX9_isCarried ({ frames := 3, cells := 0, slots := 0, locals := 66 }) [.ref mo, .int xt] D cI cJ cZ [(mo, .inr (9, [.ref mo_book_a, .ref mo_now_a, .int mo_there, .ref mo_beside_a, .int mo_sights, .ref mo_sight_a, .int mo_signs, .ref mo_pad_a, .int mo_heldAt, .int mo_heldThing, .int mo_reason, .int mo_acts, .ref mo_lefts_a, .ref mo_inWays_a, .ref mo_more_a, .ref mo_wins_a, .ref mo_been_a, .ref mo_image_a, .ref mo_isKept_a])), (mo_now_a, .inl (cI, 19, .inl mo_now))] (.int (f_X9_isCarried mo_there mo_now xt)) := by
  obtain ⟨R, hR⟩ : ∃ R, (f_X9_isCarried mo_there mo_now xt) = R := ⟨_, rfl⟩
  rw [hR]
  refine ro_start (cc := cX9_isCarried) (maxL := 2) (ret := (some .boolean)) (by decide) rfl (Nat.le_of_ble_eq_true rfl) ?_
  intro p e s m args below meth c hx hb hr hml hown hts hlocks hP hK ls hl
  have hown : s.vm.findClass RX9 = some m.cls := hown
  have hl : lv_has ls 2 [(0, .ref mo), (1, .int xt)] := hl
  have hq0 := hts (.fieldLink RX9 52 "StuckVanesModel" "there" "I") (by decide +kernel)
  rw [f_X9_isCarried] at hR
  refine lv_iconst (v := (2 : Int32)) hx hb dX9_isCarried_0 (by decide) ?_
  refine lv_aload_n hx hb dX9_isCarried_1 rfl (lv_at hl 0 rfl) ?_
  refine lv_iload_n hx hb dX9_isCarried_2 rfl (lv_at hl 1 rfl) ?_
  refine ro_V (As := [.int xt]) (rest := [.int (2 : Int32)]) ⟨hx, hb, hml, hown, hts⟩ hK (c_X9_agreeing l D cI cJ cZ mo mo_book_a mo_now_a mo_there mo_beside_a mo_sights mo_sight_a mo_signs mo_pad_a mo_heldAt mo_heldThing mo_reason mo_acts mo_lefts_a mo_inWays_a mo_more_a mo_wins_a mo_been_a mo_image_a mo_isKept_a mo_now xt) hP 0 rfl rfl (rw_sub hP [0, 1] rfl) (cwV 1 hts gX9_isCarried_X9_agreeing rfl rfl rfl ⟨rfl, hd_X9_agreeing⟩ ⟨(Nat.le_of_ble_eq_true rfl), (Nat.le_of_ble_eq_true rfl)⟩) rfl hl.1 rfl (Nat.le_of_ble_eq_true rfl) dX9_isCarried_3 (Nat.zero_le _) (Nat.zero_le _) ?_
  refine ro_S (As := [.int (f_X9_agreeing mo_there mo_now xt)]) (rest := [.int (2 : Int32)]) ⟨hx, hb, hml, hown, hts⟩ hK (c_X9_bits l D cI cJ cZ (f_X9_agreeing mo_there mo_now xt)) va_P_nil (va_cwS 1 hts gX9_isCarried_X9_bits rfl rfl rfl hd_X9_bits ⟨(Nat.le_of_ble_eq_true rfl), (Nat.le_of_ble_eq_true rfl)⟩) rfl hl.1 rfl (Nat.le_of_ble_eq_true rfl) dX9_isCarried_6 (Nat.zero_le _) (Nat.zero_le _) ?_
  refine lv_imul hx hb dX9_isCarried_9 ?_
  refine lv_aload_n hx hb dX9_isCarried_10 rfl (lv_at hl 0 rfl) ?_
  refine va_get (D := D) (ci := 9) (v := .int mo_there) (C := RX9) (T := TX9) (N := 19) hx hb hts in_X9_isCarried_X9 hown hK.1 hP 0 rfl rfl 2 (by decide) hq0 (fun _ h9 => h9) rfl dX9_isCarried_11 ?_
  refine ro_S (As := [.int mo_there]) (rest := [.int ((2 : Int32) * (f_X9_bits (f_X9_agreeing mo_there mo_now xt)))]) ⟨hx, hb, hml, hown, hts⟩ hK (c_X9_bits l D cI cJ cZ mo_there) va_P_nil (va_cwS 1 hts gX9_isCarried_X9_bits rfl rfl rfl hd_X9_bits ⟨(Nat.le_of_ble_eq_true rfl), (Nat.le_of_ble_eq_true rfl)⟩) rfl hl.1 rfl (Nat.le_of_ble_eq_true rfl) dX9_isCarried_14 (Nat.zero_le _) (Nat.zero_le _) ?_
  refine lv_icmp_le (tgt := 24) hx hb dX9_isCarried_17 (by decide) (fun c17 => ?_) (fun c17 => ?_)
  · rw [if_pos c17] at hR
    refine lv_iconst (v := (0 : Int32)) hx hb dX9_isCarried_24 (by decide) ?_
    subst hR
    exact ro_zret hx hb hr hlocks (Or.inl rfl) dX9_isCarried_25
  · rw [if_neg c17] at hR
    refine lv_iconst (v := (1 : Int32)) hx hb dX9_isCarried_20 (by decide) ?_
    refine lv_goto (tgt := 25) hx hb dX9_isCarried_21 (by decide) ?_
    subst hR
    exact ro_zret hx hb hr hlocks (Or.inr rfl) dX9_isCarried_25

theorem z_X9_isCarried (mo_there : Int32) (mo_now : Nat → Int32) (xt : Int32) : (f_X9_isCarried mo_there mo_now xt) = 0 ∨ (f_X9_isCarried mo_there mo_now xt) = 1 := by
  unfold f_X9_isCarried
  (repeat' split) <;> first | exact Or.inl rfl | exact Or.inr rfl


theorem in_X9_vote_X9 : ∀ w ∈ u_ws RX9 TX9 19, w ∈ wsX9_vote := by decide +kernel
theorem hd_X9_isCarried : yX9_isCarried.cls ≠ "java/lang/invoke/MethodHandle" ∧ yX9_isCarried.cls ≠ "java/lang/invoke/VarHandle" ∧ (parseMethodDescriptor yX9_isCarried.desc).map (fun d => d.parameters.length) = some 1 := by decide +kernel
def f_X9_vote (mo_there : Int32) (mo_now : Nat → Int32) (xt : Int32) : Int32 × (Nat → Int32) :=
  (if (mo_there = 0) then ((6 : Int32), mo_now) else (if ((f_X9_isCarried mo_there (upd mo_now 15 ((mo_now 15) &&& (((1 : Int32) <<< (xt &&& 31)) ^^^ (-1 : Int32)))) xt) = 0) then ((0 : Int32), (upd (upd mo_now 15 ((mo_now 15) &&& (((1 : Int32) <<< (xt &&& 31)) ^^^ (-1 : Int32)))) 15 (((upd mo_now 15 ((mo_now 15) &&& (((1 : Int32) <<< (xt &&& 31)) ^^^ (-1 : Int32)))) 15) ||| (0 : Int32)))) else ((0 : Int32), (upd (upd mo_now 15 ((mo_now 15) &&& (((1 : Int32) <<< (xt &&& 31)) ^^^ (-1 : Int32)))) 15 (((upd mo_now 15 ((mo_now 15) &&& (((1 : Int32) <<< (xt &&& 31)) ^^^ (-1 : Int32)))) 15) ||| ((1 : Int32) <<< (xt &&& 31)))))))
set_option maxHeartbeats 4000000 in
set_option maxRecDepth 100000 in
theorem c_X9_vote (l : Launch) (D : va_G) (cI cJ cZ : ClassId) (mo : Nat) (mo_book_a : Nat) (mo_now_a : Nat) (mo_there : Int32) (mo_beside_a : Nat) (mo_sights : Int32) (mo_sight_a : Nat) (mo_signs : Int32) (mo_pad_a : Nat) (mo_heldAt : Int32) (mo_heldThing : Int32) (mo_reason : Int32) (mo_acts : Int32) (mo_lefts_a : Nat) (mo_inWays_a : Nat) (mo_more_a : Nat) (mo_wins_a : Nat) (mo_been_a : Nat) (mo_image_a : Nat) (mo_isKept_a : Nat) (mo_now : Nat → Int32) (xt : Int32) : RW l yX9_vote wsX9_vote ({ frames := 4, cells := 0, slots := 0, locals := 87 }) [.ref mo, .int xt] D cI cJ cZ [(mo, .inr (9, [.ref mo_book_a, .ref mo_now_a, .int mo_there, .ref mo_beside_a, .int mo_sights, .ref mo_sight_a, .int mo_signs, .ref mo_pad_a, .int mo_heldAt, .int mo_heldThing, .int mo_reason, .int mo_acts, .ref mo_lefts_a, .ref mo_inWays_a, .ref mo_more_a, .ref mo_wins_a, .ref mo_been_a, .ref mo_image_a, .ref mo_isKept_a])), (mo_now_a, .inl (cI, 19, .inl mo_now))] (some (.int ((f_X9_vote mo_there mo_now xt).1))) [(mo, .inr (9, [.ref mo_book_a, .ref mo_now_a, .int mo_there, .ref mo_beside_a, .int mo_sights, .ref mo_sight_a, .int mo_signs, .ref mo_pad_a, .int mo_heldAt, .int mo_heldThing, .int mo_reason, .int mo_acts, .ref mo_lefts_a, .ref mo_inWays_a, .ref mo_more_a, .ref mo_wins_a, .ref mo_been_a, .ref mo_image_a, .ref mo_isKept_a])), (mo_now_a, .inl (cI, 19, .inl ((f_X9_vote mo_there mo_now xt).2)))] := by
  obtain ⟨R0, R1, hR⟩ := prodE2 (f_X9_vote mo_there mo_now xt)
  rw [hR]
  dsimp only
  refine rw_start (cc := cX9_vote) (maxL := 2) (ret := (some .int)) (by decide) rfl (Nat.le_of_ble_eq_true rfl) ?_
  intro p e s m args below meth c hx hb hr hml hown hts hlocks hP hD hS hK ls hl
  have hown : s.vm.findClass RX9 = some m.cls := hown
  have hl : lv_has ls 2 [(0, .ref mo), (1, .int xt)] := hl
  have hq0 := hts (.fieldLink RX9 52 "StuckVanesModel" "there" "I") (by decide +kernel)
  have hq1 := hts (.fieldLink RX9 13 "StuckVanesModel" "now" "[I") (by decide +kernel)
  rw [f_X9_vote] at hR
  refine lv_aload_n hx hb dX9_vote_0 rfl (lv_at hl 0 rfl) ?_
  refine va_get (D := D) (ci := 9) (v := .int mo_there) (C := RX9) (T := TX9) (N := 19) hx hb hts in_X9_vote_X9 hown hK.1 hP 0 rfl rfl 2 (by decide) hq0 (fun _ h9 => h9) rfl dX9_vote_1 ?_
  refine lv_if_ne (tgt := 10) hx hb dX9_vote_4 (by decide) (fun c4 => ?_) (fun c4 => ?_)
  · rw [if_neg c4] at hR
    refine lv_aload_n hx hb dX9_vote_10 rfl (lv_at hl 0 rfl) ?_
    refine va_get (D := D) (ci := 9) (v := .ref mo_now_a) (C := RX9) (T := TX9) (N := 19) hx hb hts in_X9_vote_X9 hown hK.1 hP 0 rfl rfl 1 (by decide) hq1 (fun _ h9 => h9) rfl dX9_vote_11 ?_
    refine lv_bipush (v := (15 : Int32)) hx hb dX9_vote_14 (by decide +kernel) ?_
    refine lv_dup2_11 hx hb dX9_vote_16 rfl rfl ?_
    refine ia_ld hx hb hK hP 1 rfl (i := 15) (by omega) (by decide) dX9_vote_17 ?_
    refine lv_iconst (v := (1 : Int32)) hx hb dX9_vote_18 (by decide) ?_
    refine lv_iload_n hx hb dX9_vote_19 rfl (lv_at hl 1 rfl) ?_
    refine lv_ishl hx hb dX9_vote_20 ?_
    refine lv_iconst (v := (-1 : Int32)) hx hb dX9_vote_21 (by decide) ?_
    refine lv_ixor hx hb dX9_vote_22 ?_
    refine lv_iand hx hb dX9_vote_23 ?_
    refine ia_st hx hb hK hP hD hS 1 rfl (i := 15) (by omega) (by decide) dX9_vote_24 (fun H locs hP hD hS => ?_)
    have hP : va_P D vwCl [(mo, .inr (9, [.ref mo_book_a, .ref mo_now_a, .int mo_there, .ref mo_beside_a, .int mo_sights, .ref mo_sight_a, .int mo_signs, .ref mo_pad_a, .int mo_heldAt, .int mo_heldThing, .int mo_reason, .int mo_acts, .ref mo_lefts_a, .ref mo_inWays_a, .ref mo_more_a, .ref mo_wins_a, .ref mo_been_a, .ref mo_image_a, .ref mo_isKept_a])), (mo_now_a, .inl (cI, 19, .inl (upd mo_now 15 ((mo_now 15) &&& (((1 : Int32) <<< (xt &&& 31)) ^^^ (-1 : Int32))))))] H := hP
    have hD : va_D _ [(mo, .inr (9, [.ref mo_book_a, .ref mo_now_a, .int mo_there, .ref mo_beside_a, .int mo_sights, .ref mo_sight_a, .int mo_signs, .ref mo_pad_a, .int mo_heldAt, .int mo_heldThing, .int mo_reason, .int mo_acts, .ref mo_lefts_a, .ref mo_inWays_a, .ref mo_more_a, .ref mo_wins_a, .ref mo_been_a, .ref mo_image_a, .ref mo_isKept_a])), (mo_now_a, .inl (cI, 19, .inl (upd mo_now 15 ((mo_now 15) &&& (((1 : Int32) <<< (xt &&& 31)) ^^^ (-1 : Int32))))))] := hD
    refine lv_aload_n hx hb dX9_vote_25 rfl (lv_at hl 0 rfl) ?_
    refine va_get (D := D) (ci := 9) (v := .ref mo_now_a) (C := RX9) (T := TX9) (N := 19) hx hb hts in_X9_vote_X9 hown hK.1 hP 0 rfl rfl 1 (by decide) hq1 (fun _ h9 => h9) rfl dX9_vote_26 ?_
    refine lv_bipush (v := (15 : Int32)) hx hb dX9_vote_29 (by decide +kernel) ?_
    refine lv_dup2_11 hx hb dX9_vote_31 rfl rfl ?_
    refine ia_ld hx hb hK hP 1 rfl (i := 15) (by omega) (by decide) dX9_vote_32 ?_
    refine lv_aload_n hx hb dX9_vote_33 rfl (lv_at hl 0 rfl) ?_
    refine lv_iload_n hx hb dX9_vote_34 rfl (lv_at hl 1 rfl) ?_
    refine ro_V (As := [.int xt]) (rest := [.int ((upd mo_now 15 ((mo_now 15) &&& (((1 : Int32) <<< (xt &&& 31)) ^^^ (-1 : Int32)))) 15), .int (15 : Int32), .ref mo_now_a]) ⟨hx, hb, hml, hown, hts⟩ hK (c_X9_isCarried l D cI cJ cZ mo mo_book_a mo_now_a mo_there mo_beside_a mo_sights mo_sight_a mo_signs mo_pad_a mo_heldAt mo_heldThing mo_reason mo_acts mo_lefts_a mo_inWays_a mo_more_a mo_wins_a mo_been_a mo_image_a mo_isKept_a (upd mo_now 15 ((mo_now 15) &&& (((1 : Int32) <<< (xt &&& 31)) ^^^ (-1 : Int32)))) xt) hP 0 rfl rfl (rw_sub hP [0, 1] rfl) (cwV 1 hts gX9_vote_X9_isCarried rfl rfl rfl ⟨rfl, hd_X9_isCarried⟩ ⟨(Nat.le_of_ble_eq_true rfl), (Nat.le_of_ble_eq_true rfl)⟩) rfl hl.1 rfl (Nat.le_of_ble_eq_true rfl) dX9_vote_35 (Nat.zero_le _) (Nat.zero_le _) ?_
    refine lv_if_eq (tgt := 47) hx hb dX9_vote_38 (by decide) (fun c38 => ?_) (fun c38 => ?_)
    · rw [if_pos c38] at hR
      refine lv_iconst (v := (0 : Int32)) hx hb dX9_vote_47 (by decide) ?_
      refine lv_ior hx hb dX9_vote_48 ?_
      refine ia_st hx hb hK hP hD hS 1 rfl (i := 15) (by omega) (by decide) dX9_vote_49 (fun H locs hP hD hS => ?_)
      have hP : va_P D vwCl [(mo, .inr (9, [.ref mo_book_a, .ref mo_now_a, .int mo_there, .ref mo_beside_a, .int mo_sights, .ref mo_sight_a, .int mo_signs, .ref mo_pad_a, .int mo_heldAt, .int mo_heldThing, .int mo_reason, .int mo_acts, .ref mo_lefts_a, .ref mo_inWays_a, .ref mo_more_a, .ref mo_wins_a, .ref mo_been_a, .ref mo_image_a, .ref mo_isKept_a])), (mo_now_a, .inl (cI, 19, .inl (upd (upd mo_now 15 ((mo_now 15) &&& (((1 : Int32) <<< (xt &&& 31)) ^^^ (-1 : Int32)))) 15 (((upd mo_now 15 ((mo_now 15) &&& (((1 : Int32) <<< (xt &&& 31)) ^^^ (-1 : Int32)))) 15) ||| (0 : Int32)))))] H := hP
      have hD : va_D _ [(mo, .inr (9, [.ref mo_book_a, .ref mo_now_a, .int mo_there, .ref mo_beside_a, .int mo_sights, .ref mo_sight_a, .int mo_signs, .ref mo_pad_a, .int mo_heldAt, .int mo_heldThing, .int mo_reason, .int mo_acts, .ref mo_lefts_a, .ref mo_inWays_a, .ref mo_more_a, .ref mo_wins_a, .ref mo_been_a, .ref mo_image_a, .ref mo_isKept_a])), (mo_now_a, .inl (cI, 19, .inl (upd (upd mo_now 15 ((mo_now 15) &&& (((1 : Int32) <<< (xt &&& 31)) ^^^ (-1 : Int32)))) 15 (((upd mo_now 15 ((mo_now 15) &&& (((1 : Int32) <<< (xt &&& 31)) ^^^ (-1 : Int32)))) 15) ||| (0 : Int32)))))] := hD
      refine lv_iconst (v := (0 : Int32)) hx hb dX9_vote_50 (by decide) ?_
      obtain ⟨rfl, rfl⟩ := prodI2 hR
      exact rw_iret hx hb hr hlocks hP hS dX9_vote_51
    · rw [if_neg c38] at hR
      refine lv_iconst (v := (1 : Int32)) hx hb dX9_vote_41 (by decide) ?_
      refine lv_iload_n hx hb dX9_vote_42 rfl (lv_at hl 1 rfl) ?_
      refine lv_ishl hx hb dX9_vote_43 ?_
      refine lv_goto (tgt := 48) hx hb dX9_vote_44 (by decide) ?_
      refine lv_ior hx hb dX9_vote_48 ?_
      refine ia_st hx hb hK hP hD hS 1 rfl (i := 15) (by omega) (by decide) dX9_vote_49 (fun H locs hP hD hS => ?_)
      have hP : va_P D vwCl [(mo, .inr (9, [.ref mo_book_a, .ref mo_now_a, .int mo_there, .ref mo_beside_a, .int mo_sights, .ref mo_sight_a, .int mo_signs, .ref mo_pad_a, .int mo_heldAt, .int mo_heldThing, .int mo_reason, .int mo_acts, .ref mo_lefts_a, .ref mo_inWays_a, .ref mo_more_a, .ref mo_wins_a, .ref mo_been_a, .ref mo_image_a, .ref mo_isKept_a])), (mo_now_a, .inl (cI, 19, .inl (upd (upd mo_now 15 ((mo_now 15) &&& (((1 : Int32) <<< (xt &&& 31)) ^^^ (-1 : Int32)))) 15 (((upd mo_now 15 ((mo_now 15) &&& (((1 : Int32) <<< (xt &&& 31)) ^^^ (-1 : Int32)))) 15) ||| ((1 : Int32) <<< (xt &&& 31))))))] H := hP
      have hD : va_D _ [(mo, .inr (9, [.ref mo_book_a, .ref mo_now_a, .int mo_there, .ref mo_beside_a, .int mo_sights, .ref mo_sight_a, .int mo_signs, .ref mo_pad_a, .int mo_heldAt, .int mo_heldThing, .int mo_reason, .int mo_acts, .ref mo_lefts_a, .ref mo_inWays_a, .ref mo_more_a, .ref mo_wins_a, .ref mo_been_a, .ref mo_image_a, .ref mo_isKept_a])), (mo_now_a, .inl (cI, 19, .inl (upd (upd mo_now 15 ((mo_now 15) &&& (((1 : Int32) <<< (xt &&& 31)) ^^^ (-1 : Int32)))) 15 (((upd mo_now 15 ((mo_now 15) &&& (((1 : Int32) <<< (xt &&& 31)) ^^^ (-1 : Int32)))) 15) ||| ((1 : Int32) <<< (xt &&& 31))))))] := hD
      refine lv_iconst (v := (0 : Int32)) hx hb dX9_vote_50 (by decide) ?_
      obtain ⟨rfl, rfl⟩ := prodI2 hR
      exact rw_iret hx hb hr hlocks hP hS dX9_vote_51
  · rw [if_pos c4] at hR
    refine lv_bipush (v := (6 : Int32)) hx hb dX9_vote_7 (by decide +kernel) ?_
    obtain ⟨rfl, rfl⟩ := prodI2 hR
    exact rw_iret hx hb hr hlocks hP hS dX9_vote_9


theorem in_X9_turnAll_X9 : ∀ w ∈ u_ws RX9 TX9 19, w ∈ wsX9_turnAll := by decide +kernel
def lp_X9_turnAll_2 (mo_there : Int32) : Nat → Nat → (Nat → Int32) → (Nat → Int32)
  | 0, _, r1_2 => r1_2
  | k2 + 1, i2, r1_2 => (if ((f_X9_isThere mo_there (nI i2)) = 0) then (lp_X9_turnAll_2 mo_there k2 (i2 + 1) (upd r1_2 (7 + i2) (r1_2 (7 + i2)))) else (if ((f_X9_has (r1_2 14) (nI i2)) = 0) then (if (((r1_2 (7 + i2)) + (-1 : Int32)) ≤ (9 : Int32)) then (if (0 ≤ ((r1_2 (7 + i2)) + (-1 : Int32))) then (lp_X9_turnAll_2 mo_there k2 (i2 + 1) (upd r1_2 (7 + i2) ((r1_2 (7 + i2)) + (-1 : Int32)))) else (lp_X9_turnAll_2 mo_there k2 (i2 + 1) (upd r1_2 (7 + i2) (0 : Int32)))) else (lp_X9_turnAll_2 mo_there k2 (i2 + 1) (upd r1_2 (7 + i2) (9 : Int32)))) else (if (((((r1_2 16) - (r1_2 i2)) + (8 : Int32)) - (((r1_2 16) - (r1_2 i2)) + (8 : Int32)) / (8 : Int32) * (8 : Int32)) ≤ 0) then (if (((r1_2 (7 + i2)) + (-1 : Int32)) ≤ (9 : Int32)) then (if (0 ≤ ((r1_2 (7 + i2)) + (-1 : Int32))) then (lp_X9_turnAll_2 mo_there k2 (i2 + 1) (upd r1_2 (7 + i2) ((r1_2 (7 + i2)) + (-1 : Int32)))) else (lp_X9_turnAll_2 mo_there k2 (i2 + 1) (upd r1_2 (7 + i2) (0 : Int32)))) else (lp_X9_turnAll_2 mo_there k2 (i2 + 1) (upd r1_2 (7 + i2) (9 : Int32)))) else (if ((5 : Int32) ≤ ((((r1_2 16) - (r1_2 i2)) + (8 : Int32)) - (((r1_2 16) - (r1_2 i2)) + (8 : Int32)) / (8 : Int32) * (8 : Int32))) then (if ((((upd r1_2 i2 (((r1_2 i2) + (7 : Int32)) - ((r1_2 i2) + (7 : Int32)) / (8 : Int32) * (8 : Int32))) (7 + i2)) + (1 : Int32)) ≤ (9 : Int32)) then (if (0 ≤ (((upd r1_2 i2 (((r1_2 i2) + (7 : Int32)) - ((r1_2 i2) + (7 : Int32)) / (8 : Int32) * (8 : Int32))) (7 + i2)) + (1 : Int32))) then (lp_X9_turnAll_2 mo_there k2 (i2 + 1) (upd (upd r1_2 i2 (((r1_2 i2) + (7 : Int32)) - ((r1_2 i2) + (7 : Int32)) / (8 : Int32) * (8 : Int32))) (7 + i2) (((upd r1_2 i2 (((r1_2 i2) + (7 : Int32)) - ((r1_2 i2) + (7 : Int32)) / (8 : Int32) * (8 : Int32))) (7 + i2)) + (1 : Int32)))) else (lp_X9_turnAll_2 mo_there k2 (i2 + 1) (upd (upd r1_2 i2 (((r1_2 i2) + (7 : Int32)) - ((r1_2 i2) + (7 : Int32)) / (8 : Int32) * (8 : Int32))) (7 + i2) (0 : Int32)))) else (lp_X9_turnAll_2 mo_there k2 (i2 + 1) (upd (upd r1_2 i2 (((r1_2 i2) + (7 : Int32)) - ((r1_2 i2) + (7 : Int32)) / (8 : Int32) * (8 : Int32))) (7 + i2) (9 : Int32)))) else (if ((((upd r1_2 i2 (((r1_2 i2) + (1 : Int32)) - ((r1_2 i2) + (1 : Int32)) / (8 : Int32) * (8 : Int32))) (7 + i2)) + (1 : Int32)) ≤ (9 : Int32)) then (if (0 ≤ (((upd r1_2 i2 (((r1_2 i2) + (1 : Int32)) - ((r1_2 i2) + (1 : Int32)) / (8 : Int32) * (8 : Int32))) (7 + i2)) + (1 : Int32))) then (lp_X9_turnAll_2 mo_there k2 (i2 + 1) (upd (upd r1_2 i2 (((r1_2 i2) + (1 : Int32)) - ((r1_2 i2) + (1 : Int32)) / (8 : Int32) * (8 : Int32))) (7 + i2) (((upd r1_2 i2 (((r1_2 i2) + (1 : Int32)) - ((r1_2 i2) + (1 : Int32)) / (8 : Int32) * (8 : Int32))) (7 + i2)) + (1 : Int32)))) else (lp_X9_turnAll_2 mo_there k2 (i2 + 1) (upd (upd r1_2 i2 (((r1_2 i2) + (1 : Int32)) - ((r1_2 i2) + (1 : Int32)) / (8 : Int32) * (8 : Int32))) (7 + i2) (0 : Int32)))) else (lp_X9_turnAll_2 mo_there k2 (i2 + 1) (upd (upd r1_2 i2 (((r1_2 i2) + (1 : Int32)) - ((r1_2 i2) + (1 : Int32)) / (8 : Int32) * (8 : Int32))) (7 + i2) (9 : Int32))))))))
def f_X9_turnAll (mo_there : Int32) (mo_now : Nat → Int32) : (Nat → Int32) :=
  (lp_X9_turnAll_2 mo_there 7 0 mo_now)
set_option maxHeartbeats 4000000 in
set_option maxRecDepth 100000 in
theorem c_X9_turnAll (l : Launch) (D : va_G) (cI cJ cZ : ClassId) (mo : Nat) (mo_book_a : Nat) (mo_now_a : Nat) (mo_there : Int32) (mo_beside_a : Nat) (mo_sights : Int32) (mo_sight_a : Nat) (mo_signs : Int32) (mo_pad_a : Nat) (mo_heldAt : Int32) (mo_heldThing : Int32) (mo_reason : Int32) (mo_acts : Int32) (mo_lefts_a : Nat) (mo_inWays_a : Nat) (mo_more_a : Nat) (mo_wins_a : Nat) (mo_been_a : Nat) (mo_image_a : Nat) (mo_isKept_a : Nat) (mo_now : Nat → Int32) : RW l yX9_turnAll wsX9_turnAll ({ frames := 2, cells := 0, slots := 0, locals := 43 }) [.ref mo] D cI cJ cZ [(mo, .inr (9, [.ref mo_book_a, .ref mo_now_a, .int mo_there, .ref mo_beside_a, .int mo_sights, .ref mo_sight_a, .int mo_signs, .ref mo_pad_a, .int mo_heldAt, .int mo_heldThing, .int mo_reason, .int mo_acts, .ref mo_lefts_a, .ref mo_inWays_a, .ref mo_more_a, .ref mo_wins_a, .ref mo_been_a, .ref mo_image_a, .ref mo_isKept_a])), (mo_now_a, .inl (cI, 19, .inl mo_now))] none [(mo, .inr (9, [.ref mo_book_a, .ref mo_now_a, .int mo_there, .ref mo_beside_a, .int mo_sights, .ref mo_sight_a, .int mo_signs, .ref mo_pad_a, .int mo_heldAt, .int mo_heldThing, .int mo_reason, .int mo_acts, .ref mo_lefts_a, .ref mo_inWays_a, .ref mo_more_a, .ref mo_wins_a, .ref mo_been_a, .ref mo_image_a, .ref mo_isKept_a])), (mo_now_a, .inl (cI, 19, .inl (f_X9_turnAll mo_there mo_now)))] := by
  obtain ⟨R, hR⟩ : ∃ R, (f_X9_turnAll mo_there mo_now) = R := ⟨_, rfl⟩
  rw [hR]
  refine rw_start (cc := cX9_turnAll) (maxL := 5) (ret := none) (by decide) rfl (Nat.le_of_ble_eq_true rfl) ?_
  intro p e s m args below meth c hx hb hr hml hown hts hlocks hP hD hS hK ls hl
  have hown : s.vm.findClass RX9 = some m.cls := hown
  have hl : lv_has ls 5 [(0, .ref mo)] := hl
  have hq0 := hts (.fieldLink RX9 13 "StuckVanesModel" "now" "[I") (by decide +kernel)
  rw [f_X9_turnAll] at hR
  refine lv_iconst (v := (0 : Int32)) hx hb dX9_turnAll_0 (by decide) ?_
  refine lv_istore_n (lv' := [(1, .int (0 : Int32)), (0, .ref mo)]) hx hb dX9_turnAll_1 rfl hl (by decide) rfl (fun ls hl => ?_)
  obtain ⟨F2_1, hF2_1⟩ : ∃ x, (lp_X9_turnAll_2 mo_there 7 0 mo_now) = x := ⟨_, rfl⟩
  try rw [hF2_1] at hR
  have hexit2 : ∀ (H : Heap) (locs : List Loc), va_P D vwCl [(mo, .inr (9, [.ref mo_book_a, .ref mo_now_a, .int mo_there, .ref mo_beside_a, .int mo_sights, .ref mo_sight_a, .int mo_signs, .ref mo_pad_a, .int mo_heldAt, .int mo_heldThing, .int mo_reason, .int mo_acts, .ref mo_lefts_a, .ref mo_inWays_a, .ref mo_more_a, .ref mo_wins_a, .ref mo_been_a, .ref mo_image_a, .ref mo_isKept_a])), (mo_now_a, .inl (cI, 19, .inl F2_1))] H → va_D (va_In [(mo, .inr (9, [.ref mo_book_a, .ref mo_now_a, .int mo_there, .ref mo_beside_a, .int mo_sights, .ref mo_sight_a, .int mo_signs, .ref mo_pad_a, .int mo_heldAt, .int mo_heldThing, .int mo_reason, .int mo_acts, .ref mo_lefts_a, .ref mo_inWays_a, .ref mo_more_a, .ref mo_wins_a, .ref mo_been_a, .ref mo_image_a, .ref mo_isKept_a])), (mo_now_a, .inl (cI, 19, .inl mo_now))]) [(mo, .inr (9, [.ref mo_book_a, .ref mo_now_a, .int mo_there, .ref mo_beside_a, .int mo_sights, .ref mo_sight_a, .int mo_signs, .ref mo_pad_a, .int mo_heldAt, .int mo_heldThing, .int mo_reason, .int mo_acts, .ref mo_lefts_a, .ref mo_inWays_a, .ref mo_more_a, .ref mo_wins_a, .ref mo_been_a, .ref mo_image_a, .ref mo_isKept_a])), (mo_now_a, .inl (cI, 19, .inl F2_1))] → va_S (va_In [(mo, .inr (9, [.ref mo_book_a, .ref mo_now_a, .int mo_there, .ref mo_beside_a, .int mo_sights, .ref mo_sight_a, .int mo_signs, .ref mo_pad_a, .int mo_heldAt, .int mo_heldThing, .int mo_reason, .int mo_acts, .ref mo_lefts_a, .ref mo_inWays_a, .ref mo_more_a, .ref mo_wins_a, .ref mo_been_a, .ref mo_image_a, .ref mo_isKept_a])), (mo_now_a, .inl (cI, 19, .inl mo_now))]) s.heap H locs → ∀ (ls : Array Slot), lv_has ls 5 [(0, .ref mo)] → W p l e ({ frames := 2, cells := 0, slots := 0, locals := 43 }) s m args below meth c H locs 0 0 (MQ below (rw_Q D none [(mo, .inr (9, [.ref mo_book_a, .ref mo_now_a, .int mo_there, .ref mo_beside_a, .int mo_sights, .ref mo_sight_a, .int mo_signs, .ref mo_pad_a, .int mo_heldAt, .int mo_heldThing, .int mo_reason, .int mo_acts, .ref mo_lefts_a, .ref mo_inWays_a, .ref mo_more_a, .ref mo_wins_a, .ref mo_been_a, .ref mo_image_a, .ref mo_isKept_a])), (mo_now_a, .inl (cI, 19, .inl mo_now))] [(mo, .inr (9, [.ref mo_book_a, .ref mo_now_a, .int mo_there, .ref mo_beside_a, .int mo_sights, .ref mo_sight_a, .int mo_signs, .ref mo_pad_a, .int mo_heldAt, .int mo_heldThing, .int mo_reason, .int mo_acts, .ref mo_lefts_a, .ref mo_inWays_a, .ref mo_more_a, .ref mo_wins_a, .ref mo_been_a, .ref mo_image_a, .ref mo_isKept_a])), (mo_now_a, .inl (cI, 19, .inl R))]) args s 0 0 (va_In [(mo, .inr (9, [.ref mo_book_a, .ref mo_now_a, .int mo_there, .ref mo_beside_a, .int mo_sights, .ref mo_sight_a, .int mo_signs, .ref mo_pad_a, .int mo_heldAt, .int mo_heldThing, .int mo_reason, .int mo_acts, .ref mo_lefts_a, .ref mo_inWays_a, .ref mo_more_a, .ref mo_wins_a, .ref mo_been_a, .ref mo_image_a, .ref mo_isKept_a])), (mo_now_a, .inl (cI, 19, .inl mo_now))])) (F0 m 171 ls []) := by
    intro H locs hP hD hS ls hl
    subst hR
    exact rw_vret hx hb hr hlocks hP hS dX9_turnAll_171
  have hloop2 : ∀ (k2 i2 : Nat) (r1_2 : Nat → Int32), i2 + k2 = 7 → ∀ (H : Heap) (locs : List Loc), va_P D vwCl [(mo, .inr (9, [.ref mo_book_a, .ref mo_now_a, .int mo_there, .ref mo_beside_a, .int mo_sights, .ref mo_sight_a, .int mo_signs, .ref mo_pad_a, .int mo_heldAt, .int mo_heldThing, .int mo_reason, .int mo_acts, .ref mo_lefts_a, .ref mo_inWays_a, .ref mo_more_a, .ref mo_wins_a, .ref mo_been_a, .ref mo_image_a, .ref mo_isKept_a])), (mo_now_a, .inl (cI, 19, .inl r1_2))] H → va_D (va_In [(mo, .inr (9, [.ref mo_book_a, .ref mo_now_a, .int mo_there, .ref mo_beside_a, .int mo_sights, .ref mo_sight_a, .int mo_signs, .ref mo_pad_a, .int mo_heldAt, .int mo_heldThing, .int mo_reason, .int mo_acts, .ref mo_lefts_a, .ref mo_inWays_a, .ref mo_more_a, .ref mo_wins_a, .ref mo_been_a, .ref mo_image_a, .ref mo_isKept_a])), (mo_now_a, .inl (cI, 19, .inl mo_now))]) [(mo, .inr (9, [.ref mo_book_a, .ref mo_now_a, .int mo_there, .ref mo_beside_a, .int mo_sights, .ref mo_sight_a, .int mo_signs, .ref mo_pad_a, .int mo_heldAt, .int mo_heldThing, .int mo_reason, .int mo_acts, .ref mo_lefts_a, .ref mo_inWays_a, .ref mo_more_a, .ref mo_wins_a, .ref mo_been_a, .ref mo_image_a, .ref mo_isKept_a])), (mo_now_a, .inl (cI, 19, .inl r1_2))] → va_S (va_In [(mo, .inr (9, [.ref mo_book_a, .ref mo_now_a, .int mo_there, .ref mo_beside_a, .int mo_sights, .ref mo_sight_a, .int mo_signs, .ref mo_pad_a, .int mo_heldAt, .int mo_heldThing, .int mo_reason, .int mo_acts, .ref mo_lefts_a, .ref mo_inWays_a, .ref mo_more_a, .ref mo_wins_a, .ref mo_been_a, .ref mo_image_a, .ref mo_isKept_a])), (mo_now_a, .inl (cI, 19, .inl mo_now))]) s.heap H locs → ∀ (ls : Array Slot), lv_has ls 5 [(1, .int (nI i2)), (0, .ref mo)] → lp_X9_turnAll_2 mo_there k2 i2 r1_2 = F2_1 → W p l e ({ frames := 2, cells := 0, slots := 0, locals := 43 }) s m args below meth c H locs 0 0 (MQ below (rw_Q D none [(mo, .inr (9, [.ref mo_book_a, .ref mo_now_a, .int mo_there, .ref mo_beside_a, .int mo_sights, .ref mo_sight_a, .int mo_signs, .ref mo_pad_a, .int mo_heldAt, .int mo_heldThing, .int mo_reason, .int mo_acts, .ref mo_lefts_a, .ref mo_inWays_a, .ref mo_more_a, .ref mo_wins_a, .ref mo_been_a, .ref mo_image_a, .ref mo_isKept_a])), (mo_now_a, .inl (cI, 19, .inl mo_now))] [(mo, .inr (9, [.ref mo_book_a, .ref mo_now_a, .int mo_there, .ref mo_beside_a, .int mo_sights, .ref mo_sight_a, .int mo_signs, .ref mo_pad_a, .int mo_heldAt, .int mo_heldThing, .int mo_reason, .int mo_acts, .ref mo_lefts_a, .ref mo_inWays_a, .ref mo_more_a, .ref mo_wins_a, .ref mo_been_a, .ref mo_image_a, .ref mo_isKept_a])), (mo_now_a, .inl (cI, 19, .inl R))]) args s 0 0 (va_In [(mo, .inr (9, [.ref mo_book_a, .ref mo_now_a, .int mo_there, .ref mo_beside_a, .int mo_sights, .ref mo_sight_a, .int mo_signs, .ref mo_pad_a, .int mo_heldAt, .int mo_heldThing, .int mo_reason, .int mo_acts, .ref mo_lefts_a, .ref mo_inWays_a, .ref mo_more_a, .ref mo_wins_a, .ref mo_been_a, .ref mo_image_a, .ref mo_isKept_a])), (mo_now_a, .inl (cI, 19, .inl mo_now))])) (F0 m 2 ls []) := by
    intro k2
    induction k2 with
    | zero =>
      intro i2 r1_2 h2  H locs hP hD hS ls hl hR
      obtain rfl : 7 = i2 := by omega
      rw [lp_X9_turnAll_2] at hR
      refine lv_iload_n hx hb dX9_turnAll_2 rfl (lv_at hl 0 rfl) ?_
      refine lv_bipush (v := (7 : Int32)) hx hb dX9_turnAll_3 (by decide +kernel) ?_
      refine lv_icmp_ge (tgt := 171) hx hb dX9_turnAll_5 (by decide) (fun _ => ?_) (fun h => absurd (cle_t (a := 7) (b := 7) rfl rfl (by omega) (by omega)) h)
      subst hR
      exact hexit2 _ _ hP hD hS _ (lv_sub hl [1] rfl)
    | succ k2 ih2 =>
      intro i2 r1_2 h2  H locs hP hD hS ls hl hR
      rw [lp_X9_turnAll_2] at hR
      refine lv_iload_n hx hb dX9_turnAll_2 rfl (lv_at hl 0 rfl) ?_
      refine lv_bipush (v := (7 : Int32)) hx hb dX9_turnAll_3 (by decide +kernel) ?_
      refine lv_icmp_ge (tgt := 171) hx hb dX9_turnAll_5 (by decide) (fun h => absurd h (cle_f (a := 7) (b := i2) rfl rfl (by omega) (by omega))) (fun _ => ?_)
      refine lv_aload_n hx hb dX9_turnAll_8 rfl (lv_at hl 1 rfl) ?_
      refine va_get (D := D) (ci := 9) (v := .ref mo_now_a) (C := RX9) (T := TX9) (N := 19) hx hb hts in_X9_turnAll_X9 hown hK.1 hP 0 rfl rfl 1 (by decide) hq0 (fun _ h9 => h9) rfl dX9_turnAll_9 ?_
      refine lv_bipush (v := (16 : Int32)) hx hb dX9_turnAll_12 (by decide +kernel) ?_
      refine ia_ld hx hb hK hP 1 rfl (i := 16) (by omega) (by decide) dX9_turnAll_14 ?_
      refine lv_aload_n hx hb dX9_turnAll_15 rfl (lv_at hl 1 rfl) ?_
      refine va_get (D := D) (ci := 9) (v := .ref mo_now_a) (C := RX9) (T := TX9) (N := 19) hx hb hts in_X9_turnAll_X9 hown hK.1 hP 0 rfl rfl 1 (by decide) hq0 (fun _ h9 => h9) rfl dX9_turnAll_16 ?_
      refine lv_iload_n hx hb dX9_turnAll_19 rfl (lv_at hl 0 rfl) ?_
      refine ia_ld hx hb hK hP 1 rfl (i := i2) (by omega) (by decide) dX9_turnAll_20 ?_
      refine lv_isub hx hb dX9_turnAll_21 ?_
      refine lv_bipush (v := (8 : Int32)) hx hb dX9_turnAll_22 (by decide +kernel) ?_
      refine lv_iadd hx hb dX9_turnAll_24 ?_
      refine lv_bipush (v := (8 : Int32)) hx hb dX9_turnAll_25 (by decide +kernel) ?_
      refine lv_irem hx hb dX9_turnAll_27 (by decide) ?_
      refine lv_istore_n (lv' := [(2, .int ((((r1_2 16) - (r1_2 i2)) + (8 : Int32)) - (((r1_2 16) - (r1_2 i2)) + (8 : Int32)) / (8 : Int32) * (8 : Int32))), (1, .int (nI i2)), (0, .ref mo)]) hx hb dX9_turnAll_28 rfl hl (by decide) rfl (fun ls hl => ?_)
      refine lv_aload_n hx hb dX9_turnAll_29 rfl (lv_at hl 2 rfl) ?_
      refine lv_iload_n hx hb dX9_turnAll_30 rfl (lv_at hl 1 rfl) ?_
      refine ro_V (As := [.int (nI i2)]) (rest := []) ⟨hx, hb, hml, hown, hts⟩ hK (c_X9_isThere l D cI cJ cZ mo mo_book_a mo_now_a mo_there mo_beside_a mo_sights mo_sight_a mo_signs mo_pad_a mo_heldAt mo_heldThing mo_reason mo_acts mo_lefts_a mo_inWays_a mo_more_a mo_wins_a mo_been_a mo_image_a mo_isKept_a (nI i2)) hP 0 rfl rfl (rw_sub hP [0] rfl) (cwV 1 hts gX9_turnAll_X9_isThere rfl rfl rfl ⟨rfl, hd_X9_isThere⟩ ⟨(Nat.le_of_ble_eq_true rfl), (Nat.le_of_ble_eq_true rfl)⟩) rfl hl.1 rfl (Nat.le_of_ble_eq_true rfl) dX9_turnAll_31 (Nat.zero_le _) (Nat.zero_le _) ?_
      refine lv_if_eq (tgt := 59) hx hb dX9_turnAll_34 (by decide) (fun c34 => ?_) (fun c34 => ?_)
      · rw [if_pos c34] at hR
        refine lv_iconst (v := (0 : Int32)) hx hb dX9_turnAll_59 (by decide) ?_
        refine lv_istore_n (lv' := [(3, .int (0 : Int32)), (2, .int ((((r1_2 16) - (r1_2 i2)) + (8 : Int32)) - (((r1_2 16) - (r1_2 i2)) + (8 : Int32)) / (8 : Int32) * (8 : Int32))), (1, .int (nI i2)), (0, .ref mo)]) hx hb dX9_turnAll_60 rfl hl (by decide) rfl (fun ls hl => ?_)
        refine lv_iload_n hx hb dX9_turnAll_61 rfl (lv_at hl 0 rfl) ?_
        refine lv_if_eq (tgt := 92) hx hb dX9_turnAll_62 (by decide) (fun _ => ?_) (fun h => absurd (by decide) h)
        refine lv_aload_n hx hb dX9_turnAll_92 rfl (lv_at hl 3 rfl) ?_
        refine va_get (D := D) (ci := 9) (v := .ref mo_now_a) (C := RX9) (T := TX9) (N := 19) hx hb hts in_X9_turnAll_X9 hown hK.1 hP 0 rfl rfl 1 (by decide) hq0 (fun _ h9 => h9) rfl dX9_turnAll_93 ?_
        refine lv_bipush (v := (7 : Int32)) hx hb dX9_turnAll_96 (by decide +kernel) ?_
        refine lv_iload_n hx hb dX9_turnAll_98 rfl (lv_at hl 2 rfl) ?_
        refine lv_iadd hx hb dX9_turnAll_99 ?_
        rw [show ((7 : Int32) + (nI i2)) = (nI (7 + i2)) from nI_add 7 i2]
        refine ia_ld hx hb hK hP 1 rfl (i := (7 + i2)) (by omega) (by decide) dX9_turnAll_100 ?_
        refine lv_iload_n hx hb dX9_turnAll_101 rfl (lv_at hl 0 rfl) ?_
        refine lv_if_eq (tgt := 109) hx hb dX9_turnAll_102 (by decide) (fun _ => ?_) (fun h => absurd (by decide) h)
        refine lv_iconst (v := (-1 : Int32)) hx hb dX9_turnAll_109 (by decide) ?_
        refine lv_iadd hx hb dX9_turnAll_110 ?_
        refine lv_istore (lv' := [(4, .int ((r1_2 (7 + i2)) + (-1 : Int32))), (3, .int (0 : Int32)), (2, .int ((((r1_2 16) - (r1_2 i2)) + (8 : Int32)) - (((r1_2 16) - (r1_2 i2)) + (8 : Int32)) / (8 : Int32) * (8 : Int32))), (1, .int (nI i2)), (0, .ref mo)]) hx hb dX9_turnAll_111 hl (by decide) rfl (fun ls hl => ?_)
        refine lv_aload_n hx hb dX9_turnAll_113 rfl (lv_at hl 4 rfl) ?_
        refine va_get (D := D) (ci := 9) (v := .ref mo_now_a) (C := RX9) (T := TX9) (N := 19) hx hb hts in_X9_turnAll_X9 hown hK.1 hP 0 rfl rfl 1 (by decide) hq0 (fun _ h9 => h9) rfl dX9_turnAll_114 ?_
        refine lv_bipush (v := (7 : Int32)) hx hb dX9_turnAll_117 (by decide +kernel) ?_
        refine lv_iload_n hx hb dX9_turnAll_119 rfl (lv_at hl 3 rfl) ?_
        refine lv_iadd hx hb dX9_turnAll_120 ?_
        rw [show ((7 : Int32) + (nI i2)) = (nI (7 + i2)) from nI_add 7 i2]
        refine lv_aload_n hx hb dX9_turnAll_121 rfl (lv_at hl 4 rfl) ?_
        refine lv_iload_n hx hb dX9_turnAll_122 rfl (lv_at hl 3 rfl) ?_
        refine ro_V (As := [.int (nI i2)]) (rest := [.int (nI (7 + i2)), .ref mo_now_a]) ⟨hx, hb, hml, hown, hts⟩ hK (c_X9_isThere l D cI cJ cZ mo mo_book_a mo_now_a mo_there mo_beside_a mo_sights mo_sight_a mo_signs mo_pad_a mo_heldAt mo_heldThing mo_reason mo_acts mo_lefts_a mo_inWays_a mo_more_a mo_wins_a mo_been_a mo_image_a mo_isKept_a (nI i2)) hP 0 rfl rfl (rw_sub hP [0] rfl) (cwV 1 hts gX9_turnAll_X9_isThere rfl rfl rfl ⟨rfl, hd_X9_isThere⟩ ⟨(Nat.le_of_ble_eq_true rfl), (Nat.le_of_ble_eq_true rfl)⟩) rfl hl.1 rfl (Nat.le_of_ble_eq_true rfl) dX9_turnAll_123 (Nat.zero_le _) (Nat.zero_le _) ?_
        refine lv_if_ne (tgt := 141) hx hb dX9_turnAll_126 (by decide) (fun h => absurd c34 h) (fun _ => ?_)
        refine lv_aload_n hx hb dX9_turnAll_129 rfl (lv_at hl 4 rfl) ?_
        refine va_get (D := D) (ci := 9) (v := .ref mo_now_a) (C := RX9) (T := TX9) (N := 19) hx hb hts in_X9_turnAll_X9 hown hK.1 hP 0 rfl rfl 1 (by decide) hq0 (fun _ h9 => h9) rfl dX9_turnAll_130 ?_
        refine lv_bipush (v := (7 : Int32)) hx hb dX9_turnAll_133 (by decide +kernel) ?_
        refine lv_iload_n hx hb dX9_turnAll_135 rfl (lv_at hl 3 rfl) ?_
        refine lv_iadd hx hb dX9_turnAll_136 ?_
        rw [show ((7 : Int32) + (nI i2)) = (nI (7 + i2)) from nI_add 7 i2]
        refine ia_ld hx hb hK hP 1 rfl (i := (7 + i2)) (by omega) (by decide) dX9_turnAll_137 ?_
        refine lv_goto (tgt := 164) hx hb dX9_turnAll_138 (by decide) ?_
        refine ia_st hx hb hK hP hD hS 1 rfl (i := (7 + i2)) (by omega) (by decide) dX9_turnAll_164 (fun H locs hP hD hS => ?_)
        have hP : va_P D vwCl [(mo, .inr (9, [.ref mo_book_a, .ref mo_now_a, .int mo_there, .ref mo_beside_a, .int mo_sights, .ref mo_sight_a, .int mo_signs, .ref mo_pad_a, .int mo_heldAt, .int mo_heldThing, .int mo_reason, .int mo_acts, .ref mo_lefts_a, .ref mo_inWays_a, .ref mo_more_a, .ref mo_wins_a, .ref mo_been_a, .ref mo_image_a, .ref mo_isKept_a])), (mo_now_a, .inl (cI, 19, .inl (upd r1_2 (7 + i2) (r1_2 (7 + i2)))))] H := hP
        have hD : va_D _ [(mo, .inr (9, [.ref mo_book_a, .ref mo_now_a, .int mo_there, .ref mo_beside_a, .int mo_sights, .ref mo_sight_a, .int mo_signs, .ref mo_pad_a, .int mo_heldAt, .int mo_heldThing, .int mo_reason, .int mo_acts, .ref mo_lefts_a, .ref mo_inWays_a, .ref mo_more_a, .ref mo_wins_a, .ref mo_been_a, .ref mo_image_a, .ref mo_isKept_a])), (mo_now_a, .inl (cI, 19, .inl (upd r1_2 (7 + i2) (r1_2 (7 + i2)))))] := hD
        refine lv_iinc (v := (nI (i2 + 1))) (lv' := [(1, .int (nI (i2 + 1))), (4, .int ((r1_2 (7 + i2)) + (-1 : Int32))), (3, .int (0 : Int32)), (2, .int ((((r1_2 16) - (r1_2 i2)) + (8 : Int32)) - (((r1_2 16) - (r1_2 i2)) + (8 : Int32)) / (8 : Int32) * (8 : Int32))), (0, .ref mo)]) hx hb dX9_turnAll_165 hl (k := 3) rfl (by exact nI_add i2 1) (by decide) rfl (fun ls hl => ?_)
        refine lv_goto (tgt := 2) hx hb dX9_turnAll_168 (by decide) ?_
        exact ih2 _ _ (by omega) _ _ hP hD hS _ (lv_sub hl [0, 4] rfl) hR
      · rw [if_neg c34] at hR
        refine lv_aload_n hx hb dX9_turnAll_37 rfl (lv_at hl 2 rfl) ?_
        refine va_get (D := D) (ci := 9) (v := .ref mo_now_a) (C := RX9) (T := TX9) (N := 19) hx hb hts in_X9_turnAll_X9 hown hK.1 hP 0 rfl rfl 1 (by decide) hq0 (fun _ h9 => h9) rfl dX9_turnAll_38 ?_
        refine lv_bipush (v := (14 : Int32)) hx hb dX9_turnAll_41 (by decide +kernel) ?_
        refine ia_ld hx hb hK hP 1 rfl (i := 14) (by omega) (by decide) dX9_turnAll_43 ?_
        refine lv_iload_n hx hb dX9_turnAll_44 rfl (lv_at hl 1 rfl) ?_
        refine ro_S (As := [.int (r1_2 14), .int (nI i2)]) (rest := []) ⟨hx, hb, hml, hown, hts⟩ hK (c_X9_has l D cI cJ cZ (r1_2 14) (nI i2)) va_P_nil (va_cwS 2 hts gX9_turnAll_X9_has rfl rfl rfl hd_X9_has ⟨(Nat.le_of_ble_eq_true rfl), (Nat.le_of_ble_eq_true rfl)⟩) rfl hl.1 rfl (Nat.le_of_ble_eq_true rfl) dX9_turnAll_45 (Nat.zero_le _) (Nat.zero_le _) ?_
        refine lv_if_eq (tgt := 59) hx hb dX9_turnAll_48 (by decide) (fun c48 => ?_) (fun c48 => ?_)
        · rw [if_pos c48] at hR
          refine lv_iconst (v := (0 : Int32)) hx hb dX9_turnAll_59 (by decide) ?_
          refine lv_istore_n (lv' := [(3, .int (0 : Int32)), (2, .int ((((r1_2 16) - (r1_2 i2)) + (8 : Int32)) - (((r1_2 16) - (r1_2 i2)) + (8 : Int32)) / (8 : Int32) * (8 : Int32))), (1, .int (nI i2)), (0, .ref mo)]) hx hb dX9_turnAll_60 rfl hl (by decide) rfl (fun ls hl => ?_)
          refine lv_iload_n hx hb dX9_turnAll_61 rfl (lv_at hl 0 rfl) ?_
          refine lv_if_eq (tgt := 92) hx hb dX9_turnAll_62 (by decide) (fun _ => ?_) (fun h => absurd (by decide) h)
          refine lv_aload_n hx hb dX9_turnAll_92 rfl (lv_at hl 3 rfl) ?_
          refine va_get (D := D) (ci := 9) (v := .ref mo_now_a) (C := RX9) (T := TX9) (N := 19) hx hb hts in_X9_turnAll_X9 hown hK.1 hP 0 rfl rfl 1 (by decide) hq0 (fun _ h9 => h9) rfl dX9_turnAll_93 ?_
          refine lv_bipush (v := (7 : Int32)) hx hb dX9_turnAll_96 (by decide +kernel) ?_
          refine lv_iload_n hx hb dX9_turnAll_98 rfl (lv_at hl 2 rfl) ?_
          refine lv_iadd hx hb dX9_turnAll_99 ?_
          rw [show ((7 : Int32) + (nI i2)) = (nI (7 + i2)) from nI_add 7 i2]
          refine ia_ld hx hb hK hP 1 rfl (i := (7 + i2)) (by omega) (by decide) dX9_turnAll_100 ?_
          refine lv_iload_n hx hb dX9_turnAll_101 rfl (lv_at hl 0 rfl) ?_
          refine lv_if_eq (tgt := 109) hx hb dX9_turnAll_102 (by decide) (fun _ => ?_) (fun h => absurd (by decide) h)
          refine lv_iconst (v := (-1 : Int32)) hx hb dX9_turnAll_109 (by decide) ?_
          refine lv_iadd hx hb dX9_turnAll_110 ?_
          refine lv_istore (lv' := [(4, .int ((r1_2 (7 + i2)) + (-1 : Int32))), (3, .int (0 : Int32)), (2, .int ((((r1_2 16) - (r1_2 i2)) + (8 : Int32)) - (((r1_2 16) - (r1_2 i2)) + (8 : Int32)) / (8 : Int32) * (8 : Int32))), (1, .int (nI i2)), (0, .ref mo)]) hx hb dX9_turnAll_111 hl (by decide) rfl (fun ls hl => ?_)
          refine lv_aload_n hx hb dX9_turnAll_113 rfl (lv_at hl 4 rfl) ?_
          refine va_get (D := D) (ci := 9) (v := .ref mo_now_a) (C := RX9) (T := TX9) (N := 19) hx hb hts in_X9_turnAll_X9 hown hK.1 hP 0 rfl rfl 1 (by decide) hq0 (fun _ h9 => h9) rfl dX9_turnAll_114 ?_
          refine lv_bipush (v := (7 : Int32)) hx hb dX9_turnAll_117 (by decide +kernel) ?_
          refine lv_iload_n hx hb dX9_turnAll_119 rfl (lv_at hl 3 rfl) ?_
          refine lv_iadd hx hb dX9_turnAll_120 ?_
          rw [show ((7 : Int32) + (nI i2)) = (nI (7 + i2)) from nI_add 7 i2]
          refine lv_aload_n hx hb dX9_turnAll_121 rfl (lv_at hl 4 rfl) ?_
          refine lv_iload_n hx hb dX9_turnAll_122 rfl (lv_at hl 3 rfl) ?_
          refine ro_V (As := [.int (nI i2)]) (rest := [.int (nI (7 + i2)), .ref mo_now_a]) ⟨hx, hb, hml, hown, hts⟩ hK (c_X9_isThere l D cI cJ cZ mo mo_book_a mo_now_a mo_there mo_beside_a mo_sights mo_sight_a mo_signs mo_pad_a mo_heldAt mo_heldThing mo_reason mo_acts mo_lefts_a mo_inWays_a mo_more_a mo_wins_a mo_been_a mo_image_a mo_isKept_a (nI i2)) hP 0 rfl rfl (rw_sub hP [0] rfl) (cwV 1 hts gX9_turnAll_X9_isThere rfl rfl rfl ⟨rfl, hd_X9_isThere⟩ ⟨(Nat.le_of_ble_eq_true rfl), (Nat.le_of_ble_eq_true rfl)⟩) rfl hl.1 rfl (Nat.le_of_ble_eq_true rfl) dX9_turnAll_123 (Nat.zero_le _) (Nat.zero_le _) ?_
          refine lv_if_ne (tgt := 141) hx hb dX9_turnAll_126 (by decide) (fun _ => ?_) (fun h => absurd h c34)
          refine lv_iload hx hb dX9_turnAll_141 (lv_at hl 0 rfl) ?_
          refine lv_bipush (v := (9 : Int32)) hx hb dX9_turnAll_143 (by decide +kernel) ?_
          refine lv_icmp_le (tgt := 153) hx hb dX9_turnAll_145 (by decide) (fun c145 => ?_) (fun c145 => ?_)
          · rw [if_pos c145] at hR
            refine lv_iload hx hb dX9_turnAll_153 (lv_at hl 0 rfl) ?_
            refine lv_if_ge (tgt := 162) hx hb dX9_turnAll_155 (by decide) (fun c155 => ?_) (fun c155 => ?_)
            · rw [if_pos c155] at hR
              refine lv_iload hx hb dX9_turnAll_162 (lv_at hl 0 rfl) ?_
              refine ia_st hx hb hK hP hD hS 1 rfl (i := (7 + i2)) (by omega) (by decide) dX9_turnAll_164 (fun H locs hP hD hS => ?_)
              have hP : va_P D vwCl [(mo, .inr (9, [.ref mo_book_a, .ref mo_now_a, .int mo_there, .ref mo_beside_a, .int mo_sights, .ref mo_sight_a, .int mo_signs, .ref mo_pad_a, .int mo_heldAt, .int mo_heldThing, .int mo_reason, .int mo_acts, .ref mo_lefts_a, .ref mo_inWays_a, .ref mo_more_a, .ref mo_wins_a, .ref mo_been_a, .ref mo_image_a, .ref mo_isKept_a])), (mo_now_a, .inl (cI, 19, .inl (upd r1_2 (7 + i2) ((r1_2 (7 + i2)) + (-1 : Int32)))))] H := hP
              have hD : va_D _ [(mo, .inr (9, [.ref mo_book_a, .ref mo_now_a, .int mo_there, .ref mo_beside_a, .int mo_sights, .ref mo_sight_a, .int mo_signs, .ref mo_pad_a, .int mo_heldAt, .int mo_heldThing, .int mo_reason, .int mo_acts, .ref mo_lefts_a, .ref mo_inWays_a, .ref mo_more_a, .ref mo_wins_a, .ref mo_been_a, .ref mo_image_a, .ref mo_isKept_a])), (mo_now_a, .inl (cI, 19, .inl (upd r1_2 (7 + i2) ((r1_2 (7 + i2)) + (-1 : Int32)))))] := hD
              refine lv_iinc (v := (nI (i2 + 1))) (lv' := [(1, .int (nI (i2 + 1))), (4, .int ((r1_2 (7 + i2)) + (-1 : Int32))), (3, .int (0 : Int32)), (2, .int ((((r1_2 16) - (r1_2 i2)) + (8 : Int32)) - (((r1_2 16) - (r1_2 i2)) + (8 : Int32)) / (8 : Int32) * (8 : Int32))), (0, .ref mo)]) hx hb dX9_turnAll_165 hl (k := 3) rfl (by exact nI_add i2 1) (by decide) rfl (fun ls hl => ?_)
              refine lv_goto (tgt := 2) hx hb dX9_turnAll_168 (by decide) ?_
              exact ih2 _ _ (by omega) _ _ hP hD hS _ (lv_sub hl [0, 4] rfl) hR
            · rw [if_neg c155] at hR
              refine lv_iconst (v := (0 : Int32)) hx hb dX9_turnAll_158 (by decide) ?_
              refine lv_goto (tgt := 164) hx hb dX9_turnAll_159 (by decide) ?_
              refine ia_st hx hb hK hP hD hS 1 rfl (i := (7 + i2)) (by omega) (by decide) dX9_turnAll_164 (fun H locs hP hD hS => ?_)
              have hP : va_P D vwCl [(mo, .inr (9, [.ref mo_book_a, .ref mo_now_a, .int mo_there, .ref mo_beside_a, .int mo_sights, .ref mo_sight_a, .int mo_signs, .ref mo_pad_a, .int mo_heldAt, .int mo_heldThing, .int mo_reason, .int mo_acts, .ref mo_lefts_a, .ref mo_inWays_a, .ref mo_more_a, .ref mo_wins_a, .ref mo_been_a, .ref mo_image_a, .ref mo_isKept_a])), (mo_now_a, .inl (cI, 19, .inl (upd r1_2 (7 + i2) (0 : Int32))))] H := hP
              have hD : va_D _ [(mo, .inr (9, [.ref mo_book_a, .ref mo_now_a, .int mo_there, .ref mo_beside_a, .int mo_sights, .ref mo_sight_a, .int mo_signs, .ref mo_pad_a, .int mo_heldAt, .int mo_heldThing, .int mo_reason, .int mo_acts, .ref mo_lefts_a, .ref mo_inWays_a, .ref mo_more_a, .ref mo_wins_a, .ref mo_been_a, .ref mo_image_a, .ref mo_isKept_a])), (mo_now_a, .inl (cI, 19, .inl (upd r1_2 (7 + i2) (0 : Int32))))] := hD
              refine lv_iinc (v := (nI (i2 + 1))) (lv' := [(1, .int (nI (i2 + 1))), (4, .int ((r1_2 (7 + i2)) + (-1 : Int32))), (3, .int (0 : Int32)), (2, .int ((((r1_2 16) - (r1_2 i2)) + (8 : Int32)) - (((r1_2 16) - (r1_2 i2)) + (8 : Int32)) / (8 : Int32) * (8 : Int32))), (0, .ref mo)]) hx hb dX9_turnAll_165 hl (k := 3) rfl (by exact nI_add i2 1) (by decide) rfl (fun ls hl => ?_)
              refine lv_goto (tgt := 2) hx hb dX9_turnAll_168 (by decide) ?_
              exact ih2 _ _ (by omega) _ _ hP hD hS _ (lv_sub hl [0, 4] rfl) hR
          · rw [if_neg c145] at hR
            refine lv_bipush (v := (9 : Int32)) hx hb dX9_turnAll_148 (by decide +kernel) ?_
            refine lv_goto (tgt := 164) hx hb dX9_turnAll_150 (by decide) ?_
            refine ia_st hx hb hK hP hD hS 1 rfl (i := (7 + i2)) (by omega) (by decide) dX9_turnAll_164 (fun H locs hP hD hS => ?_)
            have hP : va_P D vwCl [(mo, .inr (9, [.ref mo_book_a, .ref mo_now_a, .int mo_there, .ref mo_beside_a, .int mo_sights, .ref mo_sight_a, .int mo_signs, .ref mo_pad_a, .int mo_heldAt, .int mo_heldThing, .int mo_reason, .int mo_acts, .ref mo_lefts_a, .ref mo_inWays_a, .ref mo_more_a, .ref mo_wins_a, .ref mo_been_a, .ref mo_image_a, .ref mo_isKept_a])), (mo_now_a, .inl (cI, 19, .inl (upd r1_2 (7 + i2) (9 : Int32))))] H := hP
            have hD : va_D _ [(mo, .inr (9, [.ref mo_book_a, .ref mo_now_a, .int mo_there, .ref mo_beside_a, .int mo_sights, .ref mo_sight_a, .int mo_signs, .ref mo_pad_a, .int mo_heldAt, .int mo_heldThing, .int mo_reason, .int mo_acts, .ref mo_lefts_a, .ref mo_inWays_a, .ref mo_more_a, .ref mo_wins_a, .ref mo_been_a, .ref mo_image_a, .ref mo_isKept_a])), (mo_now_a, .inl (cI, 19, .inl (upd r1_2 (7 + i2) (9 : Int32))))] := hD
            refine lv_iinc (v := (nI (i2 + 1))) (lv' := [(1, .int (nI (i2 + 1))), (4, .int ((r1_2 (7 + i2)) + (-1 : Int32))), (3, .int (0 : Int32)), (2, .int ((((r1_2 16) - (r1_2 i2)) + (8 : Int32)) - (((r1_2 16) - (r1_2 i2)) + (8 : Int32)) / (8 : Int32) * (8 : Int32))), (0, .ref mo)]) hx hb dX9_turnAll_165 hl (k := 3) rfl (by exact nI_add i2 1) (by decide) rfl (fun ls hl => ?_)
            refine lv_goto (tgt := 2) hx hb dX9_turnAll_168 (by decide) ?_
            exact ih2 _ _ (by omega) _ _ hP hD hS _ (lv_sub hl [0, 4] rfl) hR
        · rw [if_neg c48] at hR
          refine lv_iload_n hx hb dX9_turnAll_51 rfl (lv_at hl 0 rfl) ?_
          refine lv_if_le (tgt := 59) hx hb dX9_turnAll_52 (by decide) (fun c52 => ?_) (fun c52 => ?_)
          · rw [if_pos c52] at hR
            refine lv_iconst (v := (0 : Int32)) hx hb dX9_turnAll_59 (by decide) ?_
            refine lv_istore_n (lv' := [(3, .int (0 : Int32)), (2, .int ((((r1_2 16) - (r1_2 i2)) + (8 : Int32)) - (((r1_2 16) - (r1_2 i2)) + (8 : Int32)) / (8 : Int32) * (8 : Int32))), (1, .int (nI i2)), (0, .ref mo)]) hx hb dX9_turnAll_60 rfl hl (by decide) rfl (fun ls hl => ?_)
            refine lv_iload_n hx hb dX9_turnAll_61 rfl (lv_at hl 0 rfl) ?_
            refine lv_if_eq (tgt := 92) hx hb dX9_turnAll_62 (by decide) (fun _ => ?_) (fun h => absurd (by decide) h)
            refine lv_aload_n hx hb dX9_turnAll_92 rfl (lv_at hl 3 rfl) ?_
            refine va_get (D := D) (ci := 9) (v := .ref mo_now_a) (C := RX9) (T := TX9) (N := 19) hx hb hts in_X9_turnAll_X9 hown hK.1 hP 0 rfl rfl 1 (by decide) hq0 (fun _ h9 => h9) rfl dX9_turnAll_93 ?_
            refine lv_bipush (v := (7 : Int32)) hx hb dX9_turnAll_96 (by decide +kernel) ?_
            refine lv_iload_n hx hb dX9_turnAll_98 rfl (lv_at hl 2 rfl) ?_
            refine lv_iadd hx hb dX9_turnAll_99 ?_
            rw [show ((7 : Int32) + (nI i2)) = (nI (7 + i2)) from nI_add 7 i2]
            refine ia_ld hx hb hK hP 1 rfl (i := (7 + i2)) (by omega) (by decide) dX9_turnAll_100 ?_
            refine lv_iload_n hx hb dX9_turnAll_101 rfl (lv_at hl 0 rfl) ?_
            refine lv_if_eq (tgt := 109) hx hb dX9_turnAll_102 (by decide) (fun _ => ?_) (fun h => absurd (by decide) h)
            refine lv_iconst (v := (-1 : Int32)) hx hb dX9_turnAll_109 (by decide) ?_
            refine lv_iadd hx hb dX9_turnAll_110 ?_
            refine lv_istore (lv' := [(4, .int ((r1_2 (7 + i2)) + (-1 : Int32))), (3, .int (0 : Int32)), (2, .int ((((r1_2 16) - (r1_2 i2)) + (8 : Int32)) - (((r1_2 16) - (r1_2 i2)) + (8 : Int32)) / (8 : Int32) * (8 : Int32))), (1, .int (nI i2)), (0, .ref mo)]) hx hb dX9_turnAll_111 hl (by decide) rfl (fun ls hl => ?_)
            refine lv_aload_n hx hb dX9_turnAll_113 rfl (lv_at hl 4 rfl) ?_
            refine va_get (D := D) (ci := 9) (v := .ref mo_now_a) (C := RX9) (T := TX9) (N := 19) hx hb hts in_X9_turnAll_X9 hown hK.1 hP 0 rfl rfl 1 (by decide) hq0 (fun _ h9 => h9) rfl dX9_turnAll_114 ?_
            refine lv_bipush (v := (7 : Int32)) hx hb dX9_turnAll_117 (by decide +kernel) ?_
            refine lv_iload_n hx hb dX9_turnAll_119 rfl (lv_at hl 3 rfl) ?_
            refine lv_iadd hx hb dX9_turnAll_120 ?_
            rw [show ((7 : Int32) + (nI i2)) = (nI (7 + i2)) from nI_add 7 i2]
            refine lv_aload_n hx hb dX9_turnAll_121 rfl (lv_at hl 4 rfl) ?_
            refine lv_iload_n hx hb dX9_turnAll_122 rfl (lv_at hl 3 rfl) ?_
            refine ro_V (As := [.int (nI i2)]) (rest := [.int (nI (7 + i2)), .ref mo_now_a]) ⟨hx, hb, hml, hown, hts⟩ hK (c_X9_isThere l D cI cJ cZ mo mo_book_a mo_now_a mo_there mo_beside_a mo_sights mo_sight_a mo_signs mo_pad_a mo_heldAt mo_heldThing mo_reason mo_acts mo_lefts_a mo_inWays_a mo_more_a mo_wins_a mo_been_a mo_image_a mo_isKept_a (nI i2)) hP 0 rfl rfl (rw_sub hP [0] rfl) (cwV 1 hts gX9_turnAll_X9_isThere rfl rfl rfl ⟨rfl, hd_X9_isThere⟩ ⟨(Nat.le_of_ble_eq_true rfl), (Nat.le_of_ble_eq_true rfl)⟩) rfl hl.1 rfl (Nat.le_of_ble_eq_true rfl) dX9_turnAll_123 (Nat.zero_le _) (Nat.zero_le _) ?_
            refine lv_if_ne (tgt := 141) hx hb dX9_turnAll_126 (by decide) (fun _ => ?_) (fun h => absurd h c34)
            refine lv_iload hx hb dX9_turnAll_141 (lv_at hl 0 rfl) ?_
            refine lv_bipush (v := (9 : Int32)) hx hb dX9_turnAll_143 (by decide +kernel) ?_
            refine lv_icmp_le (tgt := 153) hx hb dX9_turnAll_145 (by decide) (fun c145 => ?_) (fun c145 => ?_)
            · rw [if_pos c145] at hR
              refine lv_iload hx hb dX9_turnAll_153 (lv_at hl 0 rfl) ?_
              refine lv_if_ge (tgt := 162) hx hb dX9_turnAll_155 (by decide) (fun c155 => ?_) (fun c155 => ?_)
              · rw [if_pos c155] at hR
                refine lv_iload hx hb dX9_turnAll_162 (lv_at hl 0 rfl) ?_
                refine ia_st hx hb hK hP hD hS 1 rfl (i := (7 + i2)) (by omega) (by decide) dX9_turnAll_164 (fun H locs hP hD hS => ?_)
                have hP : va_P D vwCl [(mo, .inr (9, [.ref mo_book_a, .ref mo_now_a, .int mo_there, .ref mo_beside_a, .int mo_sights, .ref mo_sight_a, .int mo_signs, .ref mo_pad_a, .int mo_heldAt, .int mo_heldThing, .int mo_reason, .int mo_acts, .ref mo_lefts_a, .ref mo_inWays_a, .ref mo_more_a, .ref mo_wins_a, .ref mo_been_a, .ref mo_image_a, .ref mo_isKept_a])), (mo_now_a, .inl (cI, 19, .inl (upd r1_2 (7 + i2) ((r1_2 (7 + i2)) + (-1 : Int32)))))] H := hP
                have hD : va_D _ [(mo, .inr (9, [.ref mo_book_a, .ref mo_now_a, .int mo_there, .ref mo_beside_a, .int mo_sights, .ref mo_sight_a, .int mo_signs, .ref mo_pad_a, .int mo_heldAt, .int mo_heldThing, .int mo_reason, .int mo_acts, .ref mo_lefts_a, .ref mo_inWays_a, .ref mo_more_a, .ref mo_wins_a, .ref mo_been_a, .ref mo_image_a, .ref mo_isKept_a])), (mo_now_a, .inl (cI, 19, .inl (upd r1_2 (7 + i2) ((r1_2 (7 + i2)) + (-1 : Int32)))))] := hD
                refine lv_iinc (v := (nI (i2 + 1))) (lv' := [(1, .int (nI (i2 + 1))), (4, .int ((r1_2 (7 + i2)) + (-1 : Int32))), (3, .int (0 : Int32)), (2, .int ((((r1_2 16) - (r1_2 i2)) + (8 : Int32)) - (((r1_2 16) - (r1_2 i2)) + (8 : Int32)) / (8 : Int32) * (8 : Int32))), (0, .ref mo)]) hx hb dX9_turnAll_165 hl (k := 3) rfl (by exact nI_add i2 1) (by decide) rfl (fun ls hl => ?_)
                refine lv_goto (tgt := 2) hx hb dX9_turnAll_168 (by decide) ?_
                exact ih2 _ _ (by omega) _ _ hP hD hS _ (lv_sub hl [0, 4] rfl) hR
              · rw [if_neg c155] at hR
                refine lv_iconst (v := (0 : Int32)) hx hb dX9_turnAll_158 (by decide) ?_
                refine lv_goto (tgt := 164) hx hb dX9_turnAll_159 (by decide) ?_
                refine ia_st hx hb hK hP hD hS 1 rfl (i := (7 + i2)) (by omega) (by decide) dX9_turnAll_164 (fun H locs hP hD hS => ?_)
                have hP : va_P D vwCl [(mo, .inr (9, [.ref mo_book_a, .ref mo_now_a, .int mo_there, .ref mo_beside_a, .int mo_sights, .ref mo_sight_a, .int mo_signs, .ref mo_pad_a, .int mo_heldAt, .int mo_heldThing, .int mo_reason, .int mo_acts, .ref mo_lefts_a, .ref mo_inWays_a, .ref mo_more_a, .ref mo_wins_a, .ref mo_been_a, .ref mo_image_a, .ref mo_isKept_a])), (mo_now_a, .inl (cI, 19, .inl (upd r1_2 (7 + i2) (0 : Int32))))] H := hP
                have hD : va_D _ [(mo, .inr (9, [.ref mo_book_a, .ref mo_now_a, .int mo_there, .ref mo_beside_a, .int mo_sights, .ref mo_sight_a, .int mo_signs, .ref mo_pad_a, .int mo_heldAt, .int mo_heldThing, .int mo_reason, .int mo_acts, .ref mo_lefts_a, .ref mo_inWays_a, .ref mo_more_a, .ref mo_wins_a, .ref mo_been_a, .ref mo_image_a, .ref mo_isKept_a])), (mo_now_a, .inl (cI, 19, .inl (upd r1_2 (7 + i2) (0 : Int32))))] := hD
                refine lv_iinc (v := (nI (i2 + 1))) (lv' := [(1, .int (nI (i2 + 1))), (4, .int ((r1_2 (7 + i2)) + (-1 : Int32))), (3, .int (0 : Int32)), (2, .int ((((r1_2 16) - (r1_2 i2)) + (8 : Int32)) - (((r1_2 16) - (r1_2 i2)) + (8 : Int32)) / (8 : Int32) * (8 : Int32))), (0, .ref mo)]) hx hb dX9_turnAll_165 hl (k := 3) rfl (by exact nI_add i2 1) (by decide) rfl (fun ls hl => ?_)
                refine lv_goto (tgt := 2) hx hb dX9_turnAll_168 (by decide) ?_
                exact ih2 _ _ (by omega) _ _ hP hD hS _ (lv_sub hl [0, 4] rfl) hR
            · rw [if_neg c145] at hR
              refine lv_bipush (v := (9 : Int32)) hx hb dX9_turnAll_148 (by decide +kernel) ?_
              refine lv_goto (tgt := 164) hx hb dX9_turnAll_150 (by decide) ?_
              refine ia_st hx hb hK hP hD hS 1 rfl (i := (7 + i2)) (by omega) (by decide) dX9_turnAll_164 (fun H locs hP hD hS => ?_)
              have hP : va_P D vwCl [(mo, .inr (9, [.ref mo_book_a, .ref mo_now_a, .int mo_there, .ref mo_beside_a, .int mo_sights, .ref mo_sight_a, .int mo_signs, .ref mo_pad_a, .int mo_heldAt, .int mo_heldThing, .int mo_reason, .int mo_acts, .ref mo_lefts_a, .ref mo_inWays_a, .ref mo_more_a, .ref mo_wins_a, .ref mo_been_a, .ref mo_image_a, .ref mo_isKept_a])), (mo_now_a, .inl (cI, 19, .inl (upd r1_2 (7 + i2) (9 : Int32))))] H := hP
              have hD : va_D _ [(mo, .inr (9, [.ref mo_book_a, .ref mo_now_a, .int mo_there, .ref mo_beside_a, .int mo_sights, .ref mo_sight_a, .int mo_signs, .ref mo_pad_a, .int mo_heldAt, .int mo_heldThing, .int mo_reason, .int mo_acts, .ref mo_lefts_a, .ref mo_inWays_a, .ref mo_more_a, .ref mo_wins_a, .ref mo_been_a, .ref mo_image_a, .ref mo_isKept_a])), (mo_now_a, .inl (cI, 19, .inl (upd r1_2 (7 + i2) (9 : Int32))))] := hD
              refine lv_iinc (v := (nI (i2 + 1))) (lv' := [(1, .int (nI (i2 + 1))), (4, .int ((r1_2 (7 + i2)) + (-1 : Int32))), (3, .int (0 : Int32)), (2, .int ((((r1_2 16) - (r1_2 i2)) + (8 : Int32)) - (((r1_2 16) - (r1_2 i2)) + (8 : Int32)) / (8 : Int32) * (8 : Int32))), (0, .ref mo)]) hx hb dX9_turnAll_165 hl (k := 3) rfl (by exact nI_add i2 1) (by decide) rfl (fun ls hl => ?_)
              refine lv_goto (tgt := 2) hx hb dX9_turnAll_168 (by decide) ?_
              exact ih2 _ _ (by omega) _ _ hP hD hS _ (lv_sub hl [0, 4] rfl) hR
          · rw [if_neg c52] at hR
            refine lv_iconst (v := (1 : Int32)) hx hb dX9_turnAll_55 (by decide) ?_
            refine lv_goto (tgt := 60) hx hb dX9_turnAll_56 (by decide) ?_
            refine lv_istore_n (lv' := [(3, .int (1 : Int32)), (2, .int ((((r1_2 16) - (r1_2 i2)) + (8 : Int32)) - (((r1_2 16) - (r1_2 i2)) + (8 : Int32)) / (8 : Int32) * (8 : Int32))), (1, .int (nI i2)), (0, .ref mo)]) hx hb dX9_turnAll_60 rfl hl (by decide) rfl (fun ls hl => ?_)
            refine lv_iload_n hx hb dX9_turnAll_61 rfl (lv_at hl 0 rfl) ?_
            refine lv_if_eq (tgt := 92) hx hb dX9_turnAll_62 (by decide) (fun h => absurd h (by decide)) (fun _ => ?_)
            refine lv_aload_n hx hb dX9_turnAll_65 rfl (lv_at hl 3 rfl) ?_
            refine va_get (D := D) (ci := 9) (v := .ref mo_now_a) (C := RX9) (T := TX9) (N := 19) hx hb hts in_X9_turnAll_X9 hown hK.1 hP 0 rfl rfl 1 (by decide) hq0 (fun _ h9 => h9) rfl dX9_turnAll_66 ?_
            refine lv_iload_n hx hb dX9_turnAll_69 rfl (lv_at hl 2 rfl) ?_
            refine lv_aload_n hx hb dX9_turnAll_70 rfl (lv_at hl 3 rfl) ?_
            refine va_get (D := D) (ci := 9) (v := .ref mo_now_a) (C := RX9) (T := TX9) (N := 19) hx hb hts in_X9_turnAll_X9 hown hK.1 hP 0 rfl rfl 1 (by decide) hq0 (fun _ h9 => h9) rfl dX9_turnAll_71 ?_
            refine lv_iload_n hx hb dX9_turnAll_74 rfl (lv_at hl 2 rfl) ?_
            refine ia_ld hx hb hK hP 1 rfl (i := i2) (by omega) (by decide) dX9_turnAll_75 ?_
            refine lv_iload_n hx hb dX9_turnAll_76 rfl (lv_at hl 1 rfl) ?_
            refine lv_iconst (v := (5 : Int32)) hx hb dX9_turnAll_77 (by decide) ?_
            refine lv_icmp_ge (tgt := 85) hx hb dX9_turnAll_78 (by decide) (fun c78 => ?_) (fun c78 => ?_)
            · rw [if_pos c78] at hR
              refine lv_bipush (v := (7 : Int32)) hx hb dX9_turnAll_85 (by decide +kernel) ?_
              refine lv_iadd hx hb dX9_turnAll_87 ?_
              refine lv_bipush (v := (8 : Int32)) hx hb dX9_turnAll_88 (by decide +kernel) ?_
              refine lv_irem hx hb dX9_turnAll_90 (by decide) ?_
              refine ia_st hx hb hK hP hD hS 1 rfl (i := i2) (by omega) (by decide) dX9_turnAll_91 (fun H locs hP hD hS => ?_)
              have hP : va_P D vwCl [(mo, .inr (9, [.ref mo_book_a, .ref mo_now_a, .int mo_there, .ref mo_beside_a, .int mo_sights, .ref mo_sight_a, .int mo_signs, .ref mo_pad_a, .int mo_heldAt, .int mo_heldThing, .int mo_reason, .int mo_acts, .ref mo_lefts_a, .ref mo_inWays_a, .ref mo_more_a, .ref mo_wins_a, .ref mo_been_a, .ref mo_image_a, .ref mo_isKept_a])), (mo_now_a, .inl (cI, 19, .inl (upd r1_2 i2 (((r1_2 i2) + (7 : Int32)) - ((r1_2 i2) + (7 : Int32)) / (8 : Int32) * (8 : Int32)))))] H := hP
              have hD : va_D _ [(mo, .inr (9, [.ref mo_book_a, .ref mo_now_a, .int mo_there, .ref mo_beside_a, .int mo_sights, .ref mo_sight_a, .int mo_signs, .ref mo_pad_a, .int mo_heldAt, .int mo_heldThing, .int mo_reason, .int mo_acts, .ref mo_lefts_a, .ref mo_inWays_a, .ref mo_more_a, .ref mo_wins_a, .ref mo_been_a, .ref mo_image_a, .ref mo_isKept_a])), (mo_now_a, .inl (cI, 19, .inl (upd r1_2 i2 (((r1_2 i2) + (7 : Int32)) - ((r1_2 i2) + (7 : Int32)) / (8 : Int32) * (8 : Int32)))))] := hD
              refine lv_aload_n hx hb dX9_turnAll_92 rfl (lv_at hl 3 rfl) ?_
              refine va_get (D := D) (ci := 9) (v := .ref mo_now_a) (C := RX9) (T := TX9) (N := 19) hx hb hts in_X9_turnAll_X9 hown hK.1 hP 0 rfl rfl 1 (by decide) hq0 (fun _ h9 => h9) rfl dX9_turnAll_93 ?_
              refine lv_bipush (v := (7 : Int32)) hx hb dX9_turnAll_96 (by decide +kernel) ?_
              refine lv_iload_n hx hb dX9_turnAll_98 rfl (lv_at hl 2 rfl) ?_
              refine lv_iadd hx hb dX9_turnAll_99 ?_
              rw [show ((7 : Int32) + (nI i2)) = (nI (7 + i2)) from nI_add 7 i2]
              refine ia_ld hx hb hK hP 1 rfl (i := (7 + i2)) (by omega) (by decide) dX9_turnAll_100 ?_
              refine lv_iload_n hx hb dX9_turnAll_101 rfl (lv_at hl 0 rfl) ?_
              refine lv_if_eq (tgt := 109) hx hb dX9_turnAll_102 (by decide) (fun h => absurd h (by decide)) (fun _ => ?_)
              refine lv_iconst (v := (1 : Int32)) hx hb dX9_turnAll_105 (by decide) ?_
              refine lv_goto (tgt := 110) hx hb dX9_turnAll_106 (by decide) ?_
              refine lv_iadd hx hb dX9_turnAll_110 ?_
              refine lv_istore (lv' := [(4, .int (((upd r1_2 i2 (((r1_2 i2) + (7 : Int32)) - ((r1_2 i2) + (7 : Int32)) / (8 : Int32) * (8 : Int32))) (7 + i2)) + (1 : Int32))), (3, .int (1 : Int32)), (2, .int ((((r1_2 16) - (r1_2 i2)) + (8 : Int32)) - (((r1_2 16) - (r1_2 i2)) + (8 : Int32)) / (8 : Int32) * (8 : Int32))), (1, .int (nI i2)), (0, .ref mo)]) hx hb dX9_turnAll_111 hl (by decide) rfl (fun ls hl => ?_)
              refine lv_aload_n hx hb dX9_turnAll_113 rfl (lv_at hl 4 rfl) ?_
              refine va_get (D := D) (ci := 9) (v := .ref mo_now_a) (C := RX9) (T := TX9) (N := 19) hx hb hts in_X9_turnAll_X9 hown hK.1 hP 0 rfl rfl 1 (by decide) hq0 (fun _ h9 => h9) rfl dX9_turnAll_114 ?_
              refine lv_bipush (v := (7 : Int32)) hx hb dX9_turnAll_117 (by decide +kernel) ?_
              refine lv_iload_n hx hb dX9_turnAll_119 rfl (lv_at hl 3 rfl) ?_
              refine lv_iadd hx hb dX9_turnAll_120 ?_
              rw [show ((7 : Int32) + (nI i2)) = (nI (7 + i2)) from nI_add 7 i2]
              refine lv_aload_n hx hb dX9_turnAll_121 rfl (lv_at hl 4 rfl) ?_
              refine lv_iload_n hx hb dX9_turnAll_122 rfl (lv_at hl 3 rfl) ?_
              refine ro_V (As := [.int (nI i2)]) (rest := [.int (nI (7 + i2)), .ref mo_now_a]) ⟨hx, hb, hml, hown, hts⟩ hK (c_X9_isThere l D cI cJ cZ mo mo_book_a mo_now_a mo_there mo_beside_a mo_sights mo_sight_a mo_signs mo_pad_a mo_heldAt mo_heldThing mo_reason mo_acts mo_lefts_a mo_inWays_a mo_more_a mo_wins_a mo_been_a mo_image_a mo_isKept_a (nI i2)) hP 0 rfl rfl (rw_sub hP [0] rfl) (cwV 1 hts gX9_turnAll_X9_isThere rfl rfl rfl ⟨rfl, hd_X9_isThere⟩ ⟨(Nat.le_of_ble_eq_true rfl), (Nat.le_of_ble_eq_true rfl)⟩) rfl hl.1 rfl (Nat.le_of_ble_eq_true rfl) dX9_turnAll_123 (Nat.zero_le _) (Nat.zero_le _) ?_
              refine lv_if_ne (tgt := 141) hx hb dX9_turnAll_126 (by decide) (fun _ => ?_) (fun h => absurd h c34)
              refine lv_iload hx hb dX9_turnAll_141 (lv_at hl 0 rfl) ?_
              refine lv_bipush (v := (9 : Int32)) hx hb dX9_turnAll_143 (by decide +kernel) ?_
              refine lv_icmp_le (tgt := 153) hx hb dX9_turnAll_145 (by decide) (fun c145 => ?_) (fun c145 => ?_)
              · rw [if_pos c145] at hR
                refine lv_iload hx hb dX9_turnAll_153 (lv_at hl 0 rfl) ?_
                refine lv_if_ge (tgt := 162) hx hb dX9_turnAll_155 (by decide) (fun c155 => ?_) (fun c155 => ?_)
                · rw [if_pos c155] at hR
                  refine lv_iload hx hb dX9_turnAll_162 (lv_at hl 0 rfl) ?_
                  refine ia_st hx hb hK hP hD hS 1 rfl (i := (7 + i2)) (by omega) (by decide) dX9_turnAll_164 (fun H locs hP hD hS => ?_)
                  have hP : va_P D vwCl [(mo, .inr (9, [.ref mo_book_a, .ref mo_now_a, .int mo_there, .ref mo_beside_a, .int mo_sights, .ref mo_sight_a, .int mo_signs, .ref mo_pad_a, .int mo_heldAt, .int mo_heldThing, .int mo_reason, .int mo_acts, .ref mo_lefts_a, .ref mo_inWays_a, .ref mo_more_a, .ref mo_wins_a, .ref mo_been_a, .ref mo_image_a, .ref mo_isKept_a])), (mo_now_a, .inl (cI, 19, .inl (upd (upd r1_2 i2 (((r1_2 i2) + (7 : Int32)) - ((r1_2 i2) + (7 : Int32)) / (8 : Int32) * (8 : Int32))) (7 + i2) (((upd r1_2 i2 (((r1_2 i2) + (7 : Int32)) - ((r1_2 i2) + (7 : Int32)) / (8 : Int32) * (8 : Int32))) (7 + i2)) + (1 : Int32)))))] H := hP
                  have hD : va_D _ [(mo, .inr (9, [.ref mo_book_a, .ref mo_now_a, .int mo_there, .ref mo_beside_a, .int mo_sights, .ref mo_sight_a, .int mo_signs, .ref mo_pad_a, .int mo_heldAt, .int mo_heldThing, .int mo_reason, .int mo_acts, .ref mo_lefts_a, .ref mo_inWays_a, .ref mo_more_a, .ref mo_wins_a, .ref mo_been_a, .ref mo_image_a, .ref mo_isKept_a])), (mo_now_a, .inl (cI, 19, .inl (upd (upd r1_2 i2 (((r1_2 i2) + (7 : Int32)) - ((r1_2 i2) + (7 : Int32)) / (8 : Int32) * (8 : Int32))) (7 + i2) (((upd r1_2 i2 (((r1_2 i2) + (7 : Int32)) - ((r1_2 i2) + (7 : Int32)) / (8 : Int32) * (8 : Int32))) (7 + i2)) + (1 : Int32)))))] := hD
                  refine lv_iinc (v := (nI (i2 + 1))) (lv' := [(1, .int (nI (i2 + 1))), (4, .int (((upd r1_2 i2 (((r1_2 i2) + (7 : Int32)) - ((r1_2 i2) + (7 : Int32)) / (8 : Int32) * (8 : Int32))) (7 + i2)) + (1 : Int32))), (3, .int (1 : Int32)), (2, .int ((((r1_2 16) - (r1_2 i2)) + (8 : Int32)) - (((r1_2 16) - (r1_2 i2)) + (8 : Int32)) / (8 : Int32) * (8 : Int32))), (0, .ref mo)]) hx hb dX9_turnAll_165 hl (k := 3) rfl (by exact nI_add i2 1) (by decide) rfl (fun ls hl => ?_)
                  refine lv_goto (tgt := 2) hx hb dX9_turnAll_168 (by decide) ?_
                  exact ih2 _ _ (by omega) _ _ hP hD hS _ (lv_sub hl [0, 4] rfl) hR
                · rw [if_neg c155] at hR
                  refine lv_iconst (v := (0 : Int32)) hx hb dX9_turnAll_158 (by decide) ?_
                  refine lv_goto (tgt := 164) hx hb dX9_turnAll_159 (by decide) ?_
                  refine ia_st hx hb hK hP hD hS 1 rfl (i := (7 + i2)) (by omega) (by decide) dX9_turnAll_164 (fun H locs hP hD hS => ?_)
                  have hP : va_P D vwCl [(mo, .inr (9, [.ref mo_book_a, .ref mo_now_a, .int mo_there, .ref mo_beside_a, .int mo_sights, .ref mo_sight_a, .int mo_signs, .ref mo_pad_a, .int mo_heldAt, .int mo_heldThing, .int mo_reason, .int mo_acts, .ref mo_lefts_a, .ref mo_inWays_a, .ref mo_more_a, .ref mo_wins_a, .ref mo_been_a, .ref mo_image_a, .ref mo_isKept_a])), (mo_now_a, .inl (cI, 19, .inl (upd (upd r1_2 i2 (((r1_2 i2) + (7 : Int32)) - ((r1_2 i2) + (7 : Int32)) / (8 : Int32) * (8 : Int32))) (7 + i2) (0 : Int32))))] H := hP
                  have hD : va_D _ [(mo, .inr (9, [.ref mo_book_a, .ref mo_now_a, .int mo_there, .ref mo_beside_a, .int mo_sights, .ref mo_sight_a, .int mo_signs, .ref mo_pad_a, .int mo_heldAt, .int mo_heldThing, .int mo_reason, .int mo_acts, .ref mo_lefts_a, .ref mo_inWays_a, .ref mo_more_a, .ref mo_wins_a, .ref mo_been_a, .ref mo_image_a, .ref mo_isKept_a])), (mo_now_a, .inl (cI, 19, .inl (upd (upd r1_2 i2 (((r1_2 i2) + (7 : Int32)) - ((r1_2 i2) + (7 : Int32)) / (8 : Int32) * (8 : Int32))) (7 + i2) (0 : Int32))))] := hD
                  refine lv_iinc (v := (nI (i2 + 1))) (lv' := [(1, .int (nI (i2 + 1))), (4, .int (((upd r1_2 i2 (((r1_2 i2) + (7 : Int32)) - ((r1_2 i2) + (7 : Int32)) / (8 : Int32) * (8 : Int32))) (7 + i2)) + (1 : Int32))), (3, .int (1 : Int32)), (2, .int ((((r1_2 16) - (r1_2 i2)) + (8 : Int32)) - (((r1_2 16) - (r1_2 i2)) + (8 : Int32)) / (8 : Int32) * (8 : Int32))), (0, .ref mo)]) hx hb dX9_turnAll_165 hl (k := 3) rfl (by exact nI_add i2 1) (by decide) rfl (fun ls hl => ?_)
                  refine lv_goto (tgt := 2) hx hb dX9_turnAll_168 (by decide) ?_
                  exact ih2 _ _ (by omega) _ _ hP hD hS _ (lv_sub hl [0, 4] rfl) hR
              · rw [if_neg c145] at hR
                refine lv_bipush (v := (9 : Int32)) hx hb dX9_turnAll_148 (by decide +kernel) ?_
                refine lv_goto (tgt := 164) hx hb dX9_turnAll_150 (by decide) ?_
                refine ia_st hx hb hK hP hD hS 1 rfl (i := (7 + i2)) (by omega) (by decide) dX9_turnAll_164 (fun H locs hP hD hS => ?_)
                have hP : va_P D vwCl [(mo, .inr (9, [.ref mo_book_a, .ref mo_now_a, .int mo_there, .ref mo_beside_a, .int mo_sights, .ref mo_sight_a, .int mo_signs, .ref mo_pad_a, .int mo_heldAt, .int mo_heldThing, .int mo_reason, .int mo_acts, .ref mo_lefts_a, .ref mo_inWays_a, .ref mo_more_a, .ref mo_wins_a, .ref mo_been_a, .ref mo_image_a, .ref mo_isKept_a])), (mo_now_a, .inl (cI, 19, .inl (upd (upd r1_2 i2 (((r1_2 i2) + (7 : Int32)) - ((r1_2 i2) + (7 : Int32)) / (8 : Int32) * (8 : Int32))) (7 + i2) (9 : Int32))))] H := hP
                have hD : va_D _ [(mo, .inr (9, [.ref mo_book_a, .ref mo_now_a, .int mo_there, .ref mo_beside_a, .int mo_sights, .ref mo_sight_a, .int mo_signs, .ref mo_pad_a, .int mo_heldAt, .int mo_heldThing, .int mo_reason, .int mo_acts, .ref mo_lefts_a, .ref mo_inWays_a, .ref mo_more_a, .ref mo_wins_a, .ref mo_been_a, .ref mo_image_a, .ref mo_isKept_a])), (mo_now_a, .inl (cI, 19, .inl (upd (upd r1_2 i2 (((r1_2 i2) + (7 : Int32)) - ((r1_2 i2) + (7 : Int32)) / (8 : Int32) * (8 : Int32))) (7 + i2) (9 : Int32))))] := hD
                refine lv_iinc (v := (nI (i2 + 1))) (lv' := [(1, .int (nI (i2 + 1))), (4, .int (((upd r1_2 i2 (((r1_2 i2) + (7 : Int32)) - ((r1_2 i2) + (7 : Int32)) / (8 : Int32) * (8 : Int32))) (7 + i2)) + (1 : Int32))), (3, .int (1 : Int32)), (2, .int ((((r1_2 16) - (r1_2 i2)) + (8 : Int32)) - (((r1_2 16) - (r1_2 i2)) + (8 : Int32)) / (8 : Int32) * (8 : Int32))), (0, .ref mo)]) hx hb dX9_turnAll_165 hl (k := 3) rfl (by exact nI_add i2 1) (by decide) rfl (fun ls hl => ?_)
                refine lv_goto (tgt := 2) hx hb dX9_turnAll_168 (by decide) ?_
                exact ih2 _ _ (by omega) _ _ hP hD hS _ (lv_sub hl [0, 4] rfl) hR
            · rw [if_neg c78] at hR
              refine lv_iconst (v := (1 : Int32)) hx hb dX9_turnAll_81 (by decide) ?_
              refine lv_goto (tgt := 87) hx hb dX9_turnAll_82 (by decide) ?_
              refine lv_iadd hx hb dX9_turnAll_87 ?_
              refine lv_bipush (v := (8 : Int32)) hx hb dX9_turnAll_88 (by decide +kernel) ?_
              refine lv_irem hx hb dX9_turnAll_90 (by decide) ?_
              refine ia_st hx hb hK hP hD hS 1 rfl (i := i2) (by omega) (by decide) dX9_turnAll_91 (fun H locs hP hD hS => ?_)
              have hP : va_P D vwCl [(mo, .inr (9, [.ref mo_book_a, .ref mo_now_a, .int mo_there, .ref mo_beside_a, .int mo_sights, .ref mo_sight_a, .int mo_signs, .ref mo_pad_a, .int mo_heldAt, .int mo_heldThing, .int mo_reason, .int mo_acts, .ref mo_lefts_a, .ref mo_inWays_a, .ref mo_more_a, .ref mo_wins_a, .ref mo_been_a, .ref mo_image_a, .ref mo_isKept_a])), (mo_now_a, .inl (cI, 19, .inl (upd r1_2 i2 (((r1_2 i2) + (1 : Int32)) - ((r1_2 i2) + (1 : Int32)) / (8 : Int32) * (8 : Int32)))))] H := hP
              have hD : va_D _ [(mo, .inr (9, [.ref mo_book_a, .ref mo_now_a, .int mo_there, .ref mo_beside_a, .int mo_sights, .ref mo_sight_a, .int mo_signs, .ref mo_pad_a, .int mo_heldAt, .int mo_heldThing, .int mo_reason, .int mo_acts, .ref mo_lefts_a, .ref mo_inWays_a, .ref mo_more_a, .ref mo_wins_a, .ref mo_been_a, .ref mo_image_a, .ref mo_isKept_a])), (mo_now_a, .inl (cI, 19, .inl (upd r1_2 i2 (((r1_2 i2) + (1 : Int32)) - ((r1_2 i2) + (1 : Int32)) / (8 : Int32) * (8 : Int32)))))] := hD
              refine lv_aload_n hx hb dX9_turnAll_92 rfl (lv_at hl 3 rfl) ?_
              refine va_get (D := D) (ci := 9) (v := .ref mo_now_a) (C := RX9) (T := TX9) (N := 19) hx hb hts in_X9_turnAll_X9 hown hK.1 hP 0 rfl rfl 1 (by decide) hq0 (fun _ h9 => h9) rfl dX9_turnAll_93 ?_
              refine lv_bipush (v := (7 : Int32)) hx hb dX9_turnAll_96 (by decide +kernel) ?_
              refine lv_iload_n hx hb dX9_turnAll_98 rfl (lv_at hl 2 rfl) ?_
              refine lv_iadd hx hb dX9_turnAll_99 ?_
              rw [show ((7 : Int32) + (nI i2)) = (nI (7 + i2)) from nI_add 7 i2]
              refine ia_ld hx hb hK hP 1 rfl (i := (7 + i2)) (by omega) (by decide) dX9_turnAll_100 ?_
              refine lv_iload_n hx hb dX9_turnAll_101 rfl (lv_at hl 0 rfl) ?_
              refine lv_if_eq (tgt := 109) hx hb dX9_turnAll_102 (by decide) (fun h => absurd h (by decide)) (fun _ => ?_)
              refine lv_iconst (v := (1 : Int32)) hx hb dX9_turnAll_105 (by decide) ?_
              refine lv_goto (tgt := 110) hx hb dX9_turnAll_106 (by decide) ?_
              refine lv_iadd hx hb dX9_turnAll_110 ?_
              refine lv_istore (lv' := [(4, .int (((upd r1_2 i2 (((r1_2 i2) + (1 : Int32)) - ((r1_2 i2) + (1 : Int32)) / (8 : Int32) * (8 : Int32))) (7 + i2)) + (1 : Int32))), (3, .int (1 : Int32)), (2, .int ((((r1_2 16) - (r1_2 i2)) + (8 : Int32)) - (((r1_2 16) - (r1_2 i2)) + (8 : Int32)) / (8 : Int32) * (8 : Int32))), (1, .int (nI i2)), (0, .ref mo)]) hx hb dX9_turnAll_111 hl (by decide) rfl (fun ls hl => ?_)
              refine lv_aload_n hx hb dX9_turnAll_113 rfl (lv_at hl 4 rfl) ?_
              refine va_get (D := D) (ci := 9) (v := .ref mo_now_a) (C := RX9) (T := TX9) (N := 19) hx hb hts in_X9_turnAll_X9 hown hK.1 hP 0 rfl rfl 1 (by decide) hq0 (fun _ h9 => h9) rfl dX9_turnAll_114 ?_
              refine lv_bipush (v := (7 : Int32)) hx hb dX9_turnAll_117 (by decide +kernel) ?_
              refine lv_iload_n hx hb dX9_turnAll_119 rfl (lv_at hl 3 rfl) ?_
              refine lv_iadd hx hb dX9_turnAll_120 ?_
              rw [show ((7 : Int32) + (nI i2)) = (nI (7 + i2)) from nI_add 7 i2]
              refine lv_aload_n hx hb dX9_turnAll_121 rfl (lv_at hl 4 rfl) ?_
              refine lv_iload_n hx hb dX9_turnAll_122 rfl (lv_at hl 3 rfl) ?_
              refine ro_V (As := [.int (nI i2)]) (rest := [.int (nI (7 + i2)), .ref mo_now_a]) ⟨hx, hb, hml, hown, hts⟩ hK (c_X9_isThere l D cI cJ cZ mo mo_book_a mo_now_a mo_there mo_beside_a mo_sights mo_sight_a mo_signs mo_pad_a mo_heldAt mo_heldThing mo_reason mo_acts mo_lefts_a mo_inWays_a mo_more_a mo_wins_a mo_been_a mo_image_a mo_isKept_a (nI i2)) hP 0 rfl rfl (rw_sub hP [0] rfl) (cwV 1 hts gX9_turnAll_X9_isThere rfl rfl rfl ⟨rfl, hd_X9_isThere⟩ ⟨(Nat.le_of_ble_eq_true rfl), (Nat.le_of_ble_eq_true rfl)⟩) rfl hl.1 rfl (Nat.le_of_ble_eq_true rfl) dX9_turnAll_123 (Nat.zero_le _) (Nat.zero_le _) ?_
              refine lv_if_ne (tgt := 141) hx hb dX9_turnAll_126 (by decide) (fun _ => ?_) (fun h => absurd h c34)
              refine lv_iload hx hb dX9_turnAll_141 (lv_at hl 0 rfl) ?_
              refine lv_bipush (v := (9 : Int32)) hx hb dX9_turnAll_143 (by decide +kernel) ?_
              refine lv_icmp_le (tgt := 153) hx hb dX9_turnAll_145 (by decide) (fun c145 => ?_) (fun c145 => ?_)
              · rw [if_pos c145] at hR
                refine lv_iload hx hb dX9_turnAll_153 (lv_at hl 0 rfl) ?_
                refine lv_if_ge (tgt := 162) hx hb dX9_turnAll_155 (by decide) (fun c155 => ?_) (fun c155 => ?_)
                · rw [if_pos c155] at hR
                  refine lv_iload hx hb dX9_turnAll_162 (lv_at hl 0 rfl) ?_
                  refine ia_st hx hb hK hP hD hS 1 rfl (i := (7 + i2)) (by omega) (by decide) dX9_turnAll_164 (fun H locs hP hD hS => ?_)
                  have hP : va_P D vwCl [(mo, .inr (9, [.ref mo_book_a, .ref mo_now_a, .int mo_there, .ref mo_beside_a, .int mo_sights, .ref mo_sight_a, .int mo_signs, .ref mo_pad_a, .int mo_heldAt, .int mo_heldThing, .int mo_reason, .int mo_acts, .ref mo_lefts_a, .ref mo_inWays_a, .ref mo_more_a, .ref mo_wins_a, .ref mo_been_a, .ref mo_image_a, .ref mo_isKept_a])), (mo_now_a, .inl (cI, 19, .inl (upd (upd r1_2 i2 (((r1_2 i2) + (1 : Int32)) - ((r1_2 i2) + (1 : Int32)) / (8 : Int32) * (8 : Int32))) (7 + i2) (((upd r1_2 i2 (((r1_2 i2) + (1 : Int32)) - ((r1_2 i2) + (1 : Int32)) / (8 : Int32) * (8 : Int32))) (7 + i2)) + (1 : Int32)))))] H := hP
                  have hD : va_D _ [(mo, .inr (9, [.ref mo_book_a, .ref mo_now_a, .int mo_there, .ref mo_beside_a, .int mo_sights, .ref mo_sight_a, .int mo_signs, .ref mo_pad_a, .int mo_heldAt, .int mo_heldThing, .int mo_reason, .int mo_acts, .ref mo_lefts_a, .ref mo_inWays_a, .ref mo_more_a, .ref mo_wins_a, .ref mo_been_a, .ref mo_image_a, .ref mo_isKept_a])), (mo_now_a, .inl (cI, 19, .inl (upd (upd r1_2 i2 (((r1_2 i2) + (1 : Int32)) - ((r1_2 i2) + (1 : Int32)) / (8 : Int32) * (8 : Int32))) (7 + i2) (((upd r1_2 i2 (((r1_2 i2) + (1 : Int32)) - ((r1_2 i2) + (1 : Int32)) / (8 : Int32) * (8 : Int32))) (7 + i2)) + (1 : Int32)))))] := hD
                  refine lv_iinc (v := (nI (i2 + 1))) (lv' := [(1, .int (nI (i2 + 1))), (4, .int (((upd r1_2 i2 (((r1_2 i2) + (1 : Int32)) - ((r1_2 i2) + (1 : Int32)) / (8 : Int32) * (8 : Int32))) (7 + i2)) + (1 : Int32))), (3, .int (1 : Int32)), (2, .int ((((r1_2 16) - (r1_2 i2)) + (8 : Int32)) - (((r1_2 16) - (r1_2 i2)) + (8 : Int32)) / (8 : Int32) * (8 : Int32))), (0, .ref mo)]) hx hb dX9_turnAll_165 hl (k := 3) rfl (by exact nI_add i2 1) (by decide) rfl (fun ls hl => ?_)
                  refine lv_goto (tgt := 2) hx hb dX9_turnAll_168 (by decide) ?_
                  exact ih2 _ _ (by omega) _ _ hP hD hS _ (lv_sub hl [0, 4] rfl) hR
                · rw [if_neg c155] at hR
                  refine lv_iconst (v := (0 : Int32)) hx hb dX9_turnAll_158 (by decide) ?_
                  refine lv_goto (tgt := 164) hx hb dX9_turnAll_159 (by decide) ?_
                  refine ia_st hx hb hK hP hD hS 1 rfl (i := (7 + i2)) (by omega) (by decide) dX9_turnAll_164 (fun H locs hP hD hS => ?_)
                  have hP : va_P D vwCl [(mo, .inr (9, [.ref mo_book_a, .ref mo_now_a, .int mo_there, .ref mo_beside_a, .int mo_sights, .ref mo_sight_a, .int mo_signs, .ref mo_pad_a, .int mo_heldAt, .int mo_heldThing, .int mo_reason, .int mo_acts, .ref mo_lefts_a, .ref mo_inWays_a, .ref mo_more_a, .ref mo_wins_a, .ref mo_been_a, .ref mo_image_a, .ref mo_isKept_a])), (mo_now_a, .inl (cI, 19, .inl (upd (upd r1_2 i2 (((r1_2 i2) + (1 : Int32)) - ((r1_2 i2) + (1 : Int32)) / (8 : Int32) * (8 : Int32))) (7 + i2) (0 : Int32))))] H := hP
                  have hD : va_D _ [(mo, .inr (9, [.ref mo_book_a, .ref mo_now_a, .int mo_there, .ref mo_beside_a, .int mo_sights, .ref mo_sight_a, .int mo_signs, .ref mo_pad_a, .int mo_heldAt, .int mo_heldThing, .int mo_reason, .int mo_acts, .ref mo_lefts_a, .ref mo_inWays_a, .ref mo_more_a, .ref mo_wins_a, .ref mo_been_a, .ref mo_image_a, .ref mo_isKept_a])), (mo_now_a, .inl (cI, 19, .inl (upd (upd r1_2 i2 (((r1_2 i2) + (1 : Int32)) - ((r1_2 i2) + (1 : Int32)) / (8 : Int32) * (8 : Int32))) (7 + i2) (0 : Int32))))] := hD
                  refine lv_iinc (v := (nI (i2 + 1))) (lv' := [(1, .int (nI (i2 + 1))), (4, .int (((upd r1_2 i2 (((r1_2 i2) + (1 : Int32)) - ((r1_2 i2) + (1 : Int32)) / (8 : Int32) * (8 : Int32))) (7 + i2)) + (1 : Int32))), (3, .int (1 : Int32)), (2, .int ((((r1_2 16) - (r1_2 i2)) + (8 : Int32)) - (((r1_2 16) - (r1_2 i2)) + (8 : Int32)) / (8 : Int32) * (8 : Int32))), (0, .ref mo)]) hx hb dX9_turnAll_165 hl (k := 3) rfl (by exact nI_add i2 1) (by decide) rfl (fun ls hl => ?_)
                  refine lv_goto (tgt := 2) hx hb dX9_turnAll_168 (by decide) ?_
                  exact ih2 _ _ (by omega) _ _ hP hD hS _ (lv_sub hl [0, 4] rfl) hR
              · rw [if_neg c145] at hR
                refine lv_bipush (v := (9 : Int32)) hx hb dX9_turnAll_148 (by decide +kernel) ?_
                refine lv_goto (tgt := 164) hx hb dX9_turnAll_150 (by decide) ?_
                refine ia_st hx hb hK hP hD hS 1 rfl (i := (7 + i2)) (by omega) (by decide) dX9_turnAll_164 (fun H locs hP hD hS => ?_)
                have hP : va_P D vwCl [(mo, .inr (9, [.ref mo_book_a, .ref mo_now_a, .int mo_there, .ref mo_beside_a, .int mo_sights, .ref mo_sight_a, .int mo_signs, .ref mo_pad_a, .int mo_heldAt, .int mo_heldThing, .int mo_reason, .int mo_acts, .ref mo_lefts_a, .ref mo_inWays_a, .ref mo_more_a, .ref mo_wins_a, .ref mo_been_a, .ref mo_image_a, .ref mo_isKept_a])), (mo_now_a, .inl (cI, 19, .inl (upd (upd r1_2 i2 (((r1_2 i2) + (1 : Int32)) - ((r1_2 i2) + (1 : Int32)) / (8 : Int32) * (8 : Int32))) (7 + i2) (9 : Int32))))] H := hP
                have hD : va_D _ [(mo, .inr (9, [.ref mo_book_a, .ref mo_now_a, .int mo_there, .ref mo_beside_a, .int mo_sights, .ref mo_sight_a, .int mo_signs, .ref mo_pad_a, .int mo_heldAt, .int mo_heldThing, .int mo_reason, .int mo_acts, .ref mo_lefts_a, .ref mo_inWays_a, .ref mo_more_a, .ref mo_wins_a, .ref mo_been_a, .ref mo_image_a, .ref mo_isKept_a])), (mo_now_a, .inl (cI, 19, .inl (upd (upd r1_2 i2 (((r1_2 i2) + (1 : Int32)) - ((r1_2 i2) + (1 : Int32)) / (8 : Int32) * (8 : Int32))) (7 + i2) (9 : Int32))))] := hD
                refine lv_iinc (v := (nI (i2 + 1))) (lv' := [(1, .int (nI (i2 + 1))), (4, .int (((upd r1_2 i2 (((r1_2 i2) + (1 : Int32)) - ((r1_2 i2) + (1 : Int32)) / (8 : Int32) * (8 : Int32))) (7 + i2)) + (1 : Int32))), (3, .int (1 : Int32)), (2, .int ((((r1_2 16) - (r1_2 i2)) + (8 : Int32)) - (((r1_2 16) - (r1_2 i2)) + (8 : Int32)) / (8 : Int32) * (8 : Int32))), (0, .ref mo)]) hx hb dX9_turnAll_165 hl (k := 3) rfl (by exact nI_add i2 1) (by decide) rfl (fun ls hl => ?_)
                refine lv_goto (tgt := 2) hx hb dX9_turnAll_168 (by decide) ?_
                exact ih2 _ _ (by omega) _ _ hP hD hS _ (lv_sub hl [0, 4] rfl) hR
  exact hloop2 7 0 _ (by omega) _ _ hP hD hS _ hl hF2_1


theorem in_X9_endHour_X9 : ∀ w ∈ u_ws RX9 TX9 19, w ∈ wsX9_endHour := by decide +kernel
theorem hd_X9_turnAll : yX9_turnAll.cls ≠ "java/lang/invoke/MethodHandle" ∧ yX9_turnAll.cls ≠ "java/lang/invoke/VarHandle" ∧ (parseMethodDescriptor yX9_turnAll.desc).map (fun d => d.parameters.length) = some 0 := by decide +kernel
def f_X9_endHour (mo_there : Int32) (mo_now : Nat → Int32) : Int32 × (Nat → Int32) :=
  (if ((mo_now 18) = (99 : Int32)) then ((7 : Int32), mo_now) else ((0 : Int32), (f_X9_turnAll mo_there (upd mo_now 18 ((mo_now 18) + (1 : Int32))))))
set_option maxHeartbeats 4000000 in
set_option maxRecDepth 100000 in
theorem c_X9_endHour (l : Launch) (D : va_G) (cI cJ cZ : ClassId) (mo : Nat) (mo_book_a : Nat) (mo_now_a : Nat) (mo_there : Int32) (mo_beside_a : Nat) (mo_sights : Int32) (mo_sight_a : Nat) (mo_signs : Int32) (mo_pad_a : Nat) (mo_heldAt : Int32) (mo_heldThing : Int32) (mo_reason : Int32) (mo_acts : Int32) (mo_lefts_a : Nat) (mo_inWays_a : Nat) (mo_more_a : Nat) (mo_wins_a : Nat) (mo_been_a : Nat) (mo_image_a : Nat) (mo_isKept_a : Nat) (mo_now : Nat → Int32) : RW l yX9_endHour wsX9_endHour ({ frames := 3, cells := 0, slots := 0, locals := 67 }) [.ref mo] D cI cJ cZ [(mo, .inr (9, [.ref mo_book_a, .ref mo_now_a, .int mo_there, .ref mo_beside_a, .int mo_sights, .ref mo_sight_a, .int mo_signs, .ref mo_pad_a, .int mo_heldAt, .int mo_heldThing, .int mo_reason, .int mo_acts, .ref mo_lefts_a, .ref mo_inWays_a, .ref mo_more_a, .ref mo_wins_a, .ref mo_been_a, .ref mo_image_a, .ref mo_isKept_a])), (mo_now_a, .inl (cI, 19, .inl mo_now))] (some (.int ((f_X9_endHour mo_there mo_now).1))) [(mo, .inr (9, [.ref mo_book_a, .ref mo_now_a, .int mo_there, .ref mo_beside_a, .int mo_sights, .ref mo_sight_a, .int mo_signs, .ref mo_pad_a, .int mo_heldAt, .int mo_heldThing, .int mo_reason, .int mo_acts, .ref mo_lefts_a, .ref mo_inWays_a, .ref mo_more_a, .ref mo_wins_a, .ref mo_been_a, .ref mo_image_a, .ref mo_isKept_a])), (mo_now_a, .inl (cI, 19, .inl ((f_X9_endHour mo_there mo_now).2)))] := by
  obtain ⟨R0, R1, hR⟩ := prodE2 (f_X9_endHour mo_there mo_now)
  rw [hR]
  dsimp only
  refine rw_start (cc := cX9_endHour) (maxL := 1) (ret := (some .int)) (by decide) rfl (Nat.le_of_ble_eq_true rfl) ?_
  intro p e s m args below meth c hx hb hr hml hown hts hlocks hP hD hS hK ls hl
  have hown : s.vm.findClass RX9 = some m.cls := hown
  have hl : lv_has ls 1 [(0, .ref mo)] := hl
  have hq0 := hts (.fieldLink RX9 13 "StuckVanesModel" "now" "[I") (by decide +kernel)
  rw [f_X9_endHour] at hR
  refine lv_aload_n hx hb dX9_endHour_0 rfl (lv_at hl 0 rfl) ?_
  refine va_get (D := D) (ci := 9) (v := .ref mo_now_a) (C := RX9) (T := TX9) (N := 19) hx hb hts in_X9_endHour_X9 hown hK.1 hP 0 rfl rfl 1 (by decide) hq0 (fun _ h9 => h9) rfl dX9_endHour_1 ?_
  refine lv_bipush (v := (18 : Int32)) hx hb dX9_endHour_4 (by decide +kernel) ?_
  refine ia_ld hx hb hK hP 1 rfl (i := 18) (by omega) (by decide) dX9_endHour_6 ?_
  refine lv_bipush (v := (99 : Int32)) hx hb dX9_endHour_7 (by decide +kernel) ?_
  refine lv_icmp_ne (tgt := 15) hx hb dX9_endHour_9 (by decide) (fun c9 => ?_) (fun c9 => ?_)
  · rw [if_neg c9] at hR
    refine lv_aload_n hx hb dX9_endHour_15 rfl (lv_at hl 0 rfl) ?_
    refine va_get (D := D) (ci := 9) (v := .ref mo_now_a) (C := RX9) (T := TX9) (N := 19) hx hb hts in_X9_endHour_X9 hown hK.1 hP 0 rfl rfl 1 (by decide) hq0 (fun _ h9 => h9) rfl dX9_endHour_16 ?_
    refine lv_bipush (v := (18 : Int32)) hx hb dX9_endHour_19 (by decide +kernel) ?_
    refine lv_dup2_11 hx hb dX9_endHour_21 rfl rfl ?_
    refine ia_ld hx hb hK hP 1 rfl (i := 18) (by omega) (by decide) dX9_endHour_22 ?_
    refine lv_iconst (v := (1 : Int32)) hx hb dX9_endHour_23 (by decide) ?_
    refine lv_iadd hx hb dX9_endHour_24 ?_
    refine ia_st hx hb hK hP hD hS 1 rfl (i := 18) (by omega) (by decide) dX9_endHour_25 (fun H locs hP hD hS => ?_)
    have hP : va_P D vwCl [(mo, .inr (9, [.ref mo_book_a, .ref mo_now_a, .int mo_there, .ref mo_beside_a, .int mo_sights, .ref mo_sight_a, .int mo_signs, .ref mo_pad_a, .int mo_heldAt, .int mo_heldThing, .int mo_reason, .int mo_acts, .ref mo_lefts_a, .ref mo_inWays_a, .ref mo_more_a, .ref mo_wins_a, .ref mo_been_a, .ref mo_image_a, .ref mo_isKept_a])), (mo_now_a, .inl (cI, 19, .inl (upd mo_now 18 ((mo_now 18) + (1 : Int32)))))] H := hP
    have hD : va_D _ [(mo, .inr (9, [.ref mo_book_a, .ref mo_now_a, .int mo_there, .ref mo_beside_a, .int mo_sights, .ref mo_sight_a, .int mo_signs, .ref mo_pad_a, .int mo_heldAt, .int mo_heldThing, .int mo_reason, .int mo_acts, .ref mo_lefts_a, .ref mo_inWays_a, .ref mo_more_a, .ref mo_wins_a, .ref mo_been_a, .ref mo_image_a, .ref mo_isKept_a])), (mo_now_a, .inl (cI, 19, .inl (upd mo_now 18 ((mo_now 18) + (1 : Int32)))))] := hD
    refine lv_aload_n hx hb dX9_endHour_26 rfl (lv_at hl 0 rfl) ?_
    refine rw_V (As := []) (rest := []) (wr := []) (ws2 := [(mo, .inr (9, [.ref mo_book_a, .ref mo_now_a, .int mo_there, .ref mo_beside_a, .int mo_sights, .ref mo_sight_a, .int mo_signs, .ref mo_pad_a, .int mo_heldAt, .int mo_heldThing, .int mo_reason, .int mo_acts, .ref mo_lefts_a, .ref mo_inWays_a, .ref mo_more_a, .ref mo_wins_a, .ref mo_been_a, .ref mo_image_a, .ref mo_isKept_a])), (mo_now_a, .inl (cI, 19, .inl (f_X9_turnAll mo_there (upd mo_now 18 ((mo_now 18) + (1 : Int32))))))]) (st1 := []) ⟨hx, hb, hml, hown, hts⟩ hK hP hD hS (c_X9_turnAll l D cI cJ cZ mo mo_book_a mo_now_a mo_there mo_beside_a mo_sights mo_sight_a mo_signs mo_pad_a mo_heldAt mo_heldThing mo_reason mo_acts mo_lefts_a mo_inWays_a mo_more_a mo_wins_a mo_been_a mo_image_a mo_isKept_a (upd mo_now 18 ((mo_now 18) + (1 : Int32)))) 0 rfl rfl [0, 1] [] [0, 1] rfl rfl (by decide) (by decide) rfl rfl rfl (cwV 0 hts gX9_endHour_X9_turnAll rfl rfl rfl ⟨rfl, hd_X9_turnAll⟩ ⟨(Nat.le_of_ble_eq_true rfl), (Nat.le_of_ble_eq_true rfl)⟩) rfl hl.1 rfl (Nat.le_of_ble_eq_true rfl) dX9_endHour_27 (Nat.zero_le _) (Nat.zero_le _) (fun H locs hP hD hS => ?_)
    refine lv_iconst (v := (0 : Int32)) hx hb dX9_endHour_30 (by decide) ?_
    obtain ⟨rfl, rfl⟩ := prodI2 hR
    exact rw_iret hx hb hr hlocks hP hS dX9_endHour_31
  · rw [if_pos c9] at hR
    refine lv_bipush (v := (7 : Int32)) hx hb dX9_endHour_12 (by decide +kernel) ?_
    obtain ⟨rfl, rfl⟩ := prodI2 hR
    exact rw_iret hx hb hr hlocks hP hS dX9_endHour_14


theorem vfd {v : Int32} (h : v = -6 ∨ vp_in v 7) (h0 : ¬ v < 0) : vp_in v 7 := by
  rcases h with rfl | h
  · exact absurd (by decide) h0
  · exact h

theorem in_X9_mostTired_X9 : ∀ w ∈ u_ws RX9 TX9 19, w ∈ wsX9_mostTired := by decide +kernel
def lp_X9_mostTired_6 (mo_there : Int32) (mo_now : Nat → Int32) : Nat → Int32 → Int32
  | 0, v1_6 => v1_6
  | k6 + 1, v1_6 => (if ((f_X9_isThere mo_there (nI k6)) = 0) then (lp_X9_mostTired_6 mo_there mo_now k6 v1_6) else (if (v1_6 < 0) then (lp_X9_mostTired_6 mo_there mo_now k6 (nI k6)) else (if ((mo_now (7 + k6)) < (mo_now ((7 : Int32) + v1_6).toNatClampNeg)) then (lp_X9_mostTired_6 mo_there mo_now k6 v1_6) else (lp_X9_mostTired_6 mo_there mo_now k6 (nI k6)))))
def f_X9_mostTired (mo_there : Int32) (mo_now : Nat → Int32) : Int32 :=
  (lp_X9_mostTired_6 mo_there mo_now 7 (-6 : Int32))
set_option maxHeartbeats 4000000 in
set_option maxRecDepth 100000 in
theorem c_X9_mostTired (l : Launch) (D : va_G) (cI cJ cZ : ClassId) (mo : Nat) (mo_book_a : Nat) (mo_now_a : Nat) (mo_there : Int32) (mo_beside_a : Nat) (mo_sights : Int32) (mo_sight_a : Nat) (mo_signs : Int32) (mo_pad_a : Nat) (mo_heldAt : Int32) (mo_heldThing : Int32) (mo_reason : Int32) (mo_acts : Int32) (mo_lefts_a : Nat) (mo_inWays_a : Nat) (mo_more_a : Nat) (mo_wins_a : Nat) (mo_been_a : Nat) (mo_image_a : Nat) (mo_isKept_a : Nat) (mo_now : Nat → Int32) : RO l yX9_mostTired wsX9_mostTired ({ frames := 2, cells := 0, slots := 0, locals := 43 }) [.ref mo] D cI cJ cZ [(mo, .inr (9, [.ref mo_book_a, .ref mo_now_a, .int mo_there, .ref mo_beside_a, .int mo_sights, .ref mo_sight_a, .int mo_signs, .ref mo_pad_a, .int mo_heldAt, .int mo_heldThing, .int mo_reason, .int mo_acts, .ref mo_lefts_a, .ref mo_inWays_a, .ref mo_more_a, .ref mo_wins_a, .ref mo_been_a, .ref mo_image_a, .ref mo_isKept_a])), (mo_now_a, .inl (cI, 19, .inl mo_now))] (.int (f_X9_mostTired mo_there mo_now)) := by
  obtain ⟨R, hR⟩ : ∃ R, (f_X9_mostTired mo_there mo_now) = R := ⟨_, rfl⟩
  rw [hR]
  refine ro_start (cc := cX9_mostTired) (maxL := 3) (ret := (some .int)) (by decide) rfl (Nat.le_of_ble_eq_true rfl) ?_
  intro p e s m args below meth c hx hb hr hml hown hts hlocks hP hK ls hl
  have hown : s.vm.findClass RX9 = some m.cls := hown
  have hl : lv_has ls 3 [(0, .ref mo)] := hl
  have hq0 := hts (.fieldLink RX9 13 "StuckVanesModel" "now" "[I") (by decide +kernel)
  rw [f_X9_mostTired] at hR
  refine lv_bipush (v := (-6 : Int32)) hx hb dX9_mostTired_0 (by decide +kernel) ?_
  refine lv_istore_n (lv' := [(1, .int (-6 : Int32)), (0, .ref mo)]) hx hb dX9_mostTired_2 rfl hl (by decide) rfl (fun ls hl => ?_)
  refine lv_bipush (v := (6 : Int32)) hx hb dX9_mostTired_3 (by decide +kernel) ?_
  refine lv_istore_n (lv' := [(2, .int (6 : Int32)), (1, .int (-6 : Int32)), (0, .ref mo)]) hx hb dX9_mostTired_5 rfl hl (by decide) rfl (fun ls hl => ?_)
  obtain ⟨F6_1, hF6_1⟩ : ∃ x, (lp_X9_mostTired_6 mo_there mo_now 7 (-6 : Int32)) = x := ⟨_, rfl⟩
  try rw [hF6_1] at hR
  have hexit6 : ∀ (ls : Array Slot), lv_has ls 3 [(1, .int F6_1), (0, .ref mo)] → W p l e ({ frames := 2, cells := 0, slots := 0, locals := 43 }) s m args below meth c s.heap [] 0 0 (MQ below (ro_Q (.int R)) args s 0 0 (fun _ => False)) (F0 m 55 ls []) := by
    intro ls hl
    refine lv_iload_n hx hb dX9_mostTired_55 rfl (lv_at hl 0 rfl) ?_
    subst hR
    exact ro_iret hx hb hr hlocks dX9_mostTired_56
  have hloop6 : ∀ (k6 : Nat) (v1_6 : Int32), k6 ≤ 7 → v1_6 = -6 ∨ vp_in v1_6 7 → ∀ (ls : Array Slot), lv_has ls 3 [(2, .int (nI k6 - 1)), (1, .int v1_6), (0, .ref mo)] → lp_X9_mostTired_6 mo_there mo_now k6 v1_6 = F6_1 → W p l e ({ frames := 2, cells := 0, slots := 0, locals := 43 }) s m args below meth c s.heap [] 0 0 (MQ below (ro_Q (.int R)) args s 0 0 (fun _ => False)) (F0 m 6 ls []) := by
    intro k6
    induction k6 with
    | zero =>
      intro v1_6 h6 hfd ls hl hR
      have hl : lv_has ls 3 [(2, .int (-1 : Int32)), (1, .int v1_6), (0, .ref mo)] := hl
      rw [lp_X9_mostTired_6] at hR
      refine lv_iload_n hx hb dX9_mostTired_6 rfl (lv_at hl 0 rfl) ?_
      refine lv_if_lt (tgt := 55) hx hb dX9_mostTired_7 (by decide) (fun _ => ?_) (fun h => absurd (by decide) h)
      subst hR
      exact hexit6 _ (lv_sub hl [1, 2] rfl)
    | succ k6 ih6 =>
      intro v1_6 h6 hfd ls hl hR
      rw [nI_pred] at hl
      rw [lp_X9_mostTired_6] at hR
      refine lv_iload_n hx hb dX9_mostTired_6 rfl (lv_at hl 0 rfl) ?_
      refine lv_if_lt (tgt := 55) hx hb dX9_mostTired_7 (by decide) (fun h => absurd h (clt_f (a := k6) (b := 0) rfl rfl (by omega) (by omega))) (fun _ => ?_)
      refine lv_aload_n hx hb dX9_mostTired_10 rfl (lv_at hl 2 rfl) ?_
      refine lv_iload_n hx hb dX9_mostTired_11 rfl (lv_at hl 0 rfl) ?_
      refine ro_V (As := [.int (nI k6)]) (rest := []) ⟨hx, hb, hml, hown, hts⟩ hK (c_X9_isThere l D cI cJ cZ mo mo_book_a mo_now_a mo_there mo_beside_a mo_sights mo_sight_a mo_signs mo_pad_a mo_heldAt mo_heldThing mo_reason mo_acts mo_lefts_a mo_inWays_a mo_more_a mo_wins_a mo_been_a mo_image_a mo_isKept_a (nI k6)) hP 0 rfl rfl (rw_sub hP [0] rfl) (cwV 1 hts gX9_mostTired_X9_isThere rfl rfl rfl ⟨rfl, hd_X9_isThere⟩ ⟨(Nat.le_of_ble_eq_true rfl), (Nat.le_of_ble_eq_true rfl)⟩) rfl hl.1 rfl (Nat.le_of_ble_eq_true rfl) dX9_mostTired_12 (Nat.zero_le _) (Nat.zero_le _) ?_
      refine lv_if_eq (tgt := 47) hx hb dX9_mostTired_15 (by decide) (fun c15 => ?_) (fun c15 => ?_)
      · rw [if_pos c15] at hR
        refine lv_iload_n hx hb dX9_mostTired_47 rfl (lv_at hl 1 rfl) ?_
        refine lv_istore_n (lv' := [(1, .int v1_6), (2, .int (nI k6)), (0, .ref mo)]) hx hb dX9_mostTired_48 rfl hl (by decide) rfl (fun ls hl => ?_)
        refine lv_iinc (v := ((nI k6) - 1)) (lv' := [(2, .int ((nI k6) - 1)), (1, .int v1_6), (0, .ref mo)]) hx hb dX9_mostTired_49 hl (k := 1) rfl (iinc_m1 _) (by decide) rfl (fun ls hl => ?_)
        refine lv_goto (tgt := 6) hx hb dX9_mostTired_52 (by decide) ?_
        exact ih6 _ (by omega) (by first | assumption | exact Or.inr (vp_in_nI (by omega) (by decide))) _ (lv_sub hl [0, 1, 2] rfl) hR
      · rw [if_neg c15] at hR
        refine lv_iload_n hx hb dX9_mostTired_18 rfl (lv_at hl 1 rfl) ?_
        refine lv_if_lt (tgt := 43) hx hb dX9_mostTired_19 (by decide) (fun c19 => ?_) (fun c19 => ?_)
        · rw [if_pos c19] at hR
          refine lv_iload_n hx hb dX9_mostTired_43 rfl (lv_at hl 0 rfl) ?_
          refine lv_goto (tgt := 48) hx hb dX9_mostTired_44 (by decide) ?_
          refine lv_istore_n (lv' := [(1, .int (nI k6)), (2, .int (nI k6)), (0, .ref mo)]) hx hb dX9_mostTired_48 rfl hl (by decide) rfl (fun ls hl => ?_)
          refine lv_iinc (v := ((nI k6) - 1)) (lv' := [(2, .int ((nI k6) - 1)), (1, .int (nI k6)), (0, .ref mo)]) hx hb dX9_mostTired_49 hl (k := 1) rfl (iinc_m1 _) (by decide) rfl (fun ls hl => ?_)
          refine lv_goto (tgt := 6) hx hb dX9_mostTired_52 (by decide) ?_
          exact ih6 _ (by omega) (by first | assumption | exact Or.inr (vp_in_nI (by omega) (by decide))) _ (lv_sub hl [0, 1, 2] rfl) hR
        · rw [if_neg c19] at hR
          refine lv_aload_n hx hb dX9_mostTired_22 rfl (lv_at hl 2 rfl) ?_
          refine va_get (D := D) (ci := 9) (v := .ref mo_now_a) (C := RX9) (T := TX9) (N := 19) hx hb hts in_X9_mostTired_X9 hown hK.1 hP 0 rfl rfl 1 (by decide) hq0 (fun _ h9 => h9) rfl dX9_mostTired_23 ?_
          refine lv_bipush (v := (7 : Int32)) hx hb dX9_mostTired_26 (by decide +kernel) ?_
          refine lv_iload_n hx hb dX9_mostTired_28 rfl (lv_at hl 0 rfl) ?_
          refine lv_iadd hx hb dX9_mostTired_29 ?_
          rw [show ((7 : Int32) + (nI k6)) = (nI (7 + k6)) from nI_add 7 k6]
          refine ia_ld hx hb hK hP 1 rfl (i := (7 + k6)) (by omega) (by decide) dX9_mostTired_30 ?_
          refine lv_aload_n hx hb dX9_mostTired_31 rfl (lv_at hl 2 rfl) ?_
          refine va_get (D := D) (ci := 9) (v := .ref mo_now_a) (C := RX9) (T := TX9) (N := 19) hx hb hts in_X9_mostTired_X9 hown hK.1 hP 0 rfl rfl 1 (by decide) hq0 (fun _ h9 => h9) rfl dX9_mostTired_32 ?_
          refine lv_bipush (v := (7 : Int32)) hx hb dX9_mostTired_35 (by decide +kernel) ?_
          refine lv_iload_n hx hb dX9_mostTired_37 rfl (lv_at hl 1 rfl) ?_
          refine lv_iadd hx hb dX9_mostTired_38 ?_
          refine va_iald hx hb hK.1 hP 1 0 rfl rfl (vp_mono (vp_addc (c := 7) (vfd hfd c19) (by decide)) (by decide) (by decide) (by decide)) dX9_mostTired_39 ?_
          refine lv_icmp_lt (tgt := 47) hx hb dX9_mostTired_40 (by decide) (fun c40 => ?_) (fun c40 => ?_)
          · rw [if_pos c40] at hR
            refine lv_iload_n hx hb dX9_mostTired_47 rfl (lv_at hl 1 rfl) ?_
            refine lv_istore_n (lv' := [(1, .int v1_6), (2, .int (nI k6)), (0, .ref mo)]) hx hb dX9_mostTired_48 rfl hl (by decide) rfl (fun ls hl => ?_)
            refine lv_iinc (v := ((nI k6) - 1)) (lv' := [(2, .int ((nI k6) - 1)), (1, .int v1_6), (0, .ref mo)]) hx hb dX9_mostTired_49 hl (k := 1) rfl (iinc_m1 _) (by decide) rfl (fun ls hl => ?_)
            refine lv_goto (tgt := 6) hx hb dX9_mostTired_52 (by decide) ?_
            exact ih6 _ (by omega) (by first | assumption | exact Or.inr (vp_in_nI (by omega) (by decide))) _ (lv_sub hl [0, 1, 2] rfl) hR
          · rw [if_neg c40] at hR
            refine lv_iload_n hx hb dX9_mostTired_43 rfl (lv_at hl 0 rfl) ?_
            refine lv_goto (tgt := 48) hx hb dX9_mostTired_44 (by decide) ?_
            refine lv_istore_n (lv' := [(1, .int (nI k6)), (2, .int (nI k6)), (0, .ref mo)]) hx hb dX9_mostTired_48 rfl hl (by decide) rfl (fun ls hl => ?_)
            refine lv_iinc (v := ((nI k6) - 1)) (lv' := [(2, .int ((nI k6) - 1)), (1, .int (nI k6)), (0, .ref mo)]) hx hb dX9_mostTired_49 hl (k := 1) rfl (iinc_m1 _) (by decide) rfl (fun ls hl => ?_)
            refine lv_goto (tgt := 6) hx hb dX9_mostTired_52 (by decide) ?_
            exact ih6 _ (by omega) (by first | assumption | exact Or.inr (vp_in_nI (by omega) (by decide))) _ (lv_sub hl [0, 1, 2] rfl) hR
  exact hloop6 7 _ (Nat.le_refl _) (Or.inl rfl) _ hl hF6_1


theorem in_X9_winnerOf_X9 : ∀ w ∈ u_ws RX9 TX9 19, w ∈ wsX9_winnerOf := by decide +kernel
def lp_X9_winnerOf_5 (mo_there : Int32) (mo_book : Nat → Int32) (xa : Int32) (xb : Int32) : Nat → Nat → Int32 → Int32
  | 0, _, v3_5 => v3_5
  | k5 + 1, i5, v3_5 => (if ((f_X9_isThere mo_there (nI i5)) = 0) then (lp_X9_winnerOf_5 mo_there mo_book xa xb k5 (i5 + 1) (v3_5 + (0 : Int32))) else (if (((f_X9_apartOf (mo_book i5) xa) - (f_X9_apartOf (mo_book i5) xb)) = 0) then (lp_X9_winnerOf_5 mo_there mo_book xa xb k5 (i5 + 1) (v3_5 + (0 : Int32))) else (if (0 ≤ ((f_X9_apartOf (mo_book i5) xa) - (f_X9_apartOf (mo_book i5) xb))) then (lp_X9_winnerOf_5 mo_there mo_book xa xb k5 (i5 + 1) (v3_5 + (-1 : Int32))) else (lp_X9_winnerOf_5 mo_there mo_book xa xb k5 (i5 + 1) (v3_5 + (1 : Int32))))))
def f_X9_winnerOf (mo_there : Int32) (mo_book : Nat → Int32) (xa : Int32) (xb : Int32) : Int32 :=
  (if ((lp_X9_winnerOf_5 mo_there mo_book xa xb 7 0 (0 : Int32)) ≤ 0) then (if (0 ≤ (lp_X9_winnerOf_5 mo_there mo_book xa xb 7 0 (0 : Int32))) then (if (xb ≤ xa) then xb else xa) else xb) else xa)
set_option maxHeartbeats 4000000 in
set_option maxRecDepth 100000 in
theorem c_X9_winnerOf (l : Launch) (D : va_G) (cI cJ cZ : ClassId) (mo : Nat) (mo_book_a : Nat) (mo_now_a : Nat) (mo_there : Int32) (mo_beside_a : Nat) (mo_sights : Int32) (mo_sight_a : Nat) (mo_signs : Int32) (mo_pad_a : Nat) (mo_heldAt : Int32) (mo_heldThing : Int32) (mo_reason : Int32) (mo_acts : Int32) (mo_lefts_a : Nat) (mo_inWays_a : Nat) (mo_more_a : Nat) (mo_wins_a : Nat) (mo_been_a : Nat) (mo_image_a : Nat) (mo_isKept_a : Nat) (mo_book : Nat → Int32) (xa : Int32) (xb : Int32) : RO l yX9_winnerOf wsX9_winnerOf ({ frames := 2, cells := 0, slots := 0, locals := 43 }) [.ref mo, .int xa, .int xb] D cI cJ cZ [(mo, .inr (9, [.ref mo_book_a, .ref mo_now_a, .int mo_there, .ref mo_beside_a, .int mo_sights, .ref mo_sight_a, .int mo_signs, .ref mo_pad_a, .int mo_heldAt, .int mo_heldThing, .int mo_reason, .int mo_acts, .ref mo_lefts_a, .ref mo_inWays_a, .ref mo_more_a, .ref mo_wins_a, .ref mo_been_a, .ref mo_image_a, .ref mo_isKept_a])), (mo_book_a, .inl (cI, 19, .inl mo_book))] (.int (f_X9_winnerOf mo_there mo_book xa xb)) := by
  obtain ⟨R, hR⟩ : ∃ R, (f_X9_winnerOf mo_there mo_book xa xb) = R := ⟨_, rfl⟩
  rw [hR]
  refine ro_start (cc := cX9_winnerOf) (maxL := 6) (ret := (some .int)) (by decide) rfl (Nat.le_of_ble_eq_true rfl) ?_
  intro p e s m args below meth c hx hb hr hml hown hts hlocks hP hK ls hl
  have hown : s.vm.findClass RX9 = some m.cls := hown
  have hl : lv_has ls 6 [(0, .ref mo), (1, .int xa), (2, .int xb)] := hl
  have hq0 := hts (.fieldLink RX9 7 "StuckVanesModel" "book" "[I") (by decide +kernel)
  rw [f_X9_winnerOf] at hR
  refine lv_iconst (v := (0 : Int32)) hx hb dX9_winnerOf_0 (by decide) ?_
  refine lv_istore_n (lv' := [(3, .int (0 : Int32)), (0, .ref mo), (1, .int xa), (2, .int xb)]) hx hb dX9_winnerOf_1 rfl hl (by decide) rfl (fun ls hl => ?_)
  refine lv_iconst (v := (0 : Int32)) hx hb dX9_winnerOf_2 (by decide) ?_
  refine lv_istore (lv' := [(4, .int (0 : Int32)), (3, .int (0 : Int32)), (0, .ref mo), (1, .int xa), (2, .int xb)]) hx hb dX9_winnerOf_3 hl (by decide) rfl (fun ls hl => ?_)
  obtain ⟨F5_1, hF5_1⟩ : ∃ x, (lp_X9_winnerOf_5 mo_there mo_book xa xb 7 0 (0 : Int32)) = x := ⟨_, rfl⟩
  try rw [hF5_1] at hR
  have hexit5 : ∀ (ls : Array Slot), lv_has ls 6 [(3, .int F5_1), (0, .ref mo), (1, .int xa), (2, .int xb)] → W p l e ({ frames := 2, cells := 0, slots := 0, locals := 43 }) s m args below meth c s.heap [] 0 0 (MQ below (ro_Q (.int R)) args s 0 0 (fun _ => False)) (F0 m 74 ls []) := by
    intro ls hl
    refine lv_iload_n hx hb dX9_winnerOf_74 rfl (lv_at hl 0 rfl) ?_
    refine lv_if_le (tgt := 82) hx hb dX9_winnerOf_75 (by decide) (fun c75 => ?_) (fun c75 => ?_)
    · rw [if_pos c75] at hR
      refine lv_iload_n hx hb dX9_winnerOf_82 rfl (lv_at hl 0 rfl) ?_
      refine lv_if_ge (tgt := 90) hx hb dX9_winnerOf_83 (by decide) (fun c83 => ?_) (fun c83 => ?_)
      · rw [if_pos c83] at hR
        refine lv_iload_n hx hb dX9_winnerOf_90 rfl (lv_at hl 2 rfl) ?_
        refine lv_iload_n hx hb dX9_winnerOf_91 rfl (lv_at hl 3 rfl) ?_
        refine lv_icmp_ge (tgt := 99) hx hb dX9_winnerOf_92 (by decide) (fun c92 => ?_) (fun c92 => ?_)
        · rw [if_pos c92] at hR
          refine lv_iload_n hx hb dX9_winnerOf_99 rfl (lv_at hl 3 rfl) ?_
          subst hR
          exact ro_iret hx hb hr hlocks dX9_winnerOf_100
        · rw [if_neg c92] at hR
          refine lv_iload_n hx hb dX9_winnerOf_95 rfl (lv_at hl 2 rfl) ?_
          refine lv_goto (tgt := 100) hx hb dX9_winnerOf_96 (by decide) ?_
          subst hR
          exact ro_iret hx hb hr hlocks dX9_winnerOf_100
      · rw [if_neg c83] at hR
        refine lv_iload_n hx hb dX9_winnerOf_86 rfl (lv_at hl 3 rfl) ?_
        refine lv_goto (tgt := 100) hx hb dX9_winnerOf_87 (by decide) ?_
        subst hR
        exact ro_iret hx hb hr hlocks dX9_winnerOf_100
    · rw [if_neg c75] at hR
      refine lv_iload_n hx hb dX9_winnerOf_78 rfl (lv_at hl 2 rfl) ?_
      refine lv_goto (tgt := 100) hx hb dX9_winnerOf_79 (by decide) ?_
      subst hR
      exact ro_iret hx hb hr hlocks dX9_winnerOf_100
  have hloop5 : ∀ (k5 i5 : Nat) (v3_5 : Int32), i5 + k5 = 7 → ∀ (ls : Array Slot), lv_has ls 6 [(4, .int (nI i5)), (3, .int v3_5), (0, .ref mo), (1, .int xa), (2, .int xb)] → lp_X9_winnerOf_5 mo_there mo_book xa xb k5 i5 v3_5 = F5_1 → W p l e ({ frames := 2, cells := 0, slots := 0, locals := 43 }) s m args below meth c s.heap [] 0 0 (MQ below (ro_Q (.int R)) args s 0 0 (fun _ => False)) (F0 m 5 ls []) := by
    intro k5
    induction k5 with
    | zero =>
      intro i5 v3_5 h5  ls hl hR
      obtain rfl : 7 = i5 := by omega
      rw [lp_X9_winnerOf_5] at hR
      refine lv_iload hx hb dX9_winnerOf_5 (lv_at hl 0 rfl) ?_
      refine lv_bipush (v := (7 : Int32)) hx hb dX9_winnerOf_7 (by decide +kernel) ?_
      refine lv_icmp_ge (tgt := 74) hx hb dX9_winnerOf_9 (by decide) (fun _ => ?_) (fun h => absurd (cle_t (a := 7) (b := 7) rfl rfl (by omega) (by omega)) h)
      subst hR
      exact hexit5 _ (lv_sub hl [1, 2, 3, 4] rfl)
    | succ k5 ih5 =>
      intro i5 v3_5 h5  ls hl hR
      rw [lp_X9_winnerOf_5] at hR
      refine lv_iload hx hb dX9_winnerOf_5 (lv_at hl 0 rfl) ?_
      refine lv_bipush (v := (7 : Int32)) hx hb dX9_winnerOf_7 (by decide +kernel) ?_
      refine lv_icmp_ge (tgt := 74) hx hb dX9_winnerOf_9 (by decide) (fun h => absurd h (cle_f (a := 7) (b := i5) rfl rfl (by omega) (by omega))) (fun _ => ?_)
      refine lv_aload_n hx hb dX9_winnerOf_12 rfl (lv_at hl 2 rfl) ?_
      refine va_get (D := D) (ci := 9) (v := .ref mo_book_a) (C := RX9) (T := TX9) (N := 19) hx hb hts in_X9_winnerOf_X9 hown hK.1 hP 0 rfl rfl 0 (by decide) hq0 (fun _ h9 => h9) rfl dX9_winnerOf_13 ?_
      refine lv_iload hx hb dX9_winnerOf_16 (lv_at hl 0 rfl) ?_
      refine ia_ld hx hb hK hP 1 rfl (i := i5) (by omega) (by decide) dX9_winnerOf_18 ?_
      refine lv_iload_n hx hb dX9_winnerOf_19 rfl (lv_at hl 3 rfl) ?_
      refine ro_S (As := [.int (mo_book i5), .int xa]) (rest := []) ⟨hx, hb, hml, hown, hts⟩ hK (c_X9_apartOf l D cI cJ cZ (mo_book i5) xa) va_P_nil (va_cwS 2 hts gX9_winnerOf_X9_apartOf rfl rfl rfl hd_X9_apartOf ⟨(Nat.le_of_ble_eq_true rfl), (Nat.le_of_ble_eq_true rfl)⟩) rfl hl.1 rfl (Nat.le_of_ble_eq_true rfl) dX9_winnerOf_20 (Nat.zero_le _) (Nat.zero_le _) ?_
      refine lv_aload_n hx hb dX9_winnerOf_23 rfl (lv_at hl 2 rfl) ?_
      refine va_get (D := D) (ci := 9) (v := .ref mo_book_a) (C := RX9) (T := TX9) (N := 19) hx hb hts in_X9_winnerOf_X9 hown hK.1 hP 0 rfl rfl 0 (by decide) hq0 (fun _ h9 => h9) rfl dX9_winnerOf_24 ?_
      refine lv_iload hx hb dX9_winnerOf_27 (lv_at hl 0 rfl) ?_
      refine ia_ld hx hb hK hP 1 rfl (i := i5) (by omega) (by decide) dX9_winnerOf_29 ?_
      refine lv_iload_n hx hb dX9_winnerOf_30 rfl (lv_at hl 4 rfl) ?_
      refine ro_S (As := [.int (mo_book i5), .int xb]) (rest := [.int (f_X9_apartOf (mo_book i5) xa)]) ⟨hx, hb, hml, hown, hts⟩ hK (c_X9_apartOf l D cI cJ cZ (mo_book i5) xb) va_P_nil (va_cwS 2 hts gX9_winnerOf_X9_apartOf rfl rfl rfl hd_X9_apartOf ⟨(Nat.le_of_ble_eq_true rfl), (Nat.le_of_ble_eq_true rfl)⟩) rfl hl.1 rfl (Nat.le_of_ble_eq_true rfl) dX9_winnerOf_31 (Nat.zero_le _) (Nat.zero_le _) ?_
      refine lv_isub hx hb dX9_winnerOf_34 ?_
      refine lv_istore (lv' := [(5, .int ((f_X9_apartOf (mo_book i5) xa) - (f_X9_apartOf (mo_book i5) xb))), (4, .int (nI i5)), (3, .int v3_5), (0, .ref mo), (1, .int xa), (2, .int xb)]) hx hb dX9_winnerOf_35 hl (by decide) rfl (fun ls hl => ?_)
      refine lv_iload_n hx hb dX9_winnerOf_37 rfl (lv_at hl 2 rfl) ?_
      refine lv_aload_n hx hb dX9_winnerOf_38 rfl (lv_at hl 3 rfl) ?_
      refine lv_iload hx hb dX9_winnerOf_39 (lv_at hl 1 rfl) ?_
      refine ro_V (As := [.int (nI i5)]) (rest := [.int v3_5]) ⟨hx, hb, hml, hown, hts⟩ hK (c_X9_isThere l D cI cJ cZ mo mo_book_a mo_now_a mo_there mo_beside_a mo_sights mo_sight_a mo_signs mo_pad_a mo_heldAt mo_heldThing mo_reason mo_acts mo_lefts_a mo_inWays_a mo_more_a mo_wins_a mo_been_a mo_image_a mo_isKept_a (nI i5)) hP 0 rfl rfl (rw_sub hP [0] rfl) (cwV 1 hts gX9_winnerOf_X9_isThere rfl rfl rfl ⟨rfl, hd_X9_isThere⟩ ⟨(Nat.le_of_ble_eq_true rfl), (Nat.le_of_ble_eq_true rfl)⟩) rfl hl.1 rfl (Nat.le_of_ble_eq_true rfl) dX9_winnerOf_41 (Nat.zero_le _) (Nat.zero_le _) ?_
      refine lv_if_eq (tgt := 52) hx hb dX9_winnerOf_44 (by decide) (fun c44 => ?_) (fun c44 => ?_)
      · rw [if_pos c44] at hR
        refine lv_iconst (v := (0 : Int32)) hx hb dX9_winnerOf_52 (by decide) ?_
        refine lv_goto (tgt := 66) hx hb dX9_winnerOf_53 (by decide) ?_
        refine lv_iadd hx hb dX9_winnerOf_66 ?_
        refine lv_istore_n (lv' := [(3, .int (v3_5 + (0 : Int32))), (5, .int ((f_X9_apartOf (mo_book i5) xa) - (f_X9_apartOf (mo_book i5) xb))), (4, .int (nI i5)), (0, .ref mo), (1, .int xa), (2, .int xb)]) hx hb dX9_winnerOf_67 rfl hl (by decide) rfl (fun ls hl => ?_)
        refine lv_iinc (v := (nI (i5 + 1))) (lv' := [(4, .int (nI (i5 + 1))), (3, .int (v3_5 + (0 : Int32))), (5, .int ((f_X9_apartOf (mo_book i5) xa) - (f_X9_apartOf (mo_book i5) xb))), (0, .ref mo), (1, .int xa), (2, .int xb)]) hx hb dX9_winnerOf_68 hl (k := 2) rfl (by exact nI_add i5 1) (by decide) rfl (fun ls hl => ?_)
        refine lv_goto (tgt := 5) hx hb dX9_winnerOf_71 (by decide) ?_
        exact ih5 _ _ (by omega) _ (lv_sub hl [0, 1, 3, 4, 5] rfl) hR
      · rw [if_neg c44] at hR
        refine lv_iload hx hb dX9_winnerOf_47 (lv_at hl 0 rfl) ?_
        refine lv_if_ne (tgt := 56) hx hb dX9_winnerOf_49 (by decide) (fun c49 => ?_) (fun c49 => ?_)
        · rw [if_neg c49] at hR
          refine lv_iload hx hb dX9_winnerOf_56 (lv_at hl 0 rfl) ?_
          refine lv_if_ge (tgt := 65) hx hb dX9_winnerOf_58 (by decide) (fun c58 => ?_) (fun c58 => ?_)
          · rw [if_pos c58] at hR
            refine lv_iconst (v := (-1 : Int32)) hx hb dX9_winnerOf_65 (by decide) ?_
            refine lv_iadd hx hb dX9_winnerOf_66 ?_
            refine lv_istore_n (lv' := [(3, .int (v3_5 + (-1 : Int32))), (5, .int ((f_X9_apartOf (mo_book i5) xa) - (f_X9_apartOf (mo_book i5) xb))), (4, .int (nI i5)), (0, .ref mo), (1, .int xa), (2, .int xb)]) hx hb dX9_winnerOf_67 rfl hl (by decide) rfl (fun ls hl => ?_)
            refine lv_iinc (v := (nI (i5 + 1))) (lv' := [(4, .int (nI (i5 + 1))), (3, .int (v3_5 + (-1 : Int32))), (5, .int ((f_X9_apartOf (mo_book i5) xa) - (f_X9_apartOf (mo_book i5) xb))), (0, .ref mo), (1, .int xa), (2, .int xb)]) hx hb dX9_winnerOf_68 hl (k := 2) rfl (by exact nI_add i5 1) (by decide) rfl (fun ls hl => ?_)
            refine lv_goto (tgt := 5) hx hb dX9_winnerOf_71 (by decide) ?_
            exact ih5 _ _ (by omega) _ (lv_sub hl [0, 1, 3, 4, 5] rfl) hR
          · rw [if_neg c58] at hR
            refine lv_iconst (v := (1 : Int32)) hx hb dX9_winnerOf_61 (by decide) ?_
            refine lv_goto (tgt := 66) hx hb dX9_winnerOf_62 (by decide) ?_
            refine lv_iadd hx hb dX9_winnerOf_66 ?_
            refine lv_istore_n (lv' := [(3, .int (v3_5 + (1 : Int32))), (5, .int ((f_X9_apartOf (mo_book i5) xa) - (f_X9_apartOf (mo_book i5) xb))), (4, .int (nI i5)), (0, .ref mo), (1, .int xa), (2, .int xb)]) hx hb dX9_winnerOf_67 rfl hl (by decide) rfl (fun ls hl => ?_)
            refine lv_iinc (v := (nI (i5 + 1))) (lv' := [(4, .int (nI (i5 + 1))), (3, .int (v3_5 + (1 : Int32))), (5, .int ((f_X9_apartOf (mo_book i5) xa) - (f_X9_apartOf (mo_book i5) xb))), (0, .ref mo), (1, .int xa), (2, .int xb)]) hx hb dX9_winnerOf_68 hl (k := 2) rfl (by exact nI_add i5 1) (by decide) rfl (fun ls hl => ?_)
            refine lv_goto (tgt := 5) hx hb dX9_winnerOf_71 (by decide) ?_
            exact ih5 _ _ (by omega) _ (lv_sub hl [0, 1, 3, 4, 5] rfl) hR
        · rw [if_pos c49] at hR
          refine lv_iconst (v := (0 : Int32)) hx hb dX9_winnerOf_52 (by decide) ?_
          refine lv_goto (tgt := 66) hx hb dX9_winnerOf_53 (by decide) ?_
          refine lv_iadd hx hb dX9_winnerOf_66 ?_
          refine lv_istore_n (lv' := [(3, .int (v3_5 + (0 : Int32))), (5, .int ((f_X9_apartOf (mo_book i5) xa) - (f_X9_apartOf (mo_book i5) xb))), (4, .int (nI i5)), (0, .ref mo), (1, .int xa), (2, .int xb)]) hx hb dX9_winnerOf_67 rfl hl (by decide) rfl (fun ls hl => ?_)
          refine lv_iinc (v := (nI (i5 + 1))) (lv' := [(4, .int (nI (i5 + 1))), (3, .int (v3_5 + (0 : Int32))), (5, .int ((f_X9_apartOf (mo_book i5) xa) - (f_X9_apartOf (mo_book i5) xb))), (0, .ref mo), (1, .int xa), (2, .int xb)]) hx hb dX9_winnerOf_68 hl (k := 2) rfl (by exact nI_add i5 1) (by decide) rfl (fun ls hl => ?_)
          refine lv_goto (tgt := 5) hx hb dX9_winnerOf_71 (by decide) ?_
          exact ih5 _ _ (by omega) _ (lv_sub hl [0, 1, 3, 4, 5] rfl) hR
  exact hloop5 7 0 _ (by omega) _ hl hF5_1


theorem in_X9_areApart_X9 : ∀ w ∈ u_ws RX9 TX9 19, w ∈ wsX9_areApart := by decide +kernel
def lp_X9_areApart_4 (mo_beside : Nat → Int32) (xs : Int32) : Nat → Nat → Int32 → Int32
  | 0, _, v2_4 => v2_4
  | k4 + 1, i4, v2_4 => (if (v2_4 = 0) then (lp_X9_areApart_4 mo_beside xs k4 (i4 + 1) (0 : Int32)) else (if ((f_X9_has xs (nI i4)) = 0) then (lp_X9_areApart_4 mo_beside xs k4 (i4 + 1) (1 : Int32)) else (if (((mo_beside i4) &&& xs) = 0) then (lp_X9_areApart_4 mo_beside xs k4 (i4 + 1) (1 : Int32)) else (lp_X9_areApart_4 mo_beside xs k4 (i4 + 1) (0 : Int32)))))
def f_X9_areApart (mo_beside : Nat → Int32) (xs : Int32) : Int32 :=
  (lp_X9_areApart_4 mo_beside xs 7 0 (1 : Int32))
set_option maxHeartbeats 4000000 in
set_option maxRecDepth 100000 in
theorem c_X9_areApart (l : Launch) (D : va_G) (cI cJ cZ : ClassId) (mo : Nat) (mo_book_a : Nat) (mo_now_a : Nat) (mo_there : Int32) (mo_beside_a : Nat) (mo_sights : Int32) (mo_sight_a : Nat) (mo_signs : Int32) (mo_pad_a : Nat) (mo_heldAt : Int32) (mo_heldThing : Int32) (mo_reason : Int32) (mo_acts : Int32) (mo_lefts_a : Nat) (mo_inWays_a : Nat) (mo_more_a : Nat) (mo_wins_a : Nat) (mo_been_a : Nat) (mo_image_a : Nat) (mo_isKept_a : Nat) (mo_beside : Nat → Int32) (xs : Int32) : RO l yX9_areApart wsX9_areApart ({ frames := 1, cells := 0, slots := 0, locals := 21 }) [.ref mo, .int xs] D cI cJ cZ [(mo, .inr (9, [.ref mo_book_a, .ref mo_now_a, .int mo_there, .ref mo_beside_a, .int mo_sights, .ref mo_sight_a, .int mo_signs, .ref mo_pad_a, .int mo_heldAt, .int mo_heldThing, .int mo_reason, .int mo_acts, .ref mo_lefts_a, .ref mo_inWays_a, .ref mo_more_a, .ref mo_wins_a, .ref mo_been_a, .ref mo_image_a, .ref mo_isKept_a])), (mo_beside_a, .inl (cI, 7, .inl mo_beside))] (.int (f_X9_areApart mo_beside xs)) := by
  obtain ⟨R, hR⟩ : ∃ R, (f_X9_areApart mo_beside xs) = R := ⟨_, rfl⟩
  rw [hR]
  refine ro_start (cc := cX9_areApart) (maxL := 4) (ret := (some .boolean)) (by decide) rfl (Nat.le_of_ble_eq_true rfl) ?_
  intro p e s m args below meth c hx hb hr hml hown hts hlocks hP hK ls hl
  have hown : s.vm.findClass RX9 = some m.cls := hown
  have hl : lv_has ls 4 [(0, .ref mo), (1, .int xs)] := hl
  have hq0 := hts (.fieldLink RX9 16 "StuckVanesModel" "beside" "[I") (by decide +kernel)
  rw [f_X9_areApart] at hR
  refine lv_iconst (v := (1 : Int32)) hx hb dX9_areApart_0 (by decide) ?_
  refine lv_istore_n (lv' := [(2, .int (1 : Int32)), (0, .ref mo), (1, .int xs)]) hx hb dX9_areApart_1 rfl hl (by decide) rfl (fun ls hl => ?_)
  refine lv_iconst (v := (0 : Int32)) hx hb dX9_areApart_2 (by decide) ?_
  refine lv_istore_n (lv' := [(3, .int (0 : Int32)), (2, .int (1 : Int32)), (0, .ref mo), (1, .int xs)]) hx hb dX9_areApart_3 rfl hl (by decide) rfl (fun ls hl => ?_)
  have hloop4 : ∀ (k4 i4 : Nat) (v2_4 : Int32), i4 + k4 = 7 → v2_4 = 0 ∨ v2_4 = 1 → ∀ (ls : Array Slot), lv_has ls 4 [(3, .int (nI i4)), (2, .int v2_4), (0, .ref mo), (1, .int xs)] → lp_X9_areApart_4 mo_beside xs k4 i4 v2_4 = R → W p l e ({ frames := 1, cells := 0, slots := 0, locals := 21 }) s m args below meth c s.heap [] 0 0 (MQ below (ro_Q (.int R)) args s 0 0 (fun _ => False)) (F0 m 4 ls []) := by
    intro k4
    induction k4 with
    | zero =>
      intro i4 v2_4 h4 h01 ls hl hR
      obtain rfl : 7 = i4 := by omega
      rw [lp_X9_areApart_4] at hR
      refine lv_iload_n hx hb dX9_areApart_4 rfl (lv_at hl 0 rfl) ?_
      refine lv_bipush (v := (7 : Int32)) hx hb dX9_areApart_5 (by decide +kernel) ?_
      refine lv_icmp_ge (tgt := 45) hx hb dX9_areApart_7 (by decide) (fun _ => ?_) (fun h => absurd (cle_t (a := 7) (b := 7) rfl rfl (by omega) (by omega)) h)
      refine lv_iload_n hx hb dX9_areApart_45 rfl (lv_at hl 1 rfl) ?_
      subst hR
      exact ro_zret hx hb hr hlocks h01 dX9_areApart_46
    | succ k4 ih4 =>
      intro i4 v2_4 h4 h01 ls hl hR
      rw [lp_X9_areApart_4] at hR
      refine lv_iload_n hx hb dX9_areApart_4 rfl (lv_at hl 0 rfl) ?_
      refine lv_bipush (v := (7 : Int32)) hx hb dX9_areApart_5 (by decide +kernel) ?_
      refine lv_icmp_ge (tgt := 45) hx hb dX9_areApart_7 (by decide) (fun h => absurd h (cle_f (a := 7) (b := i4) rfl rfl (by omega) (by omega))) (fun _ => ?_)
      refine lv_iload_n hx hb dX9_areApart_10 rfl (lv_at hl 1 rfl) ?_
      refine lv_if_eq (tgt := 37) hx hb dX9_areApart_11 (by decide) (fun c11 => ?_) (fun c11 => ?_)
      · rw [if_pos c11] at hR
        refine lv_iconst (v := (0 : Int32)) hx hb dX9_areApart_37 (by decide) ?_
        refine lv_istore_n (lv' := [(2, .int (0 : Int32)), (3, .int (nI i4)), (0, .ref mo), (1, .int xs)]) hx hb dX9_areApart_38 rfl hl (by decide) rfl (fun ls hl => ?_)
        refine lv_iinc (v := (nI (i4 + 1))) (lv' := [(3, .int (nI (i4 + 1))), (2, .int (0 : Int32)), (0, .ref mo), (1, .int xs)]) hx hb dX9_areApart_39 hl (k := 1) rfl (by exact nI_add i4 1) (by decide) rfl (fun ls hl => ?_)
        refine lv_goto (tgt := 4) hx hb dX9_areApart_42 (by decide) ?_
        exact ih4 _ _ (by omega) (by first | assumption | exact Or.inl rfl | exact Or.inr rfl) _ (lv_sub hl [0, 1, 2, 3] rfl) hR
      · rw [if_neg c11] at hR
        refine lv_iload_n hx hb dX9_areApart_14 rfl (lv_at hl 3 rfl) ?_
        refine lv_iload_n hx hb dX9_areApart_15 rfl (lv_at hl 0 rfl) ?_
        refine ro_S (As := [.int xs, .int (nI i4)]) (rest := []) ⟨hx, hb, hml, hown, hts⟩ hK (c_X9_has l D cI cJ cZ xs (nI i4)) va_P_nil (va_cwS 2 hts gX9_areApart_X9_has rfl rfl rfl hd_X9_has ⟨(Nat.le_of_ble_eq_true rfl), (Nat.le_of_ble_eq_true rfl)⟩) rfl hl.1 rfl (Nat.le_of_ble_eq_true rfl) dX9_areApart_16 (Nat.zero_le _) (Nat.zero_le _) ?_
        refine lv_if_eq (tgt := 33) hx hb dX9_areApart_19 (by decide) (fun c19 => ?_) (fun c19 => ?_)
        · rw [if_pos c19] at hR
          refine lv_iconst (v := (1 : Int32)) hx hb dX9_areApart_33 (by decide) ?_
          refine lv_goto (tgt := 38) hx hb dX9_areApart_34 (by decide) ?_
          refine lv_istore_n (lv' := [(2, .int (1 : Int32)), (3, .int (nI i4)), (0, .ref mo), (1, .int xs)]) hx hb dX9_areApart_38 rfl hl (by decide) rfl (fun ls hl => ?_)
          refine lv_iinc (v := (nI (i4 + 1))) (lv' := [(3, .int (nI (i4 + 1))), (2, .int (1 : Int32)), (0, .ref mo), (1, .int xs)]) hx hb dX9_areApart_39 hl (k := 1) rfl (by exact nI_add i4 1) (by decide) rfl (fun ls hl => ?_)
          refine lv_goto (tgt := 4) hx hb dX9_areApart_42 (by decide) ?_
          exact ih4 _ _ (by omega) (by first | assumption | exact Or.inl rfl | exact Or.inr rfl) _ (lv_sub hl [0, 1, 2, 3] rfl) hR
        · rw [if_neg c19] at hR
          refine lv_aload_n hx hb dX9_areApart_22 rfl (lv_at hl 2 rfl) ?_
          refine va_get (D := D) (ci := 9) (v := .ref mo_beside_a) (C := RX9) (T := TX9) (N := 19) hx hb hts in_X9_areApart_X9 hown hK.1 hP 0 rfl rfl 3 (by decide) hq0 (fun _ h9 => h9) rfl dX9_areApart_23 ?_
          refine lv_iload_n hx hb dX9_areApart_26 rfl (lv_at hl 0 rfl) ?_
          refine ia_ld hx hb hK hP 1 rfl (i := i4) (by omega) (by decide) dX9_areApart_27 ?_
          refine lv_iload_n hx hb dX9_areApart_28 rfl (lv_at hl 3 rfl) ?_
          refine lv_iand hx hb dX9_areApart_29 ?_
          refine lv_if_ne (tgt := 37) hx hb dX9_areApart_30 (by decide) (fun c30 => ?_) (fun c30 => ?_)
          · rw [if_neg c30] at hR
            refine lv_iconst (v := (0 : Int32)) hx hb dX9_areApart_37 (by decide) ?_
            refine lv_istore_n (lv' := [(2, .int (0 : Int32)), (3, .int (nI i4)), (0, .ref mo), (1, .int xs)]) hx hb dX9_areApart_38 rfl hl (by decide) rfl (fun ls hl => ?_)
            refine lv_iinc (v := (nI (i4 + 1))) (lv' := [(3, .int (nI (i4 + 1))), (2, .int (0 : Int32)), (0, .ref mo), (1, .int xs)]) hx hb dX9_areApart_39 hl (k := 1) rfl (by exact nI_add i4 1) (by decide) rfl (fun ls hl => ?_)
            refine lv_goto (tgt := 4) hx hb dX9_areApart_42 (by decide) ?_
            exact ih4 _ _ (by omega) (by first | assumption | exact Or.inl rfl | exact Or.inr rfl) _ (lv_sub hl [0, 1, 2, 3] rfl) hR
          · rw [if_pos c30] at hR
            refine lv_iconst (v := (1 : Int32)) hx hb dX9_areApart_33 (by decide) ?_
            refine lv_goto (tgt := 38) hx hb dX9_areApart_34 (by decide) ?_
            refine lv_istore_n (lv' := [(2, .int (1 : Int32)), (3, .int (nI i4)), (0, .ref mo), (1, .int xs)]) hx hb dX9_areApart_38 rfl hl (by decide) rfl (fun ls hl => ?_)
            refine lv_iinc (v := (nI (i4 + 1))) (lv' := [(3, .int (nI (i4 + 1))), (2, .int (1 : Int32)), (0, .ref mo), (1, .int xs)]) hx hb dX9_areApart_39 hl (k := 1) rfl (by exact nI_add i4 1) (by decide) rfl (fun ls hl => ?_)
            refine lv_goto (tgt := 4) hx hb dX9_areApart_42 (by decide) ?_
            exact ih4 _ _ (by omega) (by first | assumption | exact Or.inl rfl | exact Or.inr rfl) _ (lv_sub hl [0, 1, 2, 3] rfl) hR
  exact hloop4 7 0 _ (by omega) (Or.inr rfl) _ hl hR


theorem in_X9_seen_X9 : ∀ w ∈ u_ws RX9 TX9 19, w ∈ wsX9_seen := by decide +kernel
def f_X9_seen (mo_sights : Nat) (mo_sight : Nat → Int32) (xt : Int32) (xa : Int32) : Int32 × Int32 × (Nat → Int32) :=
  (if ((f_X9_in xt (0 : Int32) (7 : Int32)) = 0) then ((-1 : Int32), (nI mo_sights), mo_sight) else (if ((nI mo_sights) = (8 : Int32)) then ((-4 : Int32), (nI mo_sights), mo_sight) else (if (xa = 0) then ((nI (mo_sights + 1)), (nI (mo_sights + 1)), (upd (upd mo_sight (2 * mo_sights) xt) ((2 * mo_sights) + 1) (0 : Int32))) else ((nI (mo_sights + 1)), (nI (mo_sights + 1)), (upd (upd mo_sight (2 * mo_sights) xt) ((2 * mo_sights) + 1) (1 : Int32))))))
set_option maxHeartbeats 4000000 in
set_option maxRecDepth 100000 in
theorem c_X9_seen (l : Launch) (D : va_G) (cI cJ cZ : ClassId) (mo : Nat) (mo_book_a : Nat) (mo_now_a : Nat) (mo_there : Int32) (mo_beside_a : Nat) (mo_sights : Nat) (mo_sight_a : Nat) (mo_signs : Nat) (mo_pad_a : Nat) (mo_heldAt : Int32) (mo_heldThing : Int32) (mo_reason : Int32) (mo_acts : Int32) (mo_lefts_a : Nat) (mo_inWays_a : Nat) (mo_more_a : Nat) (mo_wins_a : Nat) (mo_been_a : Nat) (mo_image_a : Nat) (mo_isKept_a : Nat) (mo_book : Nat → Int32) (mo_now : Nat → Int32) (mo_beside : Nat → Int32) (mo_sight : Nat → Int32) (mo_pad : Nat → Int32) (mo_lefts : Nat → Int32) (mo_inWays : Nat → Int32) (mo_more : Nat → Int32) (mo_wins : Nat → Int32) (mo_been : Nat → Int64) (mo_image : Nat → Int32) (mo_isKept : Nat → Int32) (xt : Int32) (xa : Int32) (hsi : mo_sights ≤ 8) : RW l yX9_seen wsX9_seen ({ frames := 1, cells := 0, slots := 0, locals := 22 }) [.ref mo, .int xt, .int xa] D cI cJ cZ [(mo, .inr (9, [.ref mo_book_a, .ref mo_now_a, .int mo_there, .ref mo_beside_a, .int (nI mo_sights), .ref mo_sight_a, .int (nI mo_signs), .ref mo_pad_a, .int mo_heldAt, .int mo_heldThing, .int mo_reason, .int mo_acts, .ref mo_lefts_a, .ref mo_inWays_a, .ref mo_more_a, .ref mo_wins_a, .ref mo_been_a, .ref mo_image_a, .ref mo_isKept_a])), (mo_book_a, .inl (cI, 19, .inl mo_book)), (mo_now_a, .inl (cI, 19, .inl mo_now)), (mo_beside_a, .inl (cI, 7, .inl mo_beside)), (mo_sight_a, .inl (cI, 16, .inl mo_sight)), (mo_pad_a, .inl (cI, 60, .inl mo_pad)), (mo_lefts_a, .inl (cI, 256, .inl mo_lefts)), (mo_inWays_a, .inl (cI, 128, .inl mo_inWays)), (mo_more_a, .inl (cI, 128, .inl mo_more)), (mo_wins_a, .inl (cZ, 201, .inl mo_wins)), (mo_been_a, .inl (cJ, 9, .inr (.inl mo_been))), (mo_image_a, .inl (cI, 100, .inl mo_image)), (mo_isKept_a, .inl (cZ, 2, .inl mo_isKept))] (some (.int ((f_X9_seen mo_sights mo_sight xt xa).1))) [(mo, .inr (9, [.ref mo_book_a, .ref mo_now_a, .int mo_there, .ref mo_beside_a, .int ((f_X9_seen mo_sights mo_sight xt xa).2.1), .ref mo_sight_a, .int (nI mo_signs), .ref mo_pad_a, .int mo_heldAt, .int mo_heldThing, .int mo_reason, .int mo_acts, .ref mo_lefts_a, .ref mo_inWays_a, .ref mo_more_a, .ref mo_wins_a, .ref mo_been_a, .ref mo_image_a, .ref mo_isKept_a])), (mo_book_a, .inl (cI, 19, .inl mo_book)), (mo_now_a, .inl (cI, 19, .inl mo_now)), (mo_beside_a, .inl (cI, 7, .inl mo_beside)), (mo_sight_a, .inl (cI, 16, .inl ((f_X9_seen mo_sights mo_sight xt xa).2.2))), (mo_pad_a, .inl (cI, 60, .inl mo_pad)), (mo_lefts_a, .inl (cI, 256, .inl mo_lefts)), (mo_inWays_a, .inl (cI, 128, .inl mo_inWays)), (mo_more_a, .inl (cI, 128, .inl mo_more)), (mo_wins_a, .inl (cZ, 201, .inl mo_wins)), (mo_been_a, .inl (cJ, 9, .inr (.inl mo_been))), (mo_image_a, .inl (cI, 100, .inl mo_image)), (mo_isKept_a, .inl (cZ, 2, .inl mo_isKept))] := by
  obtain ⟨R0, R1, R2, hR⟩ := prodE3 (f_X9_seen mo_sights mo_sight xt xa)
  rw [hR]
  dsimp only
  refine rw_start (cc := cX9_seen) (maxL := 3) (ret := (some .int)) (by decide) rfl (Nat.le_of_ble_eq_true rfl) ?_
  intro p e s m args below meth c hx hb hr hml hown hts hlocks hP hD hS hK ls hl
  have hown : s.vm.findClass RX9 = some m.cls := hown
  have hl : lv_has ls 3 [(0, .ref mo), (1, .int xt), (2, .int xa)] := hl
  have hq0 := hts (.fieldLink RX9 136 "StuckVanesModel" "sights" "I") (by decide +kernel)
  have hq1 := hts (.fieldLink RX9 19 "StuckVanesModel" "sight" "[I") (by decide +kernel)
  rw [f_X9_seen] at hR
  refine lv_iload_n hx hb dX9_seen_0 rfl (lv_at hl 1 rfl) ?_
  refine lv_iconst (v := (0 : Int32)) hx hb dX9_seen_1 (by decide) ?_
  refine lv_bipush (v := (7 : Int32)) hx hb dX9_seen_2 (by decide +kernel) ?_
  refine ro_S (As := [.int xt, .int (0 : Int32), .int (7 : Int32)]) (rest := []) ⟨hx, hb, hml, hown, hts⟩ hK (c_X9_in l D cI cJ cZ xt (0 : Int32) (7 : Int32)) va_P_nil (va_cwS 3 hts gX9_seen_X9_in rfl rfl rfl hd_X9_in ⟨(Nat.le_of_ble_eq_true rfl), (Nat.le_of_ble_eq_true rfl)⟩) rfl hl.1 rfl (Nat.le_of_ble_eq_true rfl) dX9_seen_4 (Nat.zero_le _) (Nat.zero_le _) ?_
  refine lv_if_ne (tgt := 12) hx hb dX9_seen_7 (by decide) (fun c7 => ?_) (fun c7 => ?_)
  · rw [if_neg c7] at hR
    refine lv_aload_n hx hb dX9_seen_12 rfl (lv_at hl 0 rfl) ?_
    refine va_get (D := D) (ci := 9) (v := .int (nI mo_sights)) (C := RX9) (T := TX9) (N := 19) hx hb hts in_X9_seen_X9 hown hK.1 hP 0 rfl rfl 4 (by decide) hq0 (fun _ h9 => h9) rfl dX9_seen_13 ?_
    refine lv_bipush (v := (8 : Int32)) hx hb dX9_seen_16 (by decide +kernel) ?_
    refine lv_icmp_ne (tgt := 24) hx hb dX9_seen_18 (by decide) (fun c18 => ?_) (fun c18 => ?_)
    · rw [if_neg c18] at hR
      refine lv_aload_n hx hb dX9_seen_24 rfl (lv_at hl 0 rfl) ?_
      refine va_get (D := D) (ci := 9) (v := .ref mo_sight_a) (C := RX9) (T := TX9) (N := 19) hx hb hts in_X9_seen_X9 hown hK.1 hP 0 rfl rfl 5 (by decide) hq1 (fun _ h9 => h9) rfl dX9_seen_25 ?_
      refine lv_iconst (v := (2 : Int32)) hx hb dX9_seen_28 (by decide) ?_
      refine lv_aload_n hx hb dX9_seen_29 rfl (lv_at hl 0 rfl) ?_
      refine va_get (D := D) (ci := 9) (v := .int (nI mo_sights)) (C := RX9) (T := TX9) (N := 19) hx hb hts in_X9_seen_X9 hown hK.1 hP 0 rfl rfl 4 (by decide) hq0 (fun _ h9 => h9) rfl dX9_seen_30 ?_
      refine lv_imul hx hb dX9_seen_33 ?_
      rw [show ((2 : Int32) * (nI mo_sights)) = (nI (2 * mo_sights)) from pk_mul 2 mo_sights]
      refine lv_iload_n hx hb dX9_seen_34 rfl (lv_at hl 1 rfl) ?_
      refine ia_st hx hb hK hP hD hS 4 rfl (i := (2 * mo_sights)) (by have := of_ne (a := mo_sights) (b := 8) c18; omega) (by decide) dX9_seen_35 (fun H locs hP hD hS => ?_)
      have hP : va_P D vwCl [(mo, .inr (9, [.ref mo_book_a, .ref mo_now_a, .int mo_there, .ref mo_beside_a, .int (nI mo_sights), .ref mo_sight_a, .int (nI mo_signs), .ref mo_pad_a, .int mo_heldAt, .int mo_heldThing, .int mo_reason, .int mo_acts, .ref mo_lefts_a, .ref mo_inWays_a, .ref mo_more_a, .ref mo_wins_a, .ref mo_been_a, .ref mo_image_a, .ref mo_isKept_a])), (mo_book_a, .inl (cI, 19, .inl mo_book)), (mo_now_a, .inl (cI, 19, .inl mo_now)), (mo_beside_a, .inl (cI, 7, .inl mo_beside)), (mo_sight_a, .inl (cI, 16, .inl (upd mo_sight (2 * mo_sights) xt))), (mo_pad_a, .inl (cI, 60, .inl mo_pad)), (mo_lefts_a, .inl (cI, 256, .inl mo_lefts)), (mo_inWays_a, .inl (cI, 128, .inl mo_inWays)), (mo_more_a, .inl (cI, 128, .inl mo_more)), (mo_wins_a, .inl (cZ, 201, .inl mo_wins)), (mo_been_a, .inl (cJ, 9, .inr (.inl mo_been))), (mo_image_a, .inl (cI, 100, .inl mo_image)), (mo_isKept_a, .inl (cZ, 2, .inl mo_isKept))] H := hP
      have hD : va_D _ [(mo, .inr (9, [.ref mo_book_a, .ref mo_now_a, .int mo_there, .ref mo_beside_a, .int (nI mo_sights), .ref mo_sight_a, .int (nI mo_signs), .ref mo_pad_a, .int mo_heldAt, .int mo_heldThing, .int mo_reason, .int mo_acts, .ref mo_lefts_a, .ref mo_inWays_a, .ref mo_more_a, .ref mo_wins_a, .ref mo_been_a, .ref mo_image_a, .ref mo_isKept_a])), (mo_book_a, .inl (cI, 19, .inl mo_book)), (mo_now_a, .inl (cI, 19, .inl mo_now)), (mo_beside_a, .inl (cI, 7, .inl mo_beside)), (mo_sight_a, .inl (cI, 16, .inl (upd mo_sight (2 * mo_sights) xt))), (mo_pad_a, .inl (cI, 60, .inl mo_pad)), (mo_lefts_a, .inl (cI, 256, .inl mo_lefts)), (mo_inWays_a, .inl (cI, 128, .inl mo_inWays)), (mo_more_a, .inl (cI, 128, .inl mo_more)), (mo_wins_a, .inl (cZ, 201, .inl mo_wins)), (mo_been_a, .inl (cJ, 9, .inr (.inl mo_been))), (mo_image_a, .inl (cI, 100, .inl mo_image)), (mo_isKept_a, .inl (cZ, 2, .inl mo_isKept))] := hD
      refine lv_aload_n hx hb dX9_seen_36 rfl (lv_at hl 0 rfl) ?_
      refine va_get (D := D) (ci := 9) (v := .ref mo_sight_a) (C := RX9) (T := TX9) (N := 19) hx hb hts in_X9_seen_X9 hown hK.1 hP 0 rfl rfl 5 (by decide) hq1 (fun _ h9 => h9) rfl dX9_seen_37 ?_
      refine lv_iconst (v := (2 : Int32)) hx hb dX9_seen_40 (by decide) ?_
      refine lv_aload_n hx hb dX9_seen_41 rfl (lv_at hl 0 rfl) ?_
      refine va_get (D := D) (ci := 9) (v := .int (nI mo_sights)) (C := RX9) (T := TX9) (N := 19) hx hb hts in_X9_seen_X9 hown hK.1 hP 0 rfl rfl 4 (by decide) hq0 (fun _ h9 => h9) rfl dX9_seen_42 ?_
      refine lv_imul hx hb dX9_seen_45 ?_
      rw [show ((2 : Int32) * (nI mo_sights)) = (nI (2 * mo_sights)) from pk_mul 2 mo_sights]
      refine lv_iconst (v := (1 : Int32)) hx hb dX9_seen_46 (by decide) ?_
      refine lv_iadd hx hb dX9_seen_47 ?_
      rw [show ((nI (2 * mo_sights)) + (1 : Int32)) = (nI ((2 * mo_sights) + 1)) from nI_add (2 * mo_sights) 1]
      refine lv_iload_n hx hb dX9_seen_48 rfl (lv_at hl 2 rfl) ?_
      refine lv_if_eq (tgt := 56) hx hb dX9_seen_49 (by decide) (fun c49 => ?_) (fun c49 => ?_)
      · rw [if_pos c49] at hR
        refine lv_iconst (v := (0 : Int32)) hx hb dX9_seen_56 (by decide) ?_
        refine ia_st hx hb hK hP hD hS 4 rfl (i := ((2 * mo_sights) + 1)) (by have := of_ne (a := mo_sights) (b := 8) c18; omega) (by decide) dX9_seen_57 (fun H locs hP hD hS => ?_)
        have hP : va_P D vwCl [(mo, .inr (9, [.ref mo_book_a, .ref mo_now_a, .int mo_there, .ref mo_beside_a, .int (nI mo_sights), .ref mo_sight_a, .int (nI mo_signs), .ref mo_pad_a, .int mo_heldAt, .int mo_heldThing, .int mo_reason, .int mo_acts, .ref mo_lefts_a, .ref mo_inWays_a, .ref mo_more_a, .ref mo_wins_a, .ref mo_been_a, .ref mo_image_a, .ref mo_isKept_a])), (mo_book_a, .inl (cI, 19, .inl mo_book)), (mo_now_a, .inl (cI, 19, .inl mo_now)), (mo_beside_a, .inl (cI, 7, .inl mo_beside)), (mo_sight_a, .inl (cI, 16, .inl (upd (upd mo_sight (2 * mo_sights) xt) ((2 * mo_sights) + 1) (0 : Int32)))), (mo_pad_a, .inl (cI, 60, .inl mo_pad)), (mo_lefts_a, .inl (cI, 256, .inl mo_lefts)), (mo_inWays_a, .inl (cI, 128, .inl mo_inWays)), (mo_more_a, .inl (cI, 128, .inl mo_more)), (mo_wins_a, .inl (cZ, 201, .inl mo_wins)), (mo_been_a, .inl (cJ, 9, .inr (.inl mo_been))), (mo_image_a, .inl (cI, 100, .inl mo_image)), (mo_isKept_a, .inl (cZ, 2, .inl mo_isKept))] H := hP
        have hD : va_D _ [(mo, .inr (9, [.ref mo_book_a, .ref mo_now_a, .int mo_there, .ref mo_beside_a, .int (nI mo_sights), .ref mo_sight_a, .int (nI mo_signs), .ref mo_pad_a, .int mo_heldAt, .int mo_heldThing, .int mo_reason, .int mo_acts, .ref mo_lefts_a, .ref mo_inWays_a, .ref mo_more_a, .ref mo_wins_a, .ref mo_been_a, .ref mo_image_a, .ref mo_isKept_a])), (mo_book_a, .inl (cI, 19, .inl mo_book)), (mo_now_a, .inl (cI, 19, .inl mo_now)), (mo_beside_a, .inl (cI, 7, .inl mo_beside)), (mo_sight_a, .inl (cI, 16, .inl (upd (upd mo_sight (2 * mo_sights) xt) ((2 * mo_sights) + 1) (0 : Int32)))), (mo_pad_a, .inl (cI, 60, .inl mo_pad)), (mo_lefts_a, .inl (cI, 256, .inl mo_lefts)), (mo_inWays_a, .inl (cI, 128, .inl mo_inWays)), (mo_more_a, .inl (cI, 128, .inl mo_more)), (mo_wins_a, .inl (cZ, 201, .inl mo_wins)), (mo_been_a, .inl (cJ, 9, .inr (.inl mo_been))), (mo_image_a, .inl (cI, 100, .inl mo_image)), (mo_isKept_a, .inl (cZ, 2, .inl mo_isKept))] := hD
        refine lv_aload_n hx hb dX9_seen_58 rfl (lv_at hl 0 rfl) ?_
        refine lv_dup hx hb dX9_seen_59 rfl ?_
        refine va_get (D := D) (ci := 9) (v := .int (nI mo_sights)) (C := RX9) (T := TX9) (N := 19) hx hb hts in_X9_seen_X9 hown hK.1 hP 0 rfl rfl 4 (by decide) hq0 (fun _ h9 => h9) rfl dX9_seen_60 ?_
        refine lv_iconst (v := (1 : Int32)) hx hb dX9_seen_63 (by decide) ?_
        refine lv_iadd hx hb dX9_seen_64 ?_
        rw [show ((nI mo_sights) + (1 : Int32)) = (nI (mo_sights + 1)) from nI_add mo_sights 1]
        refine va_put (D := D) (ci := 9) (v := .int (nI (mo_sights + 1))) (ty := .int) (C := RX9) (T := TX9) (N := 19) hx hb hts in_X9_seen_X9 tyX9 tyX9_ok nmX9 hown hK.1 hP hD hS 0 rfl rfl 4 (by decide) hq0 (fun _ h9 => h9) rfl (by decide +kernel) rfl rfl (Nat.le_of_ble_eq_true rfl) dX9_seen_65 (fun H locs hP hD hS => ?_)
        have hP : va_P D vwCl [(mo, .inr (9, [.ref mo_book_a, .ref mo_now_a, .int mo_there, .ref mo_beside_a, .int (nI (mo_sights + 1)), .ref mo_sight_a, .int (nI mo_signs), .ref mo_pad_a, .int mo_heldAt, .int mo_heldThing, .int mo_reason, .int mo_acts, .ref mo_lefts_a, .ref mo_inWays_a, .ref mo_more_a, .ref mo_wins_a, .ref mo_been_a, .ref mo_image_a, .ref mo_isKept_a])), (mo_book_a, .inl (cI, 19, .inl mo_book)), (mo_now_a, .inl (cI, 19, .inl mo_now)), (mo_beside_a, .inl (cI, 7, .inl mo_beside)), (mo_sight_a, .inl (cI, 16, .inl (upd (upd mo_sight (2 * mo_sights) xt) ((2 * mo_sights) + 1) (0 : Int32)))), (mo_pad_a, .inl (cI, 60, .inl mo_pad)), (mo_lefts_a, .inl (cI, 256, .inl mo_lefts)), (mo_inWays_a, .inl (cI, 128, .inl mo_inWays)), (mo_more_a, .inl (cI, 128, .inl mo_more)), (mo_wins_a, .inl (cZ, 201, .inl mo_wins)), (mo_been_a, .inl (cJ, 9, .inr (.inl mo_been))), (mo_image_a, .inl (cI, 100, .inl mo_image)), (mo_isKept_a, .inl (cZ, 2, .inl mo_isKept))] H := hP
        have hD : va_D _ [(mo, .inr (9, [.ref mo_book_a, .ref mo_now_a, .int mo_there, .ref mo_beside_a, .int (nI (mo_sights + 1)), .ref mo_sight_a, .int (nI mo_signs), .ref mo_pad_a, .int mo_heldAt, .int mo_heldThing, .int mo_reason, .int mo_acts, .ref mo_lefts_a, .ref mo_inWays_a, .ref mo_more_a, .ref mo_wins_a, .ref mo_been_a, .ref mo_image_a, .ref mo_isKept_a])), (mo_book_a, .inl (cI, 19, .inl mo_book)), (mo_now_a, .inl (cI, 19, .inl mo_now)), (mo_beside_a, .inl (cI, 7, .inl mo_beside)), (mo_sight_a, .inl (cI, 16, .inl (upd (upd mo_sight (2 * mo_sights) xt) ((2 * mo_sights) + 1) (0 : Int32)))), (mo_pad_a, .inl (cI, 60, .inl mo_pad)), (mo_lefts_a, .inl (cI, 256, .inl mo_lefts)), (mo_inWays_a, .inl (cI, 128, .inl mo_inWays)), (mo_more_a, .inl (cI, 128, .inl mo_more)), (mo_wins_a, .inl (cZ, 201, .inl mo_wins)), (mo_been_a, .inl (cJ, 9, .inr (.inl mo_been))), (mo_image_a, .inl (cI, 100, .inl mo_image)), (mo_isKept_a, .inl (cZ, 2, .inl mo_isKept))] := hD
        refine lv_aload_n hx hb dX9_seen_68 rfl (lv_at hl 0 rfl) ?_
        refine va_get (D := D) (ci := 9) (v := .int (nI (mo_sights + 1))) (C := RX9) (T := TX9) (N := 19) hx hb hts in_X9_seen_X9 hown hK.1 hP 0 rfl rfl 4 (by decide) hq0 (fun _ h9 => h9) rfl dX9_seen_69 ?_
        obtain ⟨rfl, rfl, rfl⟩ := prodI3 hR
        exact rw_iret hx hb hr hlocks hP hS dX9_seen_72
      · rw [if_neg c49] at hR
        refine lv_iconst (v := (1 : Int32)) hx hb dX9_seen_52 (by decide) ?_
        refine lv_goto (tgt := 57) hx hb dX9_seen_53 (by decide) ?_
        refine ia_st hx hb hK hP hD hS 4 rfl (i := ((2 * mo_sights) + 1)) (by have := of_ne (a := mo_sights) (b := 8) c18; omega) (by decide) dX9_seen_57 (fun H locs hP hD hS => ?_)
        have hP : va_P D vwCl [(mo, .inr (9, [.ref mo_book_a, .ref mo_now_a, .int mo_there, .ref mo_beside_a, .int (nI mo_sights), .ref mo_sight_a, .int (nI mo_signs), .ref mo_pad_a, .int mo_heldAt, .int mo_heldThing, .int mo_reason, .int mo_acts, .ref mo_lefts_a, .ref mo_inWays_a, .ref mo_more_a, .ref mo_wins_a, .ref mo_been_a, .ref mo_image_a, .ref mo_isKept_a])), (mo_book_a, .inl (cI, 19, .inl mo_book)), (mo_now_a, .inl (cI, 19, .inl mo_now)), (mo_beside_a, .inl (cI, 7, .inl mo_beside)), (mo_sight_a, .inl (cI, 16, .inl (upd (upd mo_sight (2 * mo_sights) xt) ((2 * mo_sights) + 1) (1 : Int32)))), (mo_pad_a, .inl (cI, 60, .inl mo_pad)), (mo_lefts_a, .inl (cI, 256, .inl mo_lefts)), (mo_inWays_a, .inl (cI, 128, .inl mo_inWays)), (mo_more_a, .inl (cI, 128, .inl mo_more)), (mo_wins_a, .inl (cZ, 201, .inl mo_wins)), (mo_been_a, .inl (cJ, 9, .inr (.inl mo_been))), (mo_image_a, .inl (cI, 100, .inl mo_image)), (mo_isKept_a, .inl (cZ, 2, .inl mo_isKept))] H := hP
        have hD : va_D _ [(mo, .inr (9, [.ref mo_book_a, .ref mo_now_a, .int mo_there, .ref mo_beside_a, .int (nI mo_sights), .ref mo_sight_a, .int (nI mo_signs), .ref mo_pad_a, .int mo_heldAt, .int mo_heldThing, .int mo_reason, .int mo_acts, .ref mo_lefts_a, .ref mo_inWays_a, .ref mo_more_a, .ref mo_wins_a, .ref mo_been_a, .ref mo_image_a, .ref mo_isKept_a])), (mo_book_a, .inl (cI, 19, .inl mo_book)), (mo_now_a, .inl (cI, 19, .inl mo_now)), (mo_beside_a, .inl (cI, 7, .inl mo_beside)), (mo_sight_a, .inl (cI, 16, .inl (upd (upd mo_sight (2 * mo_sights) xt) ((2 * mo_sights) + 1) (1 : Int32)))), (mo_pad_a, .inl (cI, 60, .inl mo_pad)), (mo_lefts_a, .inl (cI, 256, .inl mo_lefts)), (mo_inWays_a, .inl (cI, 128, .inl mo_inWays)), (mo_more_a, .inl (cI, 128, .inl mo_more)), (mo_wins_a, .inl (cZ, 201, .inl mo_wins)), (mo_been_a, .inl (cJ, 9, .inr (.inl mo_been))), (mo_image_a, .inl (cI, 100, .inl mo_image)), (mo_isKept_a, .inl (cZ, 2, .inl mo_isKept))] := hD
        refine lv_aload_n hx hb dX9_seen_58 rfl (lv_at hl 0 rfl) ?_
        refine lv_dup hx hb dX9_seen_59 rfl ?_
        refine va_get (D := D) (ci := 9) (v := .int (nI mo_sights)) (C := RX9) (T := TX9) (N := 19) hx hb hts in_X9_seen_X9 hown hK.1 hP 0 rfl rfl 4 (by decide) hq0 (fun _ h9 => h9) rfl dX9_seen_60 ?_
        refine lv_iconst (v := (1 : Int32)) hx hb dX9_seen_63 (by decide) ?_
        refine lv_iadd hx hb dX9_seen_64 ?_
        rw [show ((nI mo_sights) + (1 : Int32)) = (nI (mo_sights + 1)) from nI_add mo_sights 1]
        refine va_put (D := D) (ci := 9) (v := .int (nI (mo_sights + 1))) (ty := .int) (C := RX9) (T := TX9) (N := 19) hx hb hts in_X9_seen_X9 tyX9 tyX9_ok nmX9 hown hK.1 hP hD hS 0 rfl rfl 4 (by decide) hq0 (fun _ h9 => h9) rfl (by decide +kernel) rfl rfl (Nat.le_of_ble_eq_true rfl) dX9_seen_65 (fun H locs hP hD hS => ?_)
        have hP : va_P D vwCl [(mo, .inr (9, [.ref mo_book_a, .ref mo_now_a, .int mo_there, .ref mo_beside_a, .int (nI (mo_sights + 1)), .ref mo_sight_a, .int (nI mo_signs), .ref mo_pad_a, .int mo_heldAt, .int mo_heldThing, .int mo_reason, .int mo_acts, .ref mo_lefts_a, .ref mo_inWays_a, .ref mo_more_a, .ref mo_wins_a, .ref mo_been_a, .ref mo_image_a, .ref mo_isKept_a])), (mo_book_a, .inl (cI, 19, .inl mo_book)), (mo_now_a, .inl (cI, 19, .inl mo_now)), (mo_beside_a, .inl (cI, 7, .inl mo_beside)), (mo_sight_a, .inl (cI, 16, .inl (upd (upd mo_sight (2 * mo_sights) xt) ((2 * mo_sights) + 1) (1 : Int32)))), (mo_pad_a, .inl (cI, 60, .inl mo_pad)), (mo_lefts_a, .inl (cI, 256, .inl mo_lefts)), (mo_inWays_a, .inl (cI, 128, .inl mo_inWays)), (mo_more_a, .inl (cI, 128, .inl mo_more)), (mo_wins_a, .inl (cZ, 201, .inl mo_wins)), (mo_been_a, .inl (cJ, 9, .inr (.inl mo_been))), (mo_image_a, .inl (cI, 100, .inl mo_image)), (mo_isKept_a, .inl (cZ, 2, .inl mo_isKept))] H := hP
        have hD : va_D _ [(mo, .inr (9, [.ref mo_book_a, .ref mo_now_a, .int mo_there, .ref mo_beside_a, .int (nI (mo_sights + 1)), .ref mo_sight_a, .int (nI mo_signs), .ref mo_pad_a, .int mo_heldAt, .int mo_heldThing, .int mo_reason, .int mo_acts, .ref mo_lefts_a, .ref mo_inWays_a, .ref mo_more_a, .ref mo_wins_a, .ref mo_been_a, .ref mo_image_a, .ref mo_isKept_a])), (mo_book_a, .inl (cI, 19, .inl mo_book)), (mo_now_a, .inl (cI, 19, .inl mo_now)), (mo_beside_a, .inl (cI, 7, .inl mo_beside)), (mo_sight_a, .inl (cI, 16, .inl (upd (upd mo_sight (2 * mo_sights) xt) ((2 * mo_sights) + 1) (1 : Int32)))), (mo_pad_a, .inl (cI, 60, .inl mo_pad)), (mo_lefts_a, .inl (cI, 256, .inl mo_lefts)), (mo_inWays_a, .inl (cI, 128, .inl mo_inWays)), (mo_more_a, .inl (cI, 128, .inl mo_more)), (mo_wins_a, .inl (cZ, 201, .inl mo_wins)), (mo_been_a, .inl (cJ, 9, .inr (.inl mo_been))), (mo_image_a, .inl (cI, 100, .inl mo_image)), (mo_isKept_a, .inl (cZ, 2, .inl mo_isKept))] := hD
        refine lv_aload_n hx hb dX9_seen_68 rfl (lv_at hl 0 rfl) ?_
        refine va_get (D := D) (ci := 9) (v := .int (nI (mo_sights + 1))) (C := RX9) (T := TX9) (N := 19) hx hb hts in_X9_seen_X9 hown hK.1 hP 0 rfl rfl 4 (by decide) hq0 (fun _ h9 => h9) rfl dX9_seen_69 ?_
        obtain ⟨rfl, rfl, rfl⟩ := prodI3 hR
        exact rw_iret hx hb hr hlocks hP hS dX9_seen_72
    · rw [if_pos c18] at hR
      refine lv_bipush (v := (-4 : Int32)) hx hb dX9_seen_21 (by decide +kernel) ?_
      obtain ⟨rfl, rfl, rfl⟩ := prodI3 hR
      exact rw_iret hx hb hr hlocks hP hS dX9_seen_23
  · rw [if_pos c7] at hR
    refine lv_iconst (v := (-1 : Int32)) hx hb dX9_seen_10 (by decide) ?_
    obtain ⟨rfl, rfl, rfl⟩ := prodI3 hR
    exact rw_iret hx hb hr hlocks hP hS dX9_seen_11


theorem in_X9_forget_X9 : ∀ w ∈ u_ws RX9 TX9 19, w ∈ wsX9_forget := by decide +kernel
def f_X9_forget (mo_sights : Nat) : Int32 × Int32 :=
  ((nI mo_sights), (0 : Int32))
set_option maxHeartbeats 4000000 in
set_option maxRecDepth 100000 in
theorem c_X9_forget (l : Launch) (D : va_G) (cI cJ cZ : ClassId) (mo : Nat) (mo_book_a : Nat) (mo_now_a : Nat) (mo_there : Int32) (mo_beside_a : Nat) (mo_sights : Nat) (mo_sight_a : Nat) (mo_signs : Nat) (mo_pad_a : Nat) (mo_heldAt : Int32) (mo_heldThing : Int32) (mo_reason : Int32) (mo_acts : Int32) (mo_lefts_a : Nat) (mo_inWays_a : Nat) (mo_more_a : Nat) (mo_wins_a : Nat) (mo_been_a : Nat) (mo_image_a : Nat) (mo_isKept_a : Nat) (mo_book : Nat → Int32) (mo_now : Nat → Int32) (mo_beside : Nat → Int32) (mo_sight : Nat → Int32) (mo_pad : Nat → Int32) (mo_lefts : Nat → Int32) (mo_inWays : Nat → Int32) (mo_more : Nat → Int32) (mo_wins : Nat → Int32) (mo_been : Nat → Int64) (mo_image : Nat → Int32) (mo_isKept : Nat → Int32) : RW l yX9_forget wsX9_forget ({ frames := 0, cells := 0, slots := 0, locals := 0 }) [.ref mo] D cI cJ cZ [(mo, .inr (9, [.ref mo_book_a, .ref mo_now_a, .int mo_there, .ref mo_beside_a, .int (nI mo_sights), .ref mo_sight_a, .int (nI mo_signs), .ref mo_pad_a, .int mo_heldAt, .int mo_heldThing, .int mo_reason, .int mo_acts, .ref mo_lefts_a, .ref mo_inWays_a, .ref mo_more_a, .ref mo_wins_a, .ref mo_been_a, .ref mo_image_a, .ref mo_isKept_a])), (mo_book_a, .inl (cI, 19, .inl mo_book)), (mo_now_a, .inl (cI, 19, .inl mo_now)), (mo_beside_a, .inl (cI, 7, .inl mo_beside)), (mo_sight_a, .inl (cI, 16, .inl mo_sight)), (mo_pad_a, .inl (cI, 60, .inl mo_pad)), (mo_lefts_a, .inl (cI, 256, .inl mo_lefts)), (mo_inWays_a, .inl (cI, 128, .inl mo_inWays)), (mo_more_a, .inl (cI, 128, .inl mo_more)), (mo_wins_a, .inl (cZ, 201, .inl mo_wins)), (mo_been_a, .inl (cJ, 9, .inr (.inl mo_been))), (mo_image_a, .inl (cI, 100, .inl mo_image)), (mo_isKept_a, .inl (cZ, 2, .inl mo_isKept))] (some (.int ((f_X9_forget mo_sights).1))) [(mo, .inr (9, [.ref mo_book_a, .ref mo_now_a, .int mo_there, .ref mo_beside_a, .int ((f_X9_forget mo_sights).2), .ref mo_sight_a, .int (nI mo_signs), .ref mo_pad_a, .int mo_heldAt, .int mo_heldThing, .int mo_reason, .int mo_acts, .ref mo_lefts_a, .ref mo_inWays_a, .ref mo_more_a, .ref mo_wins_a, .ref mo_been_a, .ref mo_image_a, .ref mo_isKept_a])), (mo_book_a, .inl (cI, 19, .inl mo_book)), (mo_now_a, .inl (cI, 19, .inl mo_now)), (mo_beside_a, .inl (cI, 7, .inl mo_beside)), (mo_sight_a, .inl (cI, 16, .inl mo_sight)), (mo_pad_a, .inl (cI, 60, .inl mo_pad)), (mo_lefts_a, .inl (cI, 256, .inl mo_lefts)), (mo_inWays_a, .inl (cI, 128, .inl mo_inWays)), (mo_more_a, .inl (cI, 128, .inl mo_more)), (mo_wins_a, .inl (cZ, 201, .inl mo_wins)), (mo_been_a, .inl (cJ, 9, .inr (.inl mo_been))), (mo_image_a, .inl (cI, 100, .inl mo_image)), (mo_isKept_a, .inl (cZ, 2, .inl mo_isKept))] := by
  obtain ⟨R0, R1, hR⟩ := prodE2 (f_X9_forget mo_sights)
  rw [hR]
  dsimp only
  refine rw_start (cc := cX9_forget) (maxL := 2) (ret := (some .int)) (by decide) rfl (Nat.le_of_ble_eq_true rfl) ?_
  intro p e s m args below meth c hx hb hr hml hown hts hlocks hP hD hS hK ls hl
  have hown : s.vm.findClass RX9 = some m.cls := hown
  have hl : lv_has ls 2 [(0, .ref mo)] := hl
  have hq0 := hts (.fieldLink RX9 136 "StuckVanesModel" "sights" "I") (by decide +kernel)
  rw [f_X9_forget] at hR
  refine lv_aload_n hx hb dX9_forget_0 rfl (lv_at hl 0 rfl) ?_
  refine va_get (D := D) (ci := 9) (v := .int (nI mo_sights)) (C := RX9) (T := TX9) (N := 19) hx hb hts in_X9_forget_X9 hown hK.1 hP 0 rfl rfl 4 (by decide) hq0 (fun _ h9 => h9) rfl dX9_forget_1 ?_
  refine lv_istore_n (lv' := [(1, .int (nI mo_sights)), (0, .ref mo)]) hx hb dX9_forget_4 rfl hl (by decide) rfl (fun ls hl => ?_)
  refine lv_aload_n hx hb dX9_forget_5 rfl (lv_at hl 1 rfl) ?_
  refine lv_iconst (v := (0 : Int32)) hx hb dX9_forget_6 (by decide) ?_
  refine va_put (D := D) (ci := 9) (v := .int (0 : Int32)) (ty := .int) (C := RX9) (T := TX9) (N := 19) hx hb hts in_X9_forget_X9 tyX9 tyX9_ok nmX9 hown hK.1 hP hD hS 0 rfl rfl 4 (by decide) hq0 (fun _ h9 => h9) rfl (by decide +kernel) rfl rfl (Nat.le_of_ble_eq_true rfl) dX9_forget_7 (fun H locs hP hD hS => ?_)
  have hP : va_P D vwCl [(mo, .inr (9, [.ref mo_book_a, .ref mo_now_a, .int mo_there, .ref mo_beside_a, .int (0 : Int32), .ref mo_sight_a, .int (nI mo_signs), .ref mo_pad_a, .int mo_heldAt, .int mo_heldThing, .int mo_reason, .int mo_acts, .ref mo_lefts_a, .ref mo_inWays_a, .ref mo_more_a, .ref mo_wins_a, .ref mo_been_a, .ref mo_image_a, .ref mo_isKept_a])), (mo_book_a, .inl (cI, 19, .inl mo_book)), (mo_now_a, .inl (cI, 19, .inl mo_now)), (mo_beside_a, .inl (cI, 7, .inl mo_beside)), (mo_sight_a, .inl (cI, 16, .inl mo_sight)), (mo_pad_a, .inl (cI, 60, .inl mo_pad)), (mo_lefts_a, .inl (cI, 256, .inl mo_lefts)), (mo_inWays_a, .inl (cI, 128, .inl mo_inWays)), (mo_more_a, .inl (cI, 128, .inl mo_more)), (mo_wins_a, .inl (cZ, 201, .inl mo_wins)), (mo_been_a, .inl (cJ, 9, .inr (.inl mo_been))), (mo_image_a, .inl (cI, 100, .inl mo_image)), (mo_isKept_a, .inl (cZ, 2, .inl mo_isKept))] H := hP
  have hD : va_D _ [(mo, .inr (9, [.ref mo_book_a, .ref mo_now_a, .int mo_there, .ref mo_beside_a, .int (0 : Int32), .ref mo_sight_a, .int (nI mo_signs), .ref mo_pad_a, .int mo_heldAt, .int mo_heldThing, .int mo_reason, .int mo_acts, .ref mo_lefts_a, .ref mo_inWays_a, .ref mo_more_a, .ref mo_wins_a, .ref mo_been_a, .ref mo_image_a, .ref mo_isKept_a])), (mo_book_a, .inl (cI, 19, .inl mo_book)), (mo_now_a, .inl (cI, 19, .inl mo_now)), (mo_beside_a, .inl (cI, 7, .inl mo_beside)), (mo_sight_a, .inl (cI, 16, .inl mo_sight)), (mo_pad_a, .inl (cI, 60, .inl mo_pad)), (mo_lefts_a, .inl (cI, 256, .inl mo_lefts)), (mo_inWays_a, .inl (cI, 128, .inl mo_inWays)), (mo_more_a, .inl (cI, 128, .inl mo_more)), (mo_wins_a, .inl (cZ, 201, .inl mo_wins)), (mo_been_a, .inl (cJ, 9, .inr (.inl mo_been))), (mo_image_a, .inl (cI, 100, .inl mo_image)), (mo_isKept_a, .inl (cZ, 2, .inl mo_isKept))] := hD
  refine lv_iload_n hx hb dX9_forget_10 rfl (lv_at hl 0 rfl) ?_
  obtain ⟨rfl, rfl⟩ := prodI2 hR
  exact rw_iret hx hb hr hlocks hP hS dX9_forget_11


def f_X9_saysYes (xc : Int32) (xt : Int32) : Int32 :=
  (if ((xc - xc / (10 : Int32) * (10 : Int32)) < (f_X9_apartOf (xc / (10 : Int32)) xt)) then (0 : Int32) else (1 : Int32))
set_option maxHeartbeats 4000000 in
set_option maxRecDepth 100000 in
theorem c_X9_saysYes (l : Launch) (D : va_G) (cI cJ cZ : ClassId) (xc : Int32) (xt : Int32) : RO l yX9_saysYes wsX9_saysYes ({ frames := 1, cells := 0, slots := 0, locals := 22 }) [.int xc, .int xt] D cI cJ cZ [] (.int (f_X9_saysYes xc xt)) := by
  obtain ⟨R, hR⟩ : ∃ R, (f_X9_saysYes xc xt) = R := ⟨_, rfl⟩
  rw [hR]
  refine ro_start (cc := cX9_saysYes) (maxL := 2) (ret := (some .boolean)) (by decide) rfl (Nat.le_of_ble_eq_true rfl) ?_
  intro p e s m args below meth c hx hb hr hml hown hts hlocks hP hK ls hl
  have hown : s.vm.findClass RX9 = some m.cls := hown
  have hl : lv_has ls 2 [(0, .int xc), (1, .int xt)] := hl
  rw [f_X9_saysYes] at hR
  refine lv_iload_n hx hb dX9_saysYes_0 rfl (lv_at hl 0 rfl) ?_
  refine lv_bipush (v := (10 : Int32)) hx hb dX9_saysYes_1 (by decide +kernel) ?_
  refine lv_idiv hx hb dX9_saysYes_3 (by decide) ?_
  refine lv_iload_n hx hb dX9_saysYes_4 rfl (lv_at hl 1 rfl) ?_
  refine ro_S (As := [.int (xc / (10 : Int32)), .int xt]) (rest := []) ⟨hx, hb, hml, hown, hts⟩ hK (c_X9_apartOf l D cI cJ cZ (xc / (10 : Int32)) xt) va_P_nil (va_cwS 2 hts gX9_saysYes_X9_apartOf rfl rfl rfl hd_X9_apartOf ⟨(Nat.le_of_ble_eq_true rfl), (Nat.le_of_ble_eq_true rfl)⟩) rfl hl.1 rfl (Nat.le_of_ble_eq_true rfl) dX9_saysYes_5 (Nat.zero_le _) (Nat.zero_le _) ?_
  refine lv_iload_n hx hb dX9_saysYes_8 rfl (lv_at hl 0 rfl) ?_
  refine lv_bipush (v := (10 : Int32)) hx hb dX9_saysYes_9 (by decide +kernel) ?_
  refine lv_irem hx hb dX9_saysYes_11 (by decide) ?_
  refine lv_icmp_gt (tgt := 19) hx hb dX9_saysYes_12 (by decide) (fun c12 => ?_) (fun c12 => ?_)
  · rw [if_pos c12] at hR
    refine lv_iconst (v := (0 : Int32)) hx hb dX9_saysYes_19 (by decide) ?_
    subst hR
    exact ro_zret hx hb hr hlocks (Or.inl rfl) dX9_saysYes_20
  · rw [if_neg c12] at hR
    refine lv_iconst (v := (1 : Int32)) hx hb dX9_saysYes_15 (by decide) ?_
    refine lv_goto (tgt := 20) hx hb dX9_saysYes_16 (by decide) ?_
    subst hR
    exact ro_zret hx hb hr hlocks (Or.inr rfl) dX9_saysYes_20

theorem z_X9_saysYes (xc : Int32) (xt : Int32) : (f_X9_saysYes xc xt) = 0 ∨ (f_X9_saysYes xc xt) = 1 := by
  unfold f_X9_saysYes
  (repeat' split) <;> first | exact Or.inl rfl | exact Or.inr rfl

