theorem a9_val (th : Int32) (now : Nat → Int32) (k p m : Int32) : (act9 th now k p m).1 = 0 ∨ ¬ (act9 th now k p m).1 ≤ 0 := by
  have go : ∀ (A : Int32 × (Nat → Int32)), (A.1 = 0 ∨ A.1 = 1 ∨ A.1 = 2 ∨ A.1 = 3 ∨ A.1 = 4 ∨ A.1 = 5 ∨ A.1 = 6 ∨ A.1 = 7) → (A.1 = 0 ∨ ¬ A.1 ≤ 0) := fun A h => by
    rcases h with h | h | h | h | h | h | h | h <;> rw [h] <;> decide
  apply go
  unfold act9
  by_cases c0 : k = 0
  · rw [if_pos c0]; unfold f_X9_oil
    by_cases d1 : f_X9_isThere th p = 0
    · rw [if_pos d1]; simp
    · rw [if_neg d1]
      by_cases d2 : f_X9_has (now 14) p = 0
      · rw [if_pos d2]
        by_cases d3 : now 17 = 0
        · rw [if_pos d3]; simp
        · rw [if_neg d3]; simp
      · rw [if_neg d2]; simp
  · rw [if_neg c0]
    by_cases c1 : k = 1
    · rw [if_pos c1]; unfold f_X9_wire
      by_cases d1 : f_X9_isThere th p = 0
      · rw [if_pos d1]; simp
      · rw [if_neg d1]
        by_cases d2 : f_X9_has (now 14) p = 0
        · rw [if_pos d2]; simp
        · rw [if_neg d2]; simp
    · rw [if_neg c1]
      by_cases c2 : k = 2
      · rw [if_pos c2]; unfold f_X9_hand
        by_cases d1 : f_X9_isThere th p = 0
        · rw [if_pos d1]; simp
        · rw [if_neg d1]
          by_cases d2 : f_X9_has (now 14) p = 0
          · rw [if_pos d2]; simp
          · rw [if_neg d2]
            by_cases d3 : now p.toNatClampNeg = m
            · rw [if_pos d3]; simp
            · rw [if_neg d3]; simp
      · rw [if_neg c2]
        by_cases c3 : k = 3
        · rw [if_pos c3]; unfold f_X9_blow
          by_cases d1 : now 16 = m
          · rw [if_pos d1]; simp
          · rw [if_neg d1]; simp
        · rw [if_neg c3]
          by_cases c4 : k = 4
          · rw [if_pos c4]; unfold f_X9_vote
            by_cases d1 : th = 0
            · rw [if_pos d1]; simp
            · rw [if_neg d1]
              generalize upd now 15 (now 15 &&& (((1 : Int32) <<< (m &&& 31)) ^^^ (-1 : Int32))) = Y
              by_cases d2 : f_X9_isCarried th Y m = 0
              · rw [if_pos d2]; simp
              · rw [if_neg d2]; simp
          · rw [if_neg c4]; unfold f_X9_endHour
            by_cases d1 : now 18 = 99
            · rw [if_pos d1]; simp
            · rw [if_neg d1]; simp
theorem tb_self : ∀ a : Nat, a < 256 → nI a &&& (nI a ^^^ (-1 : Int32)) = 0 := by decide +kernel
theorem t22_s (th z6 : Int32) (K P N : Nat → Int32) (k u : Nat) (a hA hT fr he wi oi ho : Int32) (pts trd : Nat → Int32) (rs : Int32) : lp_X6_tryAll_22 th z6 K P N (k + 1) u a hA hT fr he wi oi ho pts trd rs = (if z6 ≤ nI u then (a, hA, hT, fr, he, wi, oi, ho, pts, trd, rs) else (if rs = 0 then
    (lp_X6_tryAll_22 th z6 K P N k (u + 1) (f_X6_tryAct a hA hT th fr he wi oi ho pts trd (K u) (P u) (N u)).2.1 (f_X6_tryAct a hA hT th fr he wi oi ho pts trd (K u) (P u) (N u)).2.2.1 (f_X6_tryAct a hA hT th fr he wi oi ho pts trd (K u) (P u) (N u)).2.2.2.1 (f_X6_tryAct a hA hT th fr he wi oi ho pts trd (K u) (P u) (N u)).2.2.2.2.1 (f_X6_tryAct a hA hT th fr he wi oi ho pts trd (K u) (P u) (N u)).2.2.2.2.2.1 (f_X6_tryAct a hA hT th fr he wi oi ho pts trd (K u) (P u) (N u)).2.2.2.2.2.2.1 (f_X6_tryAct a hA hT th fr he wi oi ho pts trd (K u) (P u) (N u)).2.2.2.2.2.2.2.1 (f_X6_tryAct a hA hT th fr he wi oi ho pts trd (K u) (P u) (N u)).2.2.2.2.2.2.2.2.1 (f_X6_tryAct a hA hT th fr he wi oi ho pts trd (K u) (P u) (N u)).2.2.2.2.2.2.2.2.2.1 (f_X6_tryAct a hA hT th fr he wi oi ho pts trd (K u) (P u) (N u)).2.2.2.2.2.2.2.2.2.2 (f_X6_tryAct a hA hT th fr he wi oi ho pts trd (K u) (P u) (N u)).1)
    else (a, hA, hT, fr, he, wi, oi, ho, pts, trd, rs))) := rfl
theorem t22_stop (th z6 : Int32) (K P N : Nat → Int32) (k u : Nat) (a hA hT fr he wi oi ho : Int32) (pts trd : Nat → Int32) (rs : Int32) (h : ¬ rs = 0) : lp_X6_tryAll_22 th z6 K P N k u a hA hT fr he wi oi ho pts trd rs = (a, hA, hT, fr, he, wi, oi, ho, pts, trd, rs) := by
  cases k with
  | zero => rfl
  | succ k =>
    rw [t22_s, if_neg h]
    by_cases c : z6 ≤ nI u
    · rw [if_pos c]
    · rw [if_neg c]
theorem t22_end (th : Int32) (U : Nat) (hU : U < 1000) (K P N : Nat → Int32) (k : Nat) (a hA hT fr he wi oi ho : Int32) (pts trd : Nat → Int32) (rs : Int32) : lp_X6_tryAll_22 th (nI U) K P N k U a hA hT fr he wi oi ho pts trd rs = (a, hA, hT, fr, he, wi, oi, ho, pts, trd, rs) := by
  cases k with
  | zero => rfl
  | succ k => rw [t22_s, if_pos (nI_le (Nat.le_refl _) (by omega))]
def PA (n U : Nat) (pad K P N : Nat → Int32) : Nat → Nat → Nat → Prop
  | 0, v, u => v = n ∧ u = U
  | f + 1, v, u => (v = n ∧ u = U) ∨ (v < n ∧ u < U ∧ ∃ v', PAct pad v (K u) (P u) (N u) v' ∧ PA n U pad K P N f v' (u + 1))
def RR (th : Int32) (R8 : Int32 × Int32 × Int32 × Int32 × Int32 × Int32 × Int32 × Int32 × (Nat → Int32) × (Nat → Int32) × Int32) (R9 : Int32 × Int32 × Int32 × Int32 × Int32 × (Nat → Int32)) : Prop :=
  (R9.1 = -6 ∧ R8.2.2.2.2.2.2.2.2.2.2 = 0 ∧ R8.1 = R9.2.2.2.2.1 ∧ R8.2.1 = R9.2.1 ∧ R8.2.2.1 = R9.2.2.1 ∧ RV th R8.2.2.2.1 R8.2.2.2.2.1 R8.2.2.2.2.2.1 R8.2.2.2.2.2.2.1 R8.2.2.2.2.2.2.2.1 R8.2.2.2.2.2.2.2.2.1 R8.2.2.2.2.2.2.2.2.2.1 R9.2.2.2.2.2) ∨
  (¬ R9.1 < 0 ∧ R8.1 = R9.1 ∧ R8.2.2.2.2.2.2.2.2.2.2 = R9.2.2.2.1 ∧ ¬ R8.2.2.2.2.2.2.2.2.2.2 ≤ 0)
theorem gwE_0 (th : Int32) (n : Nat) (pad : Nat → Int32) (k : Nat) (a ha ht : Int32) (A : Int32 × (Nat → Int32)) (v' : Nat) (h : A.1 = 0) : gwE th n pad k a ha ht A v' = lp_X9_goWeeks_11 th n pad k 0 (a + 1) ha ht A.2 v' := by
  unfold gwE
  rw [h, if_pos (by decide)]
theorem gwE_1 (th : Int32) (n : Nat) (pad : Nat → Int32) (k : Nat) (a ha ht : Int32) (A : Int32 × (Nat → Int32)) (v' : Nat) (h : ¬ A.1 ≤ 0) : gwE th n pad k a ha ht A v' = (a, ha, ht, A.1, a, A.2) := by
  unfold gwE
  rw [if_neg h]
theorem week_run (th : Int32) (n U : Nat) (hn : n < 1000) (hU : U < 1000) (pad K P N : Nat → Int32) : ∀ (f v u g k2 c : Nat) (hA hT fr he wi oi ho r : Int32) (pts trd now : Nat → Int32), PA n U pad K P N f v u → f < g → U ≤ u + k2 → c + f < 2000 → (hA = -6 ∨ 0 ≤ hA) → RV th fr he wi oi ho pts trd now →
    RR th (lp_X6_tryAll_22 th (nI U) K P N k2 u (nI c) hA hT fr he wi oi ho pts trd 0) (lp_X9_goWeeks_11 th n pad g r (nI c) hA hT now v) := by
  intro f
  have fin : ∀ (g k2 c : Nat) (hA hT fr he wi oi ho r : Int32) (pts trd now : Nat → Int32), 0 < g → RV th fr he wi oi ho pts trd now → RR th (lp_X6_tryAll_22 th (nI U) K P N k2 U (nI c) hA hT fr he wi oi ho pts trd 0) (lp_X9_goWeeks_11 th n pad g r (nI c) hA hT now n) := fun g k2 c hA hT fr he wi oi ho r pts trd now hg h => by
    obtain ⟨g, rfl⟩ : ∃ x, g = x + 1 := ⟨g - 1, by omega⟩
    rw [t22_end th U hU, gw_s, if_pos (nI_le (Nat.le_refl _) (by omega))]
    exact Or.inl ⟨rfl, rfl, rfl, rfl, rfl, h⟩
  induction f with
  | zero =>
    intro v u g k2 c hA hT fr he wi oi ho r pts trd now hp hg hk hc hh h
    obtain ⟨rfl, rfl⟩ := hp
    exact fin _ _ _ _ _ _ _ _ _ _ _ _ _ _ (by omega) h
  | succ f ih =>
    intro v u g k2 c hA hT fr he wi oi ho r pts trd now hp hg hk hc hh h
    rcases hp with ⟨rfl, rfl⟩ | ⟨hv, hu, v', ha, hp⟩
    · exact fin _ _ _ _ _ _ _ _ _ _ _ _ _ _ (by omega) h
    · obtain ⟨g, rfl⟩ : ∃ x, g = x + 1 := ⟨g - 1, by omega⟩
      obtain ⟨k2, rfl⟩ : ∃ x, k2 = x + 1 := ⟨k2 - 1, by omega⟩
      obtain ⟨e1, e2⟩ := act_all h (pact_ok ha)
      rw [t22_s, if_neg (nI_ge hu (by omega)), if_pos rfl, gw_act ha th n g r (nI c) hA hT now hv (by omega)]
      generalize hAA : act9 th now (K u) (P u) (N u) = A at e1 e2 ⊢
      have hval : A.1 = 0 ∨ ¬ A.1 ≤ 0 := by rw [← hAA]; exact a9_val _ _ _ _ _
      rcases hval with z | z
      · have hco := e2 z
        rw [z] at e1
        rw [try_yes e1, gwE_0 _ _ _ _ _ _ _ _ _ z, gwE_0 _ _ _ _ _ _ _ _ _ z, if_pos z, ← nI_succ]
        dsimp only
        have e15 : (f_X7_carryOut th fr he wi oi ho pts trd (K u) (P u) (N u)).2.1 = A.2 15 := hco.2.2.1.1
        have ehe : he = now 15 := h.2.2.1.1
        have run := fun (hA' hT' : Int32) (hh' : hA' = -6 ∨ 0 ≤ hA') => ih v' (u + 1) g k2 (c + 1) hA' hT' _ _ _ _ _ 0 _ _ _ hp (by omega) (by omega) (by omega) hh' hco
        by_cases c5 : K u = 5
        · rw [if_pos c5]
          have hsame : (f_X7_carryOut th fr he wi oi ho pts trd (K u) (P u) (N u)).2.1 = he := by
            rw [c5]; unfold f_X7_carryOut; rw [if_neg (by decide), if_neg (by decide), if_neg (by decide), if_neg (by decide), if_neg (by decide)]
          have hz : he &&& (he ^^^ (-1 : Int32)) = 0 := by
            obtain ⟨x, hx, ex⟩ := h.2.2.1.2
            rw [ehe, ex]; exact tb_self x hx
          have q1 : heldA hA (nI c) he (f_X7_carryOut th fr he wi oi ho pts trd (K u) (P u) (N u)).2.1 = hA := by
            rw [hsame]; unfold heldA; rw [if_pos hz, ite_self]
          have q2 : heldT hA hT (N u) he (f_X7_carryOut th fr he wi oi ho pts trd (K u) (P u) (N u)).2.1 = hT := by
            rw [hsame]; unfold heldT; rw [if_pos hz, ite_self]
          rw [q1, q2]
          exact run hA hT hh
        · rw [if_neg c5]
          rcases hh with rfl | hh
          · rw [if_neg (show ¬ (0 : Int32) ≤ -6 by decide), ← e15, ← ehe]
            unfold heldA heldT
            rw [if_pos rfl, if_pos rfl]
            by_cases c6 : (f_X7_carryOut th fr he wi oi ho pts trd (K u) (P u) (N u)).2.1 &&& (he ^^^ (-1 : Int32)) = 0
            · rw [if_pos c6, if_pos c6, if_pos c6]; exact run (-6) hT (Or.inl rfl)
            · rw [if_neg c6, if_neg c6, if_neg c6]; exact run (nI c) (N u) (Or.inr (nI_pos' (by omega)))
          · have hne : ¬ hA = -6 := fun e => by rw [e] at hh; exact absurd hh (by decide)
            rw [if_pos hh]
            unfold heldA heldT
            rw [if_neg hne, if_neg hne]; exact run hA hT (Or.inr hh)
      · have hne : ¬ f_X7_reasonAgainst th fr wi oi ho pts (K u) (P u) (N u) = 0 := fun e => by rw [← e1, e] at z; exact z (by decide)
        have hne' : ¬ A.1 = 0 := fun e => by rw [e] at z; exact z (by decide)
        rw [try_no hne]
        dsimp only
        rw [t22_stop _ _ _ _ _ _ _ _ _ _ _ _ _ _ _ _ _ _ hne, gwE_1 _ _ _ _ _ _ _ _ _ z, if_neg hne']
        have fin2 : RR th (nI c, hA, hT, fr, he, wi, oi, ho, pts, trd, f_X7_reasonAgainst th fr wi oi ho pts (K u) (P u) (N u)) (nI c, hA, hT, A.1, nI c, A.2) := Or.inr ⟨nI_pos (by omega), rfl, e1, (by rw [← e1] at z; exact z)⟩
        by_cases c5 : K u = 5
        · rw [if_pos c5]; exact fin2
        · rw [if_neg c5, ite_self]; exact fin2
