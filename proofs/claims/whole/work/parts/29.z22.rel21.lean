def TT (th : Int32) (q : Nat) : Prop := ¬ f_X9_isThere th (nI q) = 0
def BST (th : Int32) (t : Nat → Nat) (a b r : Nat) : Prop := a ≤ r ∧ r < b ∧ TT th r ∧ ∀ q, a ≤ q → q < b → TT th q → t q ≤ t r ∧ (q < r → t q < t r)
theorem mt7 {th : Int32} (ht : rng th 128) (trd : Nat → Int32) (t : Nat → Nat) (h : ∀ q, q < 7 → trd q = nI (t q) ∧ t q < 10) : ∀ (k i : Nat) (v1 v2 : Int32), i + k = 7 → ((v1 = -6 ∧ v2 = -1 ∧ ∀ q, q < i → ¬ TT th q) ∨ ∃ r, v1 = nI r ∧ v2 = nI (t r) ∧ BST th t 0 i r) →
    (((lp_X7_mostTired_7 th trd k i v1 v2).1 = -6 ∧ ∀ q, q < 7 → ¬ TT th q) ∨ ∃ r, (lp_X7_mostTired_7 th trd k i v1 v2).1 = nI r ∧ BST th t 0 7 r) := by
  intro k
  induction k with
  | zero =>
    intro i v1 v2 hi h
    have : i = 7 := by omega
    subst this
    rcases h with ⟨a, _, b⟩ | ⟨r, a, _, b⟩
    · exact Or.inl ⟨a, b⟩
    · exact Or.inr ⟨r, a, b⟩
  | succ k ih =>
    intro i v1 v2 hi hh
    have e : lp_X7_mostTired_7 th trd (k + 1) i v1 v2 = (if f_X7_isThere th (nI i) = 0 then lp_X7_mostTired_7 th trd k (i + 1) v1 v2 else (if trd i ≤ v2 then lp_X7_mostTired_7 th trd k (i + 1) v1 v2 else lp_X7_mostTired_7 th trd k (i + 1) (nI i) (trd i))) := rfl
    obtain ⟨ei, hi10⟩ := h i (by omega)
    rw [e, there_eq ht, ei]
    have keep : (∀ r, (∃ v : Nat, BST th t 0 i r) → TT th i → t i ≤ t r) → (∀ q, q < i → ¬ TT th q) ∧ TT th i → False ∨ True := fun _ _ => Or.inr trivial
    by_cases c1 : f_X9_isThere th (nI i) = 0
    · rw [if_pos c1]
      refine ih (i + 1) v1 v2 (by omega) ?_
      rcases hh with ⟨a, b, c⟩ | ⟨r, a, b, c1', c2, c3, c4⟩
      · refine Or.inl ⟨a, b, fun q hq => ?_⟩
        by_cases d : q = i
        · subst d; exact fun z => z c1
        · exact c q (by omega)
      · refine Or.inr ⟨r, a, b, c1', by omega, c3, fun q h1 h2 h3 => ?_⟩
        by_cases d : q = i
        · subst d; exact absurd c1 h3
        · exact c4 q h1 (by omega) h3
    · rw [if_neg c1]
      rcases hh with ⟨a, b, c⟩ | ⟨r, a, b, c1', c2, c3, c4⟩
      · rw [b, if_neg (show ¬ nI (t i) ≤ -1 from fun z => nI_pos (n := t i) (by omega) (Int32.lt_of_le_of_lt z (by decide)))]
        refine ih (i + 1) _ _ (by omega) (Or.inr ⟨i, rfl, rfl, by omega, by omega, c1, fun q h1 h2 h3 => ?_⟩)
        by_cases d : q = i
        · subst d; exact ⟨Nat.le_refl _, fun z => absurd z (by omega)⟩
        · exact absurd h3 (c q (by omega))
      · have hr10 := (h r (by omega)).2
        rw [b]
        by_cases d0 : t i ≤ t r
        · rw [if_pos (nI_le d0 (by omega)), ← b]
          refine ih (i + 1) _ _ (by omega) (Or.inr ⟨r, a, b, c1', by omega, c3, fun q h1 h2 h3 => ?_⟩)
          by_cases d : q = i
          · subst d; exact ⟨d0, fun z => absurd z (by omega)⟩
          · exact c4 q h1 (by omega) h3
        · rw [if_neg (nI_ge (by omega) (by omega))]
          refine ih (i + 1) _ _ (by omega) (Or.inr ⟨i, rfl, rfl, by omega, by omega, c1, fun q h1 h2 h3 => ?_⟩)
          by_cases d : q = i
          · subst d; exact ⟨Nat.le_refl _, fun z => absurd z (by omega)⟩
          · have := (c4 q h1 (by omega) h3).1
            exact ⟨by omega, fun _ => by omega⟩
theorem mt6 {th : Int32} (now : Nat → Int32) (t : Nat → Nat) (h : ∀ q, q < 7 → now (7 + q) = nI (t q) ∧ t q < 10) : ∀ (k : Nat) (v1 : Int32), k ≤ 7 → ((v1 = -6 ∧ ∀ q, k ≤ q → q < 7 → ¬ TT th q) ∨ ∃ r, v1 = nI r ∧ BST th t k 7 r) →
    ((lp_X9_mostTired_6 th now k v1 = -6 ∧ ∀ q, q < 7 → ¬ TT th q) ∨ ∃ r, lp_X9_mostTired_6 th now k v1 = nI r ∧ BST th t 0 7 r) := by
  intro k
  induction k with
  | zero =>
    intro v1 _ h
    rcases h with ⟨a, b⟩ | ⟨r, a, b⟩
    · exact Or.inl ⟨a, fun q hq => b q (by omega) hq⟩
    · exact Or.inr ⟨r, a, b⟩
  | succ k ih =>
    intro v1 hk hh
    have e : lp_X9_mostTired_6 th now (k + 1) v1 = (if f_X9_isThere th (nI k) = 0 then lp_X9_mostTired_6 th now k v1 else (if v1 < 0 then lp_X9_mostTired_6 th now k (nI k) else (if now (7 + k) < now ((7 : Int32) + v1).toNatClampNeg then lp_X9_mostTired_6 th now k v1 else lp_X9_mostTired_6 th now k (nI k)))) := rfl
    obtain ⟨ei, hi10⟩ := h k (by omega)
    rw [e]
    by_cases c1 : f_X9_isThere th (nI k) = 0
    · rw [if_pos c1]
      refine ih v1 (by omega) ?_
      rcases hh with ⟨a, c⟩ | ⟨r, a, c1', c2, c3, c4⟩
      · refine Or.inl ⟨a, fun q hq hq7 => ?_⟩
        by_cases d : q = k
        · subst d; exact fun z => z c1
        · exact c q (by omega) hq7
      · refine Or.inr ⟨r, a, by omega, c2, c3, fun q h1 h2 h3 => ?_⟩
        by_cases d : q = k
        · subst d; exact absurd c1 h3
        · exact c4 q (by omega) h2 h3
    · rw [if_neg c1]
      rcases hh with ⟨a, c⟩ | ⟨r, a, c1', c2, c3, c4⟩
      · rw [a, if_pos (show (-6 : Int32) < 0 by decide)]
        refine ih _ (by omega) (Or.inr ⟨k, rfl, by omega, by omega, c1, fun q h1 h2 h3 => ?_⟩)
        by_cases d : q = k
        · subst d; exact ⟨Nat.le_refl _, fun z => absurd z (by omega)⟩
        · exact absurd h3 (c q (by omega) h2)
      · obtain ⟨er, hr10⟩ := h r c2
        rw [a, if_neg (nI_pos (by omega)), show (7 : Int32) + nI r = nI (7 + r) from nI_add 7 r, nI_clamp (show 7 + r < 2 ^ 31 by omega), ei, er]
        by_cases d0 : t k < t r
        · rw [if_pos (nI_lt d0 (by omega))]
          refine ih _ (by omega) (Or.inr ⟨r, rfl, by omega, c2, c3, fun q h1 h2 h3 => ?_⟩)
          by_cases d : q = k
          · subst d; exact ⟨by omega, fun _ => d0⟩
          · exact c4 q (by omega) h2 h3
        · rw [if_neg (nI_nlt (by omega) (by omega))]
          refine ih _ (by omega) (Or.inr ⟨k, rfl, by omega, by omega, c1, fun q h1 h2 h3 => ?_⟩)
          by_cases d : q = k
          · subst d; exact ⟨Nat.le_refl _, fun z => absurd z (by omega)⟩
          · have := (c4 q (by omega) h2 h3).1
            exact ⟨by omega, fun z => absurd z (by omega)⟩
theorem most_eq {th fr he wi oi ho : Int32} {pts trd now : Nat → Int32} (h : RV th fr he wi oi ho pts trd now) : f_X7_mostTired th trd = f_X9_mostTired th now := by
  have hq : ∀ q, q < 7 → now (7 + q) = nI (now (7 + q)).toNatClampNeg ∧ (now (7 + q)).toNatClampNeg < 10 := fun q hq => by
    obtain ⟨j, hj, e⟩ := (h.1 q hq).2.2
    rw [e, nI_clamp (show j < 2 ^ 31 by omega)]; exact ⟨rfl, hj⟩
  have a := mt7 h.2.2.2.2.2.2 trd (fun q => (now (7 + q)).toNatClampNeg) (fun q hq' => by rw [(h.1 q hq').2.1]; exact hq q hq') 7 0 (-6) (-1) rfl (Or.inl ⟨rfl, rfl, fun q hq => absurd hq (by omega)⟩)
  have b := mt6 (th := th) now (fun q => (now (7 + q)).toNatClampNeg) hq 7 (-6) (Nat.le_refl _) (Or.inl ⟨rfl, fun q h1 h2 => absurd h1 (by omega)⟩)
  unfold f_X7_mostTired f_X9_mostTired
  rcases a with ⟨a1, a2⟩ | ⟨r, a1, a2⟩
  · rcases b with ⟨b1, b2⟩ | ⟨s, b1, b2⟩
    · rw [a1, b1]
    · exact absurd b2.2.2.1 (a2 s b2.2.1)
  · rcases b with ⟨b1, b2⟩ | ⟨s, b1, b2⟩
    · exact absurd a2.2.2.1 (b2 r a2.2.1)
    · rw [a1, b1]
      have e : r = s := by
        rcases Nat.lt_trichotomy r s with d | d | d
        · have x1 := (b2.2.2.2 r (by omega) a2.2.1 a2.2.2.1).2 d
          have x2 := (a2.2.2.2 s (by omega) b2.2.1 b2.2.2.1).1
          omega
        · exact d
        · have x1 := (a2.2.2.2 s (by omega) b2.2.1 b2.2.2.1).2 d
          have x2 := (b2.2.2.2 r (by omega) a2.2.1 a2.2.2.1).1
          omega
      rw [e]
