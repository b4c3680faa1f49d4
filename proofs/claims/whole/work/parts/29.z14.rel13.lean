theorem fo_z (n : Nat) (pad : Nat → Int32) (i : Nat) (s : Int32) : lp_X9_faultOf_4 n pad 0 i s = if s = 0 then -6 else nI n := rfl
theorem fo_0 (n : Nat) (pad : Nat → Int32) (k i : Nat) : lp_X9_faultOf_4 n pad (k + 1) i 0 = if pad i = 119 then lp_X9_faultOf_4 n pad k (i + 1) 2 else if pad i = 118 then lp_X9_faultOf_4 n pad k (i + 1) 2 else if f_X9_in (pad i) 65 71 = 0 then (if pad i = 46 then lp_X9_faultOf_4 n pad k (i + 1) 0 else nI i) else lp_X9_faultOf_4 n pad k (i + 1) 1 := by
  have a1 : f_X9_in 119 65 71 = 0 := by decide
  have a2 : f_X9_in 118 65 71 = 0 := by decide
  have a3 : (0 : Int32) ≤ 0 := by decide
  rw [lp_X9_faultOf_4]
  by_cases h1 : pad i = 119
  · rw [if_pos h1, if_pos h1, if_pos rfl, h1, if_pos a1, if_pos a3]
  · rw [if_neg h1, if_neg h1]
    by_cases h2 : pad i = 118
    · rw [if_pos h2, if_pos h2, if_pos rfl, h2, if_pos a2, if_pos a3]
    · rw [if_neg h2, if_neg h2, if_pos rfl]
      by_cases h3 : f_X9_in (pad i) 65 71 = 0
      · rw [if_pos h3, if_pos h3]
      · rw [if_neg h3, if_neg h3, if_pos a3]
theorem fo_1 (n : Nat) (pad : Nat → Int32) (k i : Nat) : lp_X9_faultOf_4 n pad (k + 1) i 1 = if f_X9_in (pad i) 48 55 = 0 then (if pad i = 42 then lp_X9_faultOf_4 n pad k (i + 1) 0 else if pad i = 35 then lp_X9_faultOf_4 n pad k (i + 1) 0 else nI i) else lp_X9_faultOf_4 n pad k (i + 1) 0 := by
  have a1 : ¬ (1 : Int32) = 0 := by decide
  have a3 : ¬ (1 : Int32) ≤ 0 := by decide
  rw [lp_X9_faultOf_4]
  rw [if_neg a1, if_neg a3, if_pos (show (1 : Int32) = 1 from rfl)]
  by_cases h1 : pad i = 119
  · rw [if_pos h1]
  · rw [if_neg h1]
    by_cases h2 : pad i = 118
    · rw [if_pos h2]
    · rw [if_neg h2, if_neg a1, if_neg a3, if_pos (show (1 : Int32) = 1 from rfl)]
theorem fo_2 (n : Nat) (pad : Nat → Int32) (k i : Nat) : lp_X9_faultOf_4 n pad (k + 1) i 2 = if f_X9_in (pad i) 48 55 = 0 then nI i else lp_X9_faultOf_4 n pad k (i + 1) 0 := by
  have a1 : ¬ (2 : Int32) = 0 := by decide
  have a2 : ¬ (2 : Int32) = 1 := by decide
  have a3 : ¬ (2 : Int32) ≤ 0 := by decide
  rw [lp_X9_faultOf_4]
  rw [if_neg a1, if_neg a3, if_neg a2]
  by_cases h1 : pad i = 119
  · rw [if_pos h1]
  · rw [if_neg h1]
    by_cases h2 : pad i = 118
    · rw [if_pos h2]
    · rw [if_neg h2, if_neg a1, if_neg a3, if_neg a2]
theorem rd_z (n : Nat) (sg : Nat → Int32) (i : Nat) (u h : Int32) (r2 r3 r4 : Nat → Int32) : (lp_X3_read_9 n sg 0 i u r2 r3 r4 h).1 = if h = 0 then -6 else nI n := by
  rw [lp_X3_read_9]
  by_cases c : h = 0
  · rw [if_pos c, if_pos c]
  · rw [if_neg c, if_neg c]
theorem rd_s (n : Nat) (sg : Nat → Int32) (k i : Nat) (u h : Int32) (r2 r3 r4 : Nat → Int32) : lp_X3_read_9 n sg (k + 1) i u r2 r3 r4 h = (if h = 0 then (if sg i = 46 then lp_X3_read_9 n sg k (i + 1) (f_X3_addAct u r2 r3 r4 5 0 0).1 (f_X3_addAct u r2 r3 r4 5 0 0).2.1 (f_X3_addAct u r2 r3 r4 5 0 0).2.2.1 (f_X3_addAct u r2 r3 r4 5 0 0).2.2.2 h else (if f_X3_isHead (sg i) = 0 then (nI i, u, r2, r3, r4) else lp_X3_read_9 n sg k (i + 1) u r2 r3 r4 (sg i))) else (if f_X3_kindOf h (sg i) = -6 then (nI i, u, r2, r3, r4) else lp_X3_read_9 n sg k (i + 1) (f_X3_addAct u r2 r3 r4 (f_X3_kindOf h (sg i)) (h - 65) (sg i - 48)).1 (f_X3_addAct u r2 r3 r4 (f_X3_kindOf h (sg i)) (h - 65) (sg i - 48)).2.1 (f_X3_addAct u r2 r3 r4 (f_X3_kindOf h (sg i)) (h - 65) (sg i - 48)).2.2.1 (f_X3_addAct u r2 r3 r4 (f_X3_kindOf h (sg i)) (h - 65) (sg i - 48)).2.2.2 0)) := rfl
theorem tb_head : ∀ j : Nat, j < 127 → 33 ≤ j → (if nI j = 119 then ¬ f_X3_isHead (nI j) = 0 ∧ ¬ nI j = 46 else if nI j = 118 then ¬ f_X3_isHead (nI j) = 0 ∧ ¬ nI j = 46 else if f_X9_in (nI j) 65 71 = 0 then f_X3_isHead (nI j) = 0 else ¬ f_X3_isHead (nI j) = 0 ∧ ¬ nI j = 46 ∧ 65 ≤ j ∧ j ≤ 71) := by decide +kernel
theorem tb_kind2 : ∀ j : Nat, j < 127 → 33 ≤ j → ((f_X3_kindOf 119 (nI j) = -6 ↔ f_X9_in (nI j) 48 55 = 0) ∧ (f_X3_kindOf 118 (nI j) = -6 ↔ f_X9_in (nI j) 48 55 = 0)) := by decide +kernel
def knd1 (h j : Nat) : Bool := if f_X9_in (nI j) 48 55 = 0 then (if nI j = 42 then !decide (f_X3_kindOf (nI h) (nI j) = -6) else if nI j = 35 then !decide (f_X3_kindOf (nI h) (nI j) = -6) else decide (f_X3_kindOf (nI h) (nI j) = -6)) else !decide (f_X3_kindOf (nI h) (nI j) = -6)
theorem tb_kind0 : ∀ h : Nat, h < 7 → ∀ j : Nat, j < 127 → knd1 (65 + h) j = true := by decide +kernel
theorem tb_kind1 (h : Nat) (h1 : h < 72) (h2 : 65 ≤ h) (j : Nat) (j1 : j < 127) (_ : 33 ≤ j) : if f_X9_in (nI j) 48 55 = 0 then (if nI j = 42 then ¬ f_X3_kindOf (nI h) (nI j) = -6 else if nI j = 35 then ¬ f_X3_kindOf (nI h) (nI j) = -6 else f_X3_kindOf (nI h) (nI j) = -6) else ¬ f_X3_kindOf (nI h) (nI j) = -6 := by
  have t := tb_kind0 (h - 65) (by omega) j j1
  rw [show 65 + (h - 65) = h by omega] at t
  unfold knd1 at t
  by_cases c1 : f_X9_in (nI j) 48 55 = 0
  · rw [if_pos c1] at t ⊢
    by_cases c2 : nI j = 42
    · rw [if_pos c2] at t ⊢; simpa using t
    · rw [if_neg c2] at t ⊢
      by_cases c3 : nI j = 35
      · rw [if_pos c3] at t ⊢; simpa using t
      · rw [if_neg c3] at t ⊢; simpa using t
  · rw [if_neg c1] at t ⊢; simpa using t
def FH (h st : Int32) : Prop := (h = 0 ∧ st = 0) ∨ ((∃ j : Nat, 65 ≤ j ∧ j ≤ 71 ∧ h = nI j) ∧ st = 1) ∨ ((h = 119 ∨ h = 118) ∧ st = 2)
theorem fault_loop (n : Nat) (sg pad : Nat → Int32) (hp : ∀ q, q < n → sg q = pad q ∧ ∃ j : Nat, 33 ≤ j ∧ j ≤ 126 ∧ pad q = nI j) : ∀ (k i : Nat) (u h st : Int32) (r2 r3 r4 : Nat → Int32), i + k = n → FH h st → (lp_X3_read_9 n sg k i u r2 r3 r4 h).1 = lp_X9_faultOf_4 n pad k i st := by
  intro k
  induction k with
  | zero =>
    intro i u h st r2 r3 r4 hi hh
    rw [rd_z, fo_z]
    rcases hh with ⟨rfl, rfl⟩ | ⟨⟨j, j1, j2, rfl⟩, rfl⟩ | ⟨rfl | rfl, rfl⟩
    · rfl
    · rw [if_neg (nI_ne0 (by omega) (by omega)), if_neg (by decide)]
    · rw [if_neg (by decide), if_neg (by decide)]
    · rw [if_neg (by decide), if_neg (by decide)]
  | succ k ih =>
    intro i u h st r2 r3 r4 hi hh
    obtain ⟨es, j, j1, j2, ej⟩ := hp i (by omega)
    rw [rd_s, es, ej]
    rcases hh with ⟨rfl, rfl⟩ | ⟨⟨hj, h1, h2, rfl⟩, rfl⟩ | ⟨hh, rfl⟩
    · rw [if_pos rfl, fo_0, ej]
      have t := tb_head j (by omega) j1
      by_cases c1 : nI j = 119
      · rw [if_pos c1] at t
        rw [if_neg t.2, if_neg t.1, if_pos c1]
        exact ih _ _ _ _ _ _ _ (by omega) (Or.inr (Or.inr ⟨Or.inl c1, rfl⟩))
      · rw [if_neg c1] at t ⊢
        by_cases c2 : nI j = 118
        · rw [if_pos c2] at t
          rw [if_neg t.2, if_neg t.1, if_pos c2]
          exact ih _ _ _ _ _ _ _ (by omega) (Or.inr (Or.inr ⟨Or.inr c2, rfl⟩))
        · rw [if_neg c2] at t ⊢
          by_cases c3 : f_X9_in (nI j) 65 71 = 0
          · rw [if_pos c3] at t ⊢
            by_cases c4 : nI j = 46
            · rw [if_pos c4, if_pos c4]; exact ih _ _ _ _ _ _ _ (by omega) (Or.inl ⟨rfl, rfl⟩)
            · rw [if_neg c4, if_neg c4, if_pos t]
          · rw [if_neg c3] at t ⊢
            rw [if_neg t.2.1, if_neg t.1]
            exact ih _ _ _ _ _ _ _ (by omega) (Or.inr (Or.inl ⟨⟨j, t.2.2.1, t.2.2.2, rfl⟩, rfl⟩))
    · rw [if_neg (nI_ne0 (by omega) (by omega)), fo_1, ej]
      have t := tb_kind1 hj (by omega) h1 j (by omega) j1
      have z : FH 0 0 := Or.inl ⟨rfl, rfl⟩
      by_cases c1 : f_X9_in (nI j) 48 55 = 0
      · rw [if_pos c1] at t ⊢
        by_cases c2 : nI j = 42
        · rw [if_pos c2] at t ⊢
          rw [if_neg t]; exact ih _ _ _ _ _ _ _ (by omega) z
        · rw [if_neg c2] at t ⊢
          by_cases c3 : nI j = 35
          · rw [if_pos c3] at t ⊢
            rw [if_neg t]; exact ih _ _ _ _ _ _ _ (by omega) z
          · rw [if_neg c3] at t ⊢
            rw [if_pos t]
      · rw [if_neg c1] at t ⊢
        rw [if_neg t]; exact ih _ _ _ _ _ _ _ (by omega) z
    · have t := tb_kind2 j (by omega) j1
      have hne : ¬ h = 0 := by rcases hh with rfl | rfl <;> decide
      have t' : f_X3_kindOf h (nI j) = -6 ↔ f_X9_in (nI j) 48 55 = 0 := by rcases hh with rfl | rfl; exact t.1; exact t.2
      rw [if_neg hne, fo_2, ej]
      by_cases c1 : f_X9_in (nI j) 48 55 = 0
      · rw [if_pos c1, if_pos (t'.mpr c1)]
      · rw [if_neg c1, if_neg (fun h => c1 (t'.mp h))]
        exact ih _ _ _ _ _ _ _ (by omega) (Or.inl ⟨rfl, rfl⟩)
theorem fault_eq (n : Nat) (sg pad : Nat → Int32) (hp : ∀ q, q < n → sg q = pad q ∧ ∃ j : Nat, 33 ≤ j ∧ j ≤ 126 ∧ pad q = nI j) (r2 r3 r4 : Nat → Int32) : (f_X3_read n sg r2 r3 r4).1 = f_X9_faultOf n pad :=
  fault_loop n sg pad hp n 0 0 0 0 r2 r3 r4 (by omega) (Or.inl ⟨rfl, rfl⟩)
