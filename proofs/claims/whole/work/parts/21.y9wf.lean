/-! the text on the pad, read from a place on, has no fault -/
def wfp (sg : Nat) (pad : Nat → Int32) (k : Nat) : Prop := lp_X9_faultOf_4 sg pad (sg - k) k 0 = -6
theorem nI_m6 (n : Nat) (h : n < 2 ^ 31) : ¬ nI n = -6 := by
  intro e
  have := congrArg Int32.toInt e
  rw [nI_toInt h] at this
  have h6 : (-6 : Int32).toInt = -6 := by decide
  rw [h6] at this
  omega
theorem wf_dot {sg : Nat} {pad : Nat → Int32} {k : Nat} (h : wfp sg pad k) (hk : k < sg) (hd : pad k = 46) : wfp sg pad (k + 1) := by
  unfold wfp at *
  obtain ⟨j, hj⟩ : ∃ j, sg - k = j + 1 := ⟨sg - k - 1, by omega⟩
  rw [hj, lp_X9_faultOf_4, hd] at h
  rw [show sg - (k + 1) = j by omega]
  exact h
theorem wf_two {sg : Nat} {pad : Nat → Int32} {k : Nat} (hs : sg < 2 ^ 31) (h : wfp sg pad k) (hk : k < sg) (hd : ¬ pad k = 46) : k + 1 < sg ∧ wfp sg pad (k + 2) := by
  unfold wfp at *
  obtain ⟨j, hj⟩ : ∃ j, sg - k = j + 1 := ⟨sg - k - 1, by omega⟩
  have key : ∃ st : Int32, (¬ st = 0 ∧ ¬ st ≤ 0) ∧ lp_X9_faultOf_4 sg pad j (k + 1) st = -6 := by
    rw [hj, lp_X9_faultOf_4] at h
    simp only [show ((0 : Int32) = 0) = True from eq_self 0, show ((0 : Int32) ≤ 0) = True from eq_true (by decide), if_true] at h
    repeat' split at h
    all_goals first
      | exact absurd h (nI_m6 _ (by omega))
      | exact ⟨1, ⟨by decide, by decide⟩, h⟩
      | exact ⟨2, ⟨by decide, by decide⟩, h⟩
      | exact absurd (by assumption) hd
  obtain ⟨st, ⟨h0, h2⟩, h1⟩ := key
  cases j with
  | zero =>
    rw [lp_X9_faultOf_4, if_neg h0] at h1
    exact absurd h1 (nI_m6 _ hs)
  | succ j =>
    refine ⟨by omega, ?_⟩
    rw [show sg - (k + 2) = j by omega]
    rw [lp_X9_faultOf_4] at h1
    simp only [if_neg h0] at h1
    simp only [if_neg h2] at h1
    repeat' split at h1
    all_goals first
      | exact absurd h1 (nI_m6 _ (by omega))
      | exact h1
theorem lp_fault_cases (sg : Nat) (pad : Nat → Int32) : ∀ (k i : Nat) (st : Int32), i + k = sg → ∃ t, lp_X9_faultOf_4 sg pad k i st = t ∧ (t = -6 ∨ ∃ j, j ≤ sg ∧ t = nI j) := by
  intro k
  induction k with
  | zero =>
    intro i st h
    rw [lp_X9_faultOf_4]
    split
    · exact ⟨_, rfl, Or.inl rfl⟩
    · exact ⟨_, rfl, Or.inr ⟨sg, Nat.le_refl _, rfl⟩⟩
  | succ k ih =>
    intro i st h
    rw [lp_X9_faultOf_4]
    repeat' split
    all_goals first
      | exact ih _ _ (by omega)
      | exact ⟨_, rfl, Or.inr ⟨i, by omega, rfl⟩⟩
theorem wf_of {sg : Nat} {pad : Nat → Int32} (hs : sg ≤ 60) (h : ¬ 0 ≤ f_X9_faultOf sg pad) : wfp sg pad 0 := by
  unfold wfp
  unfold f_X9_faultOf at h
  obtain ⟨t, e, q | ⟨j, hj, q⟩⟩ := lp_fault_cases sg pad sg 0 0 (by omega)
  · rw [← q]; exact e
  · rw [e, q] at h
    exact absurd (nI_pos' (by omega)) h
theorem and_in {a n : Nat} {x : Int32} (h : a < n) (hn : n < 2 ^ 31) : vp_in (nI a &&& x) n := by
  have e : nI a &&& x = nI (a &&& x.toBitVec.toNat) := by
    apply Int32.toBitVec_inj.mp
    rw [Int32.toBitVec_and]
    apply BitVec.eq_of_toNat_eq
    rw [BitVec.toNat_and, pk_tn (by omega), pk_tn (Nat.lt_of_le_of_lt Nat.and_le_left (by omega))]
  rw [e]
  exact vp_in_nI (Nat.lt_of_le_of_lt Nat.and_le_left h) hn
theorem rngIn {x : Int32} {a b : Nat} (ha : a < 2 ^ 31) (hb : b < 2 ^ 31) (h : ¬ f_X9_in x (nI a) (nI b) = 0) : x = nI x.toNatClampNeg ∧ a ≤ x.toNatClampNeg ∧ x.toNatClampNeg ≤ b := by
  unfold f_X9_in at h
  split at h
  · exact absurd rfl h
  · split at h
    · exact absurd rfl h
    · next h0 h1 => exact rng2 ha hb h0 h1
theorem vp_7wp {w q : Int32} (h1 : ¬ f_X9_in w 0 2 = 0) (h2 : ¬ w = 2) (h3 : vp_in q 7) : vp_in (7 * w + q) 19 := by
  obtain ⟨e, -, hb⟩ := rngIn (a := 0) (b := 2) (by decide) (by decide) h1
  obtain ⟨j, hj, rfl⟩ := vp_in_of h3 (by decide)
  generalize w.toNatClampNeg = i at e hb
  subst e
  have : i ≠ 2 := fun q => h2 (by rw [q]; rfl)
  rw [show (7 : Int32) * nI i = nI (7 * i) from pk_mul 7 i, nI_add]
  exact vp_in_nI (by omega) (by decide)
theorem pow_s0 {v : Int32} {i : Nat} (h : v = nI (10 ^ (i - 1))) (hi : i < 2 ^ 31) (c : nI i ≤ 0) : v * 1 = nI (10 ^ (i + 1 - 1)) := by
  have : i ≤ 0 := of_le (b := 0) hi (by decide) c
  obtain rfl : i = 0 := by omega
  subst h
  rfl
theorem pow_s1 {v : Int32} {i : Nat} (h : v = nI (10 ^ (i - 1))) (hi : i < 2 ^ 31) (c : ¬ nI i ≤ 0) : v * 10 = nI (10 ^ (i + 1 - 1)) := by
  have : 0 < i := of_nle (a := 0) (b := i) (by decide) hi c
  subst h
  rw [show nI (10 ^ (i - 1)) * 10 = nI (10 ^ (i - 1) * 10) from pk_mul _ 10, show i + 1 - 1 = (i - 1) + 1 by omega, Nat.pow_succ]
theorem pow_lt {k : Nat} (hk : k ≤ 8) : 10 ^ k < 2 ^ 31 := Nat.lt_of_le_of_lt (Nat.pow_le_pow_right (by decide) hk) (by decide)
theorem pow_ne {v : Int32} {k : Nat} (h : v = nI (10 ^ k)) (hk : k ≤ 8) : ¬ v = 0 := by
  subst h
  exact nI_ne0 (Nat.pow_pos (by decide)) (pow_lt hk)
theorem pow_dd {v : Int32} {n i : Nat} (h : v = nI (10 ^ (n - i))) (hi : i < n) (hn : n ≤ 8) : v / 10 = nI (10 ^ (n - (i + 1))) := by
  subst h
  rw [show n - i = (n - (i + 1)) + 1 by omega, show (10 : Int32) = nI 10 from rfl, pk_div (pow_lt (by omega)) (by decide) (by decide), Nat.pow_succ, Nat.mul_div_cancel _ (by decide)]
theorem vp_15 : vp_in ((13 : Int32) + 2) 19 := by unfold vp_in; decide
theorem vp_16 : vp_in ((13 : Int32) + 3) 19 := by unfold vp_in; decide
theorem vp_17 : vp_in ((13 : Int32) + 4) 19 := by unfold vp_in; decide
theorem vp_18 : vp_in ((13 : Int32) + 5) 19 := by unfold vp_in; decide
theorem lg_eq {x y : Int64} (h : lg_cmp x y = 0) : x = y := by
  unfold lg_cmp at h
  split at h
  · exact absurd h (by decide)
  · split at h
    · assumption
    · exact absurd h (by decide)
theorem gz {x y : Int64} (h : ¬ x = 0 ∨ ¬ y = 0) (c : lg_cmp y 0 = 0) : ¬ x = 0 := by
  rcases h with h | h
  · exact h
  · exact absurd (lg_eq c) h
theorem rem_lt {x y : Int64} (h : ¬ y = 0) : (x - x / y * y).toInt.natAbs < y.toInt.natAbs := by
  rw [Jvm.Kit.i64_rem, Int.natAbs_tmod]
  apply Nat.mod_lt
  apply Nat.pos_of_ne_zero
  intro e
  apply h
  rw [← Int64.toInt_inj, Int.natAbs_eq_zero.mp e]
  decide
