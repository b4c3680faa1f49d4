theorem and_or_r (a b c : Int32) : (a ||| b) &&& c = (a &&& c) ||| (b &&& c) := by
  apply Int32.toBitVec_inj.mp
  simp only [Int32.toBitVec_and, Int32.toBitVec_or]
  apply BitVec.eq_of_getLsbD_eq
  intro i hi
  simp only [BitVec.getLsbD_and, BitVec.getLsbD_or]
  cases a.toBitVec.getLsbD i <;> cases b.toBitVec.getLsbD i <;> cases c.toBitVec.getLsbD i <;> rfl
theorem or_zero (a b : Int32) : a ||| b = 0 ↔ a = 0 ∧ b = 0 := by
  constructor
  · intro h
    have h' : a.toBitVec ||| b.toBitVec = 0#32 := by
      have := congrArg Int32.toBitVec h
      rw [Int32.toBitVec_or] at this
      exact this
    have hb : ∀ i, (a.toBitVec ||| b.toBitVec).getLsbD i = false := fun i => by rw [h']; simp
    constructor
    · apply Int32.toBitVec_inj.mp
      apply BitVec.eq_of_getLsbD_eq
      intro i hi
      have := hb i
      rw [BitVec.getLsbD_or] at this
      have h0 : (0 : Int32).toBitVec.getLsbD i = false := by show (0#32).getLsbD i = false; simp
      rw [h0]
      revert this
      cases a.toBitVec.getLsbD i <;> cases b.toBitVec.getLsbD i <;> simp
    · apply Int32.toBitVec_inj.mp
      apply BitVec.eq_of_getLsbD_eq
      intro i hi
      have := hb i
      rw [BitVec.getLsbD_or] at this
      have h0 : (0 : Int32).toBitVec.getLsbD i = false := by show (0#32).getLsbD i = false; simp
      rw [h0]
      revert this
      cases a.toBitVec.getLsbD i <;> cases b.toBitVec.getLsbD i <;> simp
  · rintro ⟨rfl, rfl⟩; rfl
def gcd10 (g : Nat) : Nat := 10 * (g / 4) + g % 4
theorem tb_says : ∀ g : Nat, g < 32 → ∀ t : Nat, t < 8 →
    ((((1 : Int32) <<< (nI t &&& 31)) &&& (f_X2_thingsOf g ^^^ (-1 : Int32)) = 0 ↔ f_X9_saysYes (nI (gcd10 g)) (nI t) = 1) ∧
    (((1 : Int32) <<< (nI t &&& 31)) &&& f_X2_thingsOf g = 0 ↔ f_X9_saysYes (nI (gcd10 g)) (nI t) = 0) ∧
    ((f_X2_thingsOf g >>> (nI t &&& 31)) &&& 1 = if f_X9_saysYes (nI (gcd10 g)) (nI t) = 0 then 0 else 1)) := by decide +kernel
theorem tb_mod : ∀ x : Nat, x < 80 → ((4 : Int32) ≤ nI x - nI x / 10 * 10 ↔ 4 ≤ x % 10) := by decide +kernel
def okS (sg : Nat → Int32) (c : Int32) (i : Nat) : Prop := (sg (2 * i + 1) = 1 → f_X9_saysYes c (sg (2 * i)) = 1) ∧ (¬ sg (2 * i + 1) = 1 → f_X9_saysYes c (sg (2 * i)) = 0)
theorem fit_zero (sg : Nat → Int32) (c : Int32) : ∀ (k i : Nat), lp_X9_isFit_16 sg c k i 0 = 0
  | 0, _ => rfl
  | k + 1, i => by
    show (if (0 : Int32) = 0 then (0 : Int32) else _) = 0
    rw [if_pos rfl]
theorem fit_loop (sg : Nat → Int32) (c : Int32) : ∀ (k i : Nat), (lp_X9_isFit_16 sg c k i 1 = 0 ∨ lp_X9_isFit_16 sg c k i 1 = 1) ∧ (¬ lp_X9_isFit_16 sg c k i 1 = 0 ↔ ∀ j, i ≤ j → j < i + k → okS sg c j)
  | 0, i => ⟨Or.inr rfl, ⟨fun _ j h1 h2 => absurd h2 (by omega), fun _ => by show ¬ (1 : Int32) = 0; decide⟩⟩
  | k + 1, i => by
    have ih := fit_loop sg c k (i + 1)
    have go : ∀ {P : Prop} [Decidable P], (P ↔ okS sg c i) → (((if P then lp_X9_isFit_16 sg c k (i + 1) 1 else lp_X9_isFit_16 sg c k (i + 1) 0) = 0 ∨ (if P then lp_X9_isFit_16 sg c k (i + 1) 1 else lp_X9_isFit_16 sg c k (i + 1) 0) = 1) ∧ (¬ (if P then lp_X9_isFit_16 sg c k (i + 1) 1 else lp_X9_isFit_16 sg c k (i + 1) 0) = 0 ↔ ∀ j, i ≤ j → j < i + (k + 1) → okS sg c j)) := by
      intro P _ hP
      by_cases hp : P
      · rw [if_pos hp]
        refine ⟨ih.1, ih.2.trans ⟨fun h j h1 h2 => ?_, fun h j h1 h2 => h j (by omega) (by omega)⟩⟩
        by_cases e : j = i
        · subst e; exact hP.mp hp
        · exact h j (by omega) (by omega)
      · rw [if_neg hp, fit_zero]
        exact ⟨Or.inl rfl, ⟨fun h => absurd rfl h, fun h => absurd (hP.mpr (h i (by omega) (by omega))) hp⟩⟩
    show ((if (1 : Int32) = 0 then (1 : Int32) else if sg (2 * i + 1) = 1 then (if f_X9_saysYes c (sg (2 * i)) = 1 then lp_X9_isFit_16 sg c k (i + 1) 1 else lp_X9_isFit_16 sg c k (i + 1) 0) else (if f_X9_saysYes c (sg (2 * i)) = 0 then lp_X9_isFit_16 sg c k (i + 1) 1 else lp_X9_isFit_16 sg c k (i + 1) 0)) = 0 ∨ (if (1 : Int32) = 0 then (1 : Int32) else if sg (2 * i + 1) = 1 then (if f_X9_saysYes c (sg (2 * i)) = 1 then lp_X9_isFit_16 sg c k (i + 1) 1 else lp_X9_isFit_16 sg c k (i + 1) 0) else (if f_X9_saysYes c (sg (2 * i)) = 0 then lp_X9_isFit_16 sg c k (i + 1) 1 else lp_X9_isFit_16 sg c k (i + 1) 0)) = 1) ∧ (¬ (if (1 : Int32) = 0 then (1 : Int32) else if sg (2 * i + 1) = 1 then (if f_X9_saysYes c (sg (2 * i)) = 1 then lp_X9_isFit_16 sg c k (i + 1) 1 else lp_X9_isFit_16 sg c k (i + 1) 0) else (if f_X9_saysYes c (sg (2 * i)) = 0 then lp_X9_isFit_16 sg c k (i + 1) 1 else lp_X9_isFit_16 sg c k (i + 1) 0)) = 0 ↔ _)
    rw [if_neg (show ¬ (1 : Int32) = 0 by decide)]
    by_cases c1 : sg (2 * i + 1) = 1
    · rw [if_pos c1]
      exact go ⟨fun h => ⟨fun _ => h, fun h' => absurd c1 h'⟩, fun h => h.1 c1⟩
    · rw [if_neg c1]
      exact go ⟨fun h => ⟨fun h' => absurd h' c1, fun _ => h⟩, fun h => h.2 c1⟩
theorem sgs_fit (sg : Nat → Int32) (g : Nat) (hg : g < 32) : ∀ n : Nat, (∀ i, i < n → rng (sg (2 * i)) 8 ∧ rng (sg (2 * i + 1)) 2) →
    ((sgs sg 1 n &&& (f_X2_thingsOf g ^^^ (-1 : Int32)) = 0 ∧ sgs sg 0 n &&& f_X2_thingsOf g = 0) ↔ ∀ j, j < n → okS sg (nI (gcd10 g)) j)
  | 0, _ => by
    have e1 : (0 : Int32) &&& (f_X2_thingsOf g ^^^ (-1 : Int32)) = 0 := by apply Int32.toBitVec_inj.mp; rw [Int32.toBitVec_and]; simp
    have e2 : (0 : Int32) &&& f_X2_thingsOf g = 0 := by apply Int32.toBitVec_inj.mp; rw [Int32.toBitVec_and]; simp
    exact ⟨fun _ j hj => absurd hj (by omega), fun _ => ⟨e1, e2⟩⟩
  | n + 1, hr => by
    have ih := sgs_fit sg g hg n (fun i hi => hr i (by omega))
    obtain ⟨⟨t, ht, et⟩, ⟨y, hy, ey⟩⟩ := hr n (by omega)
    obtain ⟨t1, t2, -⟩ := tb_says g hg t ht
    have ok : (∀ j, j < n + 1 → okS sg (nI (gcd10 g)) j) ↔ (∀ j, j < n → okS sg (nI (gcd10 g)) j) ∧ okS sg (nI (gcd10 g)) n :=
      ⟨fun h => ⟨fun j hj => h j (by omega), h n (by omega)⟩, fun h j hj => by
        by_cases e : j = n
        · subst e; exact h.2
        · exact h.1 j (by omega)⟩
    rw [ok, ← ih]
    show ((if sg (2 * n + 1) = 1 then f_X8_withBit (sgs sg 1 n) (sg (2 * n)) 1 else sgs sg 1 n) &&& _ = 0 ∧ (if sg (2 * n + 1) = 0 then f_X8_withBit (sgs sg 0 n) (sg (2 * n)) 1 else sgs sg 0 n) &&& _ = 0) ↔ _
    unfold okS
    have hc : y = 0 ∨ y = 1 := by omega
    rcases hc with rfl | rfl
    · have y0 : sg (2 * n + 1) = 0 := ey
      rw [et, y0, if_neg (show ¬ (0 : Int32) = 1 by decide), if_pos rfl, wb1, and_or_r, or_zero, t2]
      constructor
      · rintro ⟨a, b, c⟩; exact ⟨⟨a, b⟩, fun h => absurd h (by decide), fun _ => c⟩
      · rintro ⟨⟨a, b⟩, -, c⟩; exact ⟨a, b, c (by decide)⟩
    · have y1 : sg (2 * n + 1) = 1 := ey
      rw [et, y1, if_pos rfl, if_neg (show ¬ (1 : Int32) = 0 by decide), wb1, and_or_r, or_zero, t1]
      constructor
      · rintro ⟨⟨a, b⟩, c⟩; exact ⟨⟨a, c⟩, fun _ => b, fun h => absurd rfl h⟩
      · rintro ⟨⟨a, b⟩, c, -⟩; exact ⟨⟨a, c rfl⟩, b⟩
theorem fits_eq {sg : Nat → Int32} {ms : Nat} (hr : ∀ i, i < ms → rng (sg (2 * i)) 8 ∧ rng (sg (2 * i + 1)) 2) (g : Nat) (hg : g < 32) : f_X2_fits (sgs sg 1 ms) (sgs sg 0 ms) g = f_X9_isFit ms sg (nI (gcd10 g)) := by
  have h1 := sgs_fit sg g hg ms hr
  have hx : gcd10 g < 80 ∧ gcd10 g % 10 < 4 := by unfold gcd10; omega
  unfold f_X9_isFit
  rw [if_neg (fun h => absurd ((tb_mod _ hx.1).mp h) (by omega))]
  obtain ⟨l1, l2⟩ := fit_loop sg (nI (gcd10 g)) ms 0
  have l2' : (¬ lp_X9_isFit_16 sg (nI (gcd10 g)) ms 0 1 = 0) ↔ ∀ j, j < ms → okS sg (nI (gcd10 g)) j := l2.trans ⟨fun h j hj => h j (by omega) (by omega), fun h j _ hj => h j (by omega)⟩
  unfold f_X2_fits
  by_cases c : ∀ j, j < ms → okS sg (nI (gcd10 g)) j
  · obtain ⟨a, b⟩ := h1.mpr c
    rw [if_pos a, if_pos b]
    rcases l1 with l | l
    · exact absurd l (l2'.mpr c)
    · exact l.symm
  · have z : lp_X9_isFit_16 sg (nI (gcd10 g)) ms 0 1 = 0 := by
      rcases l1 with l | l
      · exact l
      · exact absurd (l2'.mp (by rw [l]; decide)) c
    rw [z]
    by_cases a : sgs sg 1 ms &&& (f_X2_thingsOf g ^^^ (-1 : Int32)) = 0
    · rw [if_pos a]
      by_cases b : sgs sg 0 ms &&& f_X2_thingsOf g = 0
      · exact absurd (h1.mp ⟨a, b⟩) c
      · rw [if_neg b]
    · rw [if_neg a]
theorem fit_no (sg : Nat → Int32) (ms : Nat) (x : Nat) (hx : x < 80) (h : 4 ≤ x % 10) : f_X9_isFit ms sg (nI x) = 0 := by
  unfold f_X9_isFit
  rw [if_pos ((tb_mod x hx).mpr h), fit_zero]
theorem fit_at {sg : Nat → Int32} {ms : Nat} (hr : ∀ i, i < ms → rng (sg (2 * i)) 8 ∧ rng (sg (2 * i + 1)) 2) (a r : Nat) (ha : a < 8) (hr4 : r < 4) : f_X9_isFit ms sg (nI (10 * a + r)) = f_X2_fits (sgs sg 1 ms) (sgs sg 0 ms) (4 * a + r) := by
  rw [fits_eq hr (4 * a + r) (by omega)]
  rw [show gcd10 (4 * a + r) = 10 * a + r by unfold gcd10; omega]
