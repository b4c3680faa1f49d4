/-! plain facts on small numbers -/
def rngD (x : Int32) (n : Nat) : Prop := x.toNatClampNeg < n ∧ x = nI x.toNatClampNeg
theorem rng_of {x : Int32} {n : Nat} (h : x.toNatClampNeg < n ∧ x = nI x.toNatClampNeg) : rng x n := ⟨_, h.1, h.2⟩
theorem rng_nI {j n : Nat} (h : j < n) : rng (nI j) n := ⟨j, h, rfl⟩
theorem in_of {x : Int32} {n : Nat} (hn : n + 1 < 2 ^ 31) (h : ¬ f_X9_in x 0 (nI n) = 0) : ∃ j, j ≤ n ∧ x = nI j := by
  obtain ⟨e, -, h2⟩ := rngIn (a := 0) (b := n) (by decide) (by omega) h
  exact ⟨_, h2, e⟩
theorem in_yes {j n : Nat} (hn : n < 2 ^ 31) (h : j ≤ n) : f_X9_in (nI j) 0 (nI n) = 1 := by
  unfold f_X9_in
  rw [if_neg (nI_pos (by omega)), if_neg (nI_nlt h hn)]
theorem par_in (x : Int32) : f_X8_isParish x = f_X9_in x 0 6 := rfl
theorem way_in (x : Int32) : f_X8_isWay x = f_X9_in x 0 7 := rfl
theorem upto_in (x n : Int32) : f_X8_isUpTo x n = f_X9_in x 0 n := rfl
theorem tb_there : ∀ a : Nat, a < 128 → ∀ j : Nat, j < 7 → f_X7_isThere (nI a) (nI j) = f_X9_isThere (nI a) (nI j) := by decide +kernel
theorem there_eq {t : Int32} (ht : rng t 128) (x : Int32) : f_X7_isThere t x = f_X9_isThere t x := by
  obtain ⟨a, ha, rfl⟩ := ht
  by_cases h : f_X9_in x 0 6 = 0
  · have h9 : f_X9_isThere (nI a) x = 0 := by unfold f_X9_isThere; rw [if_pos h]
    rw [h9]
    unfold f_X7_isThere
    by_cases h0 : x < 0
    · rw [if_pos h0]
    · rw [if_neg h0]
      by_cases h7 : (7 : Int32) ≤ x
      · rw [if_pos h7]
      · exfalso
        have hv := vp_of (n := 7) h0 h7 (by decide)
        obtain ⟨j, hj, rfl⟩ := vp_in_of hv (by decide)
        rw [show (6 : Int32) = nI 6 from rfl, in_yes (by decide) (by omega)] at h
        exact absurd h (by decide)
  · obtain ⟨j, hj, rfl⟩ := in_of (n := 6) (by decide) h
    exact tb_there a ha j (by omega)
theorem tb_bits : ∀ a : Nat, a < 256 → f_J6_bitCount_0f7a4 (nI a) = f_X9_bits (nI a) := by decide +kernel
theorem bits_eq {x : Int32} {n : Nat} (h : rng x n) (hn : n ≤ 256) : f_J6_bitCount_0f7a4 x = f_X9_bits x := by
  obtain ⟨a, ha, rfl⟩ := h
  exact tb_bits a (by omega)
theorem tb_apart : ∀ a : Nat, a < 8 → ∀ b : Nat, b < 8 → f_X8_apart (nI a) (nI b) = f_X9_apartOf (nI a) (nI b) := by decide +kernel
theorem apart_eq {x y : Int32} (hx : rng x 8) (hy : rng y 8) : f_X8_apart x y = f_X9_apartOf x y := by
  obtain ⟨a, ha, rfl⟩ := hx
  obtain ⟨b, hb, rfl⟩ := hy
  exact tb_apart a ha b hb
theorem tb_has : ∀ a : Nat, a < 256 → ∀ j : Nat, j < 8 → f_X8_hasBit (nI a) (nI j) = f_X9_has (nI a) (nI j) := by decide +kernel
theorem wb1 (b q : Int32) : f_X8_withBit b q 1 = b ||| ((1 : Int32) <<< (q &&& 31)) := by unfold f_X8_withBit; rw [if_neg (by decide)]
theorem wb0 (b q : Int32) : f_X8_withBit b q 0 = b &&& (((1 : Int32) <<< (q &&& 31)) ^^^ (-1 : Int32)) := by unfold f_X8_withBit; rw [if_pos rfl]
theorem or0 (x : Int32) : x ||| 0 = x := by
  apply Int32.toBitVec_inj.mp
  rw [Int32.toBitVec_or]
  simp
theorem tb_wb1 : ∀ a : Nat, a < 128 → ∀ j : Nat, j < 7 → (f_X8_withBit (nI a) (nI j) 1).toNatClampNeg < 128 ∧ f_X8_withBit (nI a) (nI j) 1 = nI (f_X8_withBit (nI a) (nI j) 1).toNatClampNeg := by decide +kernel
theorem tb_wb0 : ∀ a : Nat, a < 128 → ∀ j : Nat, j < 7 → (f_X8_withBit (nI a) (nI j) 0).toNatClampNeg < 128 ∧ f_X8_withBit (nI a) (nI j) 0 = nI (f_X8_withBit (nI a) (nI j) 0).toNatClampNeg := by decide +kernel
theorem wb_rng1 {x : Int32} (hx : rng x 128) {j : Nat} (hj : j < 7) : rng (f_X8_withBit x (nI j) 1) 128 := by
  obtain ⟨a, ha, rfl⟩ := hx
  exact rng_of (tb_wb1 a ha j hj)
theorem wb_rng0 {x : Int32} (hx : rng x 128) {j : Nat} (hj : j < 7) : rng (f_X8_withBit x (nI j) 0) 128 := by
  obtain ⟨a, ha, rfl⟩ := hx
  exact rng_of (tb_wb0 a ha j hj)
theorem tb_vb1 : ∀ a : Nat, a < 256 → ∀ j : Nat, j < 8 → (f_X8_withBit (nI a) (nI j) 1).toNatClampNeg < 256 ∧ f_X8_withBit (nI a) (nI j) 1 = nI (f_X8_withBit (nI a) (nI j) 1).toNatClampNeg := by decide +kernel
theorem tb_vb0 : ∀ a : Nat, a < 256 → ∀ j : Nat, j < 8 → (f_X8_withBit (nI a) (nI j) 0).toNatClampNeg < 256 ∧ f_X8_withBit (nI a) (nI j) 0 = nI (f_X8_withBit (nI a) (nI j) 0).toNatClampNeg := by decide +kernel
theorem vb_rng1 {x : Int32} (hx : rng x 256) {j : Nat} (hj : j < 8) : rng (f_X8_withBit x (nI j) 1) 256 := by
  obtain ⟨a, ha, rfl⟩ := hx
  exact rng_of (tb_vb1 a ha j hj)
theorem vb_rng0 {x : Int32} (hx : rng x 256) {j : Nat} (hj : j < 8) : rng (f_X8_withBit x (nI j) 0) 256 := by
  obtain ⟨a, ha, rfl⟩ := hx
  exact rng_of (tb_vb0 a ha j hj)
theorem cl_nI {j : Nat} (h : j < 2 ^ 31) : (nI j).toNatClampNeg = j := nI_clamp h
theorem upd_eq (f : Nat → Int32) (k : Nat) (x : Int32) : upd f k x k = x := if_pos rfl
theorem upd_ne (f : Nat → Int32) {k q : Nat} (x : Int32) (h : q ≠ k) : upd f k x q = f q := if_neg h
