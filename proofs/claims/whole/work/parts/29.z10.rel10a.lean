theorem nI_div {a b : Nat} (ha : a < 2 ^ 31) (hb : b < 2 ^ 31) : nI a / nI b = nI (a / b) := (Int32.ofNat_div ha hb).symm
theorem nI_mod {a b : Nat} (ha : a < 2 ^ 31) (hb : b < 2 ^ 31) : nI a - nI a / nI b * nI b = nI (a % b) := by
  have m : nI (a / b) * nI b = nI (a / b * b) := (Int32.ofNat_mul _ _).symm
  have s : nI a = nI (a % b) + nI (a / b * b) := by
    rw [nI_add, Nat.mod_add_div']
  rw [nI_div ha hb, m, s, Int32.add_sub_cancel]
theorem tb_cmp : ∀ p : Nat, p < 8 → ∀ a : Nat, a < 8 → ∀ b : Nat, b < 8 → f_J6_compare_7cf53 (f_X9_apartOf (nI p) (nI b)) (f_X9_apartOf (nI p) (nI a)) = (if f_X9_apartOf (nI p) (nI a) - f_X9_apartOf (nI p) (nI b) = 0 then 0 else if 0 ≤ f_X9_apartOf (nI p) (nI a) - f_X9_apartOf (nI p) (nI b) then -1 else 1) := by decide +kernel
theorem bt_loop {pts bk : Nat → Int32} {th a b : Int32} (h : ∀ q, q < 7 → pts q = bk q ∧ rng (bk q) 8) (ht : rng th 128) (ha : rng a 8) (hb : rng b 8) : ∀ (k i : Nat) (v : Int32), i + k ≤ 7 → lp_X0_beats_5 th pts a b k i v = lp_X9_winnerOf_5 th bk a b k i v
  | 0, _, _, _ => rfl
  | k + 1, i, v, hi => by
    have e1 := (h i (by omega)).1
    have e2 := (h i (by omega)).2
    have ih := bt_loop h ht ha hb k (i + 1)
    show (if f_X7_isThere th (nI i) = 0 then lp_X0_beats_5 th pts a b k (i + 1) v else lp_X0_beats_5 th pts a b k (i + 1) (v + f_J6_compare_7cf53 (f_X8_apart (pts i) b) (f_X8_apart (pts i) a))) =
      (if f_X9_isThere th (nI i) = 0 then lp_X9_winnerOf_5 th bk a b k (i + 1) (v + 0) else if f_X9_apartOf (bk i) a - f_X9_apartOf (bk i) b = 0 then lp_X9_winnerOf_5 th bk a b k (i + 1) (v + 0) else if 0 ≤ f_X9_apartOf (bk i) a - f_X9_apartOf (bk i) b then lp_X9_winnerOf_5 th bk a b k (i + 1) (v + (-1)) else lp_X9_winnerOf_5 th bk a b k (i + 1) (v + 1))
    rw [there_eq ht, e1, apart_eq e2 ha, apart_eq e2 hb, Int32.add_zero]
    by_cases c1 : f_X9_isThere th (nI i) = 0
    · rw [if_pos c1, if_pos c1]; exact ih _ (by omega)
    · rw [if_neg c1, if_neg c1]
      have tb : f_J6_compare_7cf53 (f_X9_apartOf (bk i) b) (f_X9_apartOf (bk i) a) = (if f_X9_apartOf (bk i) a - f_X9_apartOf (bk i) b = 0 then 0 else if 0 ≤ f_X9_apartOf (bk i) a - f_X9_apartOf (bk i) b then -1 else 1) := by
        obtain ⟨x, hx, hxe⟩ := e2
        obtain ⟨y, hy, hye⟩ := ha
        obtain ⟨z, hz, hze⟩ := hb
        rw [hxe, hye, hze]; exact tb_cmp x hx y hy z hz
      rw [tb]
      by_cases c2 : f_X9_apartOf (bk i) a - f_X9_apartOf (bk i) b = 0
      · rw [if_pos c2, if_pos c2, Int32.add_zero]; exact ih _ (by omega)
      · rw [if_neg c2, if_neg c2]
        by_cases c3 : 0 ≤ f_X9_apartOf (bk i) a - f_X9_apartOf (bk i) b
        · rw [if_pos c3, if_pos c3]; exact ih _ (by omega)
        · rw [if_neg c3, if_neg c3]; exact ih _ (by omega)
theorem win_eq {pts bk : Nat → Int32} {th mth a b : Int32} (h : ∀ q, q < 7 → pts q = bk q ∧ rng (bk q) 8) (e : th = mth) (ht : rng mth 128) (ha : rng a 8) (hb : rng b 8) : f_X9_winnerOf mth bk a b = if f_X0_beats th pts a b = 0 then b else a := by
  subst e
  unfold f_X9_winnerOf f_X0_beats
  rw [bt_loop h ht ha hb 7 0 0 (by omega)]
  generalize lp_X9_winnerOf_5 th bk a b 7 0 0 = s
  by_cases c : s ≤ 0
  · have c' : ¬ 0 < s := by rw [Int32.not_lt]; exact c
    rw [if_pos c, if_neg c']
    by_cases c2 : 0 ≤ s
    · have z : s = 0 := Int32.le_antisymm c c2
      rw [if_pos c2, if_pos z]
      by_cases c3 : b ≤ a
      · rw [if_pos c3, if_pos c3, if_pos rfl]
      · rw [if_neg c3, if_neg c3, if_neg (show ¬ (1 : Int32) = 0 by decide)]
    · have z : ¬ s = 0 := fun h => c2 (by rw [h]; decide)
      rw [if_neg c2, if_neg z, if_pos rfl]
  · have c' : 0 < s := by rw [← Int32.not_le]; exact c
    rw [if_neg c, if_pos c', if_neg (show ¬ (1 : Int32) = 0 by decide)]
theorem tb_cnt : ∀ s : Nat, s < 256 → ∀ d : Nat, d < 8 → (if f_X9_has (nI s) (nI d) = 0 then f_X9_bits (f_X8_withBit (nI s) (nI d) 1) = f_X9_bits (nI s) + 1 else f_X8_withBit (nI s) (nI d) 1 = nI s) := by decide +kernel
