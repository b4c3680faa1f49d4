theorem lgc (x : Int64) : lg_cmp x 0 = 0 ↔ x = 0 := by
  constructor
  · intro h
    unfold lg_cmp at h
    split at h
    · exact absurd h (by decide)
    · split at h
      · assumption
      · exact absurd h (by decide)
  · intro h; rw [h]; decide
theorem lgc0 : lg_cmp (lN 0) 0 = 0 := (lgc _).mpr rfl
theorem lN_nat {a : Nat} (h : a < 2 ^ 63) : (lN a).toInt = (a : Int) := Int64.toInt_ofNat_of_lt h
theorem lN_z {a : Nat} (h : a < 2 ^ 63) : lN a = 0 ↔ a = 0 := by
  constructor
  · intro e
    have := congrArg Int64.toInt e
    rw [lN_nat h] at this
    have z : (0 : Int64).toInt = 0 := rfl
    rw [z] at this; omega
  · intro e; rw [e]; rfl
theorem lN_mod {a b : Nat} (ha : a < 2 ^ 63) (hb : b < 2 ^ 63) : lN a - lN a / lN b * lN b = lN (a % b) := by
  have e : lN a / lN b = lN (a / b) := (Int64.ofNat_div ha hb).symm
  have m : lN (a / b) * lN b = lN (a / b * b) := (Int64.ofNat_mul _ _).symm
  have s : lN a = lN (a % b) + lN (a / b * b) := by
    have : lN (a % b) + lN (a / b * b) = lN (a % b + a / b * b) := (Int64.ofNat_add _ _).symm
    rw [this, Nat.mod_add_div']
  rw [e, m, s, Int64.add_sub_cancel]
theorem cd_zero (k i : Nat) (a : Int64) : lp_X1_commonDivisor_9 (k + 1) i a (lN 0) = (a, lN 0) := by
  show (if lg_cmp (lN 0) 0 = 0 then (a, lN 0) else _) = _
  rw [if_pos lgc0]
theorem cd_step (k i : Nat) {a b : Nat} (ha : a < 2 ^ 63) (hb : b < 2 ^ 63) (h0 : ¬ b = 0) : lp_X1_commonDivisor_9 (k + 1) i (lN a) (lN b) = lp_X1_commonDivisor_9 k (i + 1) (lN b) (lN (a % b)) := by
  show (if lg_cmp (lN b) 0 = 0 then (lN a, lN b) else lp_X1_commonDivisor_9 k (i + 1) (lN b) (lN a - lN a / lN b * lN b)) = _
  rw [if_neg (fun h => h0 ((lN_z hb).mp ((lgc _).mp h))), lN_mod ha hb]
theorem gcd_step (a b : Nat) : Nat.gcd a b = Nat.gcd b (a % b) := by
  rw [Nat.gcd_comm a b, Nat.gcd_rec b a, Nat.gcd_comm]
theorem cd_all : ∀ (j k i a b : Nat), 2 * j + 1 ≤ k → a < 2 ^ 63 → b < 2 ^ 63 → b < 2 ^ j → lp_X1_commonDivisor_9 k i (lN a) (lN b) = (lN (Nat.gcd a b), lN 0)
  | 0, k, i, a, b, hk, ha, hb, hj => by
    have : b = 0 := by simpa using hj
    subst this
    obtain ⟨k, rfl⟩ : ∃ k', k = k' + 1 := ⟨k - 1, by omega⟩
    rw [cd_zero, Nat.gcd_zero_right]
  | j + 1, k, i, a, b, hk, ha, hb, hj => by
    obtain ⟨k, rfl⟩ : ∃ k', k = k' + 1 + 1 := ⟨k - 2, by omega⟩
    by_cases h0 : b = 0
    · subst h0; rw [cd_zero, Nat.gcd_zero_right]
    · rw [cd_step _ i ha hb h0, gcd_step a b]
      have hr : a % b < b := Nat.mod_lt _ (by omega)
      by_cases h1 : a % b = 0
      · rw [h1, cd_zero, Nat.gcd_zero_right]
      · rw [cd_step _ _ hb (by omega) h1, gcd_step b (a % b)]
        have hr2 : b % (a % b) < a % b := Nat.mod_lt _ (by omega)
        have hd : b % (a % b) + (a % b) * (b / (a % b)) = b := Nat.mod_add_div _ _
        have hq : 1 ≤ b / (a % b) := Nat.div_pos (by omega) (by omega)
        have hm : (a % b) * 1 ≤ (a % b) * (b / (a % b)) := Nat.mul_le_mul_left _ hq
        have hp : 2 ^ (j + 1) = 2 ^ j * 2 := Nat.pow_succ 2 j
        exact cd_all j k _ _ _ (by omega) (by omega) (by omega) (by omega)
theorem lo_all (xa xb : Int64) (xq : Int32) : ∀ (k a b : Nat), b < k → a < 2 ^ 63 → b < 2 ^ 63 → lp_X9_lowest_6 xa xb xq k (lN a) (lN b) = if xq = 0 then xa / lN (Nat.gcd a b) else xb / lN (Nat.gcd a b)
  | 0, a, b, h, _, _ => absurd h (by omega)
  | k + 1, a, b, h, ha, hb => by
    show (if lg_cmp (lN b) 0 = 0 then (if xq = 0 then xa / lN a else xb / lN a) else lp_X9_lowest_6 xa xb xq k (lN b) (lN a - lN a / lN b * lN b)) = _
    by_cases h0 : b = 0
    · subst h0; rw [if_pos lgc0, Nat.gcd_zero_right]
    · have hr : a % b < b := Nat.mod_lt _ (by omega)
      rw [if_neg (fun h => h0 ((lN_z hb).mp ((lgc _).mp h))), lN_mod ha hb, lo_all xa xb xq k b (a % b) (by omega) hb (by omega), ← gcd_step]
theorem low_eq {a b : Nat} (ha : a < 2 ^ 63) (hb : b < 2 ^ 63) (h0 : 0 < b) (xq : Int32) : f_X1_inLowestTerms (lN a) (lN b) xq = f_X9_lowest (lN a) (lN b) xq := by
  have hg : Nat.gcd a b ≤ b := Nat.gcd_le_right _ h0
  have hg0 : 0 < Nat.gcd a b := Nat.gcd_pos_of_pos_right _ h0
  have ec : f_X1_commonDivisor (lN a) (lN b) = lN (Nat.gcd a b) := by
    unfold f_X1_commonDivisor
    rw [cd_all 63 1000 0 a b (by omega) ha hb hb]
  unfold f_X1_inLowestTerms f_X9_lowest
  rw [ec, if_neg (fun h => by have := (lN_z (by omega)).mp ((lgc _).mp h); omega)]
  rw [lo_all _ _ _ _ a b (by rw [lN_nat hb]; omega) ha hb]

def dpN (m : Nat) : Nat → Nat → Nat
  | 0, k => if k = 0 then 1 else 0
  | j + 1, k => if k = 0 then 0 else if k ≤ m then k * dpN m j k + (m - k + 1) * dpN m j (k - 1) else 0
theorem dpN_le (m : Nat) : ∀ (j k : Nat), dpN m j k ≤ (m + 1) ^ j
  | 0, k => by
    show (if k = 0 then 1 else 0) ≤ 1
    split <;> omega
  | j + 1, k => by
    show (if k = 0 then 0 else if k ≤ m then k * dpN m j k + (m - k + 1) * dpN m j (k - 1) else 0) ≤ (m + 1) ^ (j + 1)
    by_cases c : k = 0
    · rw [if_pos c]; omega
    · rw [if_neg c]
      by_cases c2 : k ≤ m
      · rw [if_pos c2]
        have a1 : k * dpN m j k ≤ k * (m + 1) ^ j := Nat.mul_le_mul_left _ (dpN_le m j k)
        have a2 : (m - k + 1) * dpN m j (k - 1) ≤ (m - k + 1) * (m + 1) ^ j := Nat.mul_le_mul_left _ (dpN_le m j (k - 1))
        have a3 : k * (m + 1) ^ j + (m - k + 1) * (m + 1) ^ j = (m + 1) ^ (j + 1) := by
          rw [← Nat.add_mul, show k + (m - k + 1) = m + 1 by omega, Nat.pow_succ, Nat.mul_comm]
        omega
      · rw [if_neg c2]; omega
theorem tb_l : ∀ q : Nat, q < 10 → (nI q).toInt64 = lN q := by decide +kernel
theorem tb_ls : ∀ m : Nat, m < 10 → ∀ q : Nat, q < 10 → q ≤ m → (nI m - nI q + (1 : Int32)).toInt64 = lN (m - q + 1) := by decide +kernel
theorem updL_at {f : Nat → Int64} {k q : Nat} {x : Int64} : vp_updL f k x q = if q = k then x else f q := rfl
theorem ch10 : ∀ (k i : Nat) (r : Nat → Int64) (q : Nat), lp_X1_countHours_14 k i r q = if i ≤ q ∧ q < i + k then 0 else r q
  | 0, i, r, q => by rw [if_neg (by omega)]; rfl
  | k + 1, i, r, q => by
    show lp_X1_countHours_14 k (i + 1) (vp_updL r i 0) q = _
    rw [ch10 k (i + 1), updL_at]
    by_cases c : q = i
    · subst c; rw [if_neg (by omega), if_pos rfl, if_pos (by omega)]
    · rw [if_neg c]
      by_cases c2 : i + 1 ≤ q ∧ q < i + 1 + k
      · rw [if_pos c2, if_pos (by omega)]
      · rw [if_neg c2, if_neg (by omega)]
theorem ch55 (m : Nat) : ∀ (k : Nat) (r : Nat → Int64) (q : Nat), lp_X1_countHours_59 m k r q = if 1 ≤ q ∧ q ≤ k then (nI q).toInt64 * r q + (nI m - nI q + (1 : Int32)).toInt64 * r (q - 1) else r q
  | 0, r, q => by rw [if_neg (by omega)]; rfl
  | k + 1, r, q => by
    show lp_X1_countHours_59 m k (vp_updL r (k + 1) ((nI (k + 1)).toInt64 * r (k + 1) + (nI m - nI (k + 1) + (1 : Int32)).toInt64 * r (k + 1 - 1))) q = _
    rw [ch55 m k]
    by_cases c : q = k + 1
    · subst c; rw [if_neg (by omega), updL_at, if_pos rfl, if_pos (by omega)]
    · by_cases c2 : 1 ≤ q ∧ q ≤ k
      · rw [if_pos c2, if_pos (by omega), updL_at, updL_at, if_neg c, if_neg (by omega)]
      · rw [if_neg c2, if_neg (by omega), updL_at, if_neg c]
theorem ch46 (m : Nat) (hm : m < 9) : ∀ (k i j : Nat) (r : Nat → Int64), (∀ q, q ≤ m → r q = lN (dpN m j q)) → (lp_X1_countHours_50 m k i (lN (m ^ j)) r).1 = lN (m ^ (j + k)) ∧ ∀ q, q ≤ m → (lp_X1_countHours_50 m k i (lN (m ^ j)) r).2 q = lN (dpN m (j + k) q)
  | 0, i, j, r, h => ⟨rfl, h⟩
  | k + 1, i, j, r, h => by
    have e : lp_X1_countHours_50 m (k + 1) i (lN (m ^ j)) r = lp_X1_countHours_50 m k (i + 1) (lN (m ^ j) * (nI m).toInt64) (vp_updL (lp_X1_countHours_59 m m r) 0 0) := rfl
    rw [e, tb_l m (by omega), lN_mul, ← Nat.pow_succ, show j + (k + 1) = j + 1 + k by omega]
    refine ch46 m hm k (i + 1) (j + 1) _ (fun q hq => ?_)
    rw [updL_at, ch55]
    show _ = lN (if q = 0 then 0 else if q ≤ m then q * dpN m j q + (m - q + 1) * dpN m j (q - 1) else 0)
    by_cases c : q = 0
    · rw [if_pos c, if_pos c]; rfl
    · rw [if_neg c, if_neg c, if_pos (show 1 ≤ q ∧ q ≤ m by omega), if_pos hq, h q hq, h (q - 1) (by omega), tb_l q (by omega), tb_ls m (by omega) q (by omega) hq, lN_mul, lN_mul, lN_add]
theorem ev98 : ∀ (k i : Nat) (r : Nat → Int64) (q : Nat), i + k ≤ 100 → lp_X9_everywhere_98 k i r q = if i ≤ q ∧ q < i + k then (if q = 0 then 1 else 0) else r q
  | 0, i, r, q, _ => by rw [if_neg (by omega)]; rfl
  | k + 1, i, r, q, hk => by
    show (if nI i = 0 then lp_X9_everywhere_98 k (i + 1) (vp_updL r i 1) else lp_X9_everywhere_98 k (i + 1) (vp_updL r i 0)) q = _
    have key : ∀ x : Int64, x = (if i = 0 then 1 else 0) → lp_X9_everywhere_98 k (i + 1) (vp_updL r i x) q = if i ≤ q ∧ q < i + (k + 1) then (if q = 0 then 1 else 0) else r q := fun x hx => by
      rw [ev98 k (i + 1) _ q (by omega), updL_at]
      by_cases c : q = i
      · subst c; rw [if_neg (by omega), if_pos rfl, if_pos (by omega), hx]
      · rw [if_neg c]
        by_cases c2 : i + 1 ≤ q ∧ q < i + 1 + k
        · rw [if_pos c2, if_pos (show i ≤ q ∧ q < i + (k + 1) by omega)]
        · rw [if_neg c2, if_neg (by omega)]
    by_cases c : nI i = 0
    · rw [if_pos c]
      have : i = 0 := (nI_eq (b := 0) (by omega) (by omega)).mp c
      exact key 1 (by rw [if_pos this])
    · rw [if_neg c]
      exact key 0 (by rw [if_neg (fun h => c (by rw [h]; rfl))])
theorem ev148 (m : Nat) (hm : m < 9) : ∀ (k : Nat) (r : Nat → Int64) (q : Nat), k < 10 → lp_X9_everywhere_148 (nI m) k r q = if q < k then (if q ≤ m then (if q = 0 then r 0 * (nI 0).toInt64 + 0 else r q * (nI q).toInt64 + r (q - 1) * (nI m - nI q + (1 : Int32)).toInt64) else 0) else r q
  | 0, r, q, _ => by rw [if_neg (by omega)]; rfl
  | k + 1, r, q, hk => by
    have es : lp_X9_everywhere_148 (nI m) (k + 1) r = if nI k ≤ nI (nI m).toNatClampNeg then (if nI k ≤ 0 then lp_X9_everywhere_148 (nI m) k (vp_updL r k (r k * (nI k).toInt64 + 0)) else lp_X9_everywhere_148 (nI m) k (vp_updL r k (r k * (nI k).toInt64 + r (k - 1) * (nI (nI m).toNatClampNeg - nI k + (1 : Int32)).toInt64))) else lp_X9_everywhere_148 (nI m) k (vp_updL r k 0) := rfl
    rw [es, nI_clamp (show m < 2 ^ 31 by omega)]
    have key : ∀ x : Int64, x = (if k ≤ m then (if k = 0 then r 0 * (nI 0).toInt64 + 0 else r k * (nI k).toInt64 + r (k - 1) * (nI m - nI k + (1 : Int32)).toInt64) else 0) → lp_X9_everywhere_148 (nI m) k (vp_updL r k x) q = if q < k + 1 then (if q ≤ m then (if q = 0 then r 0 * (nI 0).toInt64 + 0 else r q * (nI q).toInt64 + r (q - 1) * (nI m - nI q + (1 : Int32)).toInt64) else 0) else r q := fun x hx => by
      rw [ev148 m hm k _ q (by omega), updL_at, updL_at, updL_at]
      by_cases c : q = k
      · subst c; rw [if_neg (by omega), if_pos rfl, if_pos (by omega), hx]
      · rw [if_neg c]
        by_cases c2 : q < k
        · rw [if_pos c2, if_pos (show q < k + 1 by omega), if_neg (show ¬ 0 = k by omega), if_neg (show ¬ q - 1 = k by omega)]
        · rw [if_neg c2, if_neg (by omega)]
    by_cases c1 : k ≤ m
    · rw [if_pos (nI_le c1 (by omega))]
      by_cases c2 : k = 0
      · subst c2
        rw [if_pos (show nI 0 ≤ 0 by decide)]
        exact key _ (by rw [if_pos c1, if_pos rfl])
      · rw [if_neg (nI_nle (by omega) (by omega))]
        exact key _ (by rw [if_pos c1, if_neg c2])
    · rw [if_neg (nI_ge (by omega) (by omega))]
      exact key _ (by rw [if_neg c1])
theorem ev131 (m : Nat) (hm : m < 9) (xq : Int32) : ∀ (k i j : Nat) (r : Nat → Int64), (∀ q, q ≤ m → r q = lN (dpN m j q)) → (lp_X9_everywhere_131 (nI m) xq k i r (lN (m ^ j))).1 = f_X9_lowest (lN (dpN m (j + k) m)) (lN (m ^ (j + k))) xq
  | 0, i, j, r, h => by
    show f_X9_lowest (r (nI m).toNatClampNeg) (lN (m ^ j)) xq = _
    rw [nI_clamp (show m < 2 ^ 31 by omega), h m (by omega)]; rfl
  | k + 1, i, j, r, h => by
    have e : lp_X9_everywhere_131 (nI m) xq (k + 1) i r (lN (m ^ j)) = lp_X9_everywhere_131 (nI m) xq k (i + 1) (lp_X9_everywhere_148 (nI m) 9 r) (lN (m ^ j) * (nI (nI m).toNatClampNeg).toInt64) := rfl
    rw [e, nI_clamp (show m < 2 ^ 31 by omega), tb_l m (by omega), lN_mul, ← Nat.pow_succ, show j + (k + 1) = j + 1 + k by omega]
    refine ev131 m hm xq k (i + 1) (j + 1) _ (fun q hq => ?_)
    rw [ev148 m hm 9 r q (by omega), if_pos (by omega), if_pos hq]
    show _ = lN (if q = 0 then 0 else if q ≤ m then q * dpN m j q + (m - q + 1) * dpN m j (q - 1) else 0)
    by_cases c : q = 0
    · subst c
      rw [if_pos rfl, if_pos rfl, h 0 (by omega), tb_l 0 (by omega), lN_mul, Nat.mul_zero]; rfl
    · rw [if_neg c, if_neg c, if_pos hq, h q hq, h (q - 1) (by omega), tb_l q (by omega), tb_ls m (by omega) q (by omega) hq, lN_mul, lN_mul, lN_add, Nat.mul_comm, Nat.mul_comm (dpN m j (q - 1))]
theorem tb_mean : ∀ m : Nat, m < 9 → ((lp_X1_countMean_14 m m 1 0).toInt.toNat < 2 ^ 63 ∧ lp_X1_countMean_14 m m 1 0 = lN (lp_X1_countMean_14 m m 1 0).toInt.toNat ∧ (nI m).toInt64 * lp_X9_everywhere_54 m 1 0 = lp_X1_countMean_14 m m 1 0) := by decide +kernel
theorem everywhere_eq (u l : Int64) (cc been : Nat → Int64) (xm xn xk xq : Int32) : (f_X8_everywhere u l cc xm xn xk xq).1 = (f_X9_everywhere been xm xn xk xq).1 := by
  unfold f_X8_everywhere f_X9_everywhere
  rw [upto_in, upto_in, upto_in]
  by_cases c1 : xm < 1
  · have z : f_X9_in xm 1 8 = 0 := by unfold f_X9_in; rw [if_pos c1]
    rw [if_pos c1, if_pos z]
  · rw [if_neg c1]
    by_cases c2 : (8 : Int32) < xm
    · have z : f_X9_in xm 1 8 = 0 := by unfold f_X9_in; rw [if_neg c1, if_pos c2]
      rw [if_pos c2, if_pos z]
    · have z : ¬ f_X9_in xm 1 8 = 0 := by unfold f_X9_in; rw [if_neg c1, if_neg c2]; decide
      rw [if_neg c2, if_neg z]
      obtain ⟨em, lm1, lm2⟩ := rngIn (a := 1) (b := 8) (by decide) (by decide) z
      generalize xm.toNatClampNeg = m at em lm1 lm2
      subst em
      by_cases c3 : f_X9_in xn 0 16 = 0
      · rw [if_pos c3, if_pos c3]
      · rw [if_neg c3, if_neg c3]
        obtain ⟨n, hn, rfl⟩ := in_of (n := 16) (by decide) c3
        rw [nI_clamp (show n < 2 ^ 31 by omega)]
        by_cases c4 : f_X9_in xk 0 1 = 0
        · rw [if_pos c4, if_pos c4]
        · rw [if_neg c4, if_neg c4]
          by_cases c5 : f_X9_in xq 0 1 = 0
          · rw [if_pos c5, if_pos c5]
          · rw [if_neg c5, if_neg c5]
            obtain ⟨k, hk, rfl⟩ := in_of (n := 1) (by decide) c4
            have hc : k = 0 ∨ k = 1 := by omega
            rcases hc with rfl | rfl
            · rw [if_pos (show nI 0 = 0 from rfl), if_neg (show ¬ nI 0 = 1 by decide)]
              have p0 : lN (m ^ 0) = 1 := rfl
              obtain ⟨g1, g2⟩ := ch46 m (by omega) n 0 0 (vp_updL (lp_X1_countHours_14 9 0 cc) 0 1) (fun q hq => by
                rw [updL_at, ch10]
                by_cases c : q = 0
                · subst c; rfl
                · rw [if_neg c, if_pos (by omega)]
                  show (0 : Int64) = lN (if q = 0 then 1 else 0)
                  rw [if_neg c]; rfl)
              rw [p0, Nat.zero_add] at g1
              have g3 := g2 m (by omega)
              rw [p0, Nat.zero_add] at g3
              have h9 := ev131 m (by omega) xq n 0 0 (lp_X9_everywhere_98 9 0 been) (fun q hq => by
                rw [ev98 9 0 been q (by omega), if_pos (by omega)]
                show _ = lN (if q = 0 then 1 else 0)
                by_cases c : q = 0
                · rw [if_pos c, if_pos c]; rfl
                · rw [if_neg c, if_neg c]; rfl)
              rw [p0, Nat.zero_add] at h9
              have b1 : dpN m n m < 2 ^ 63 := by
                have a1 := dpN_le m n m
                have a2 : (m + 1) ^ n ≤ 9 ^ n := Nat.pow_le_pow_left (by omega) n
                have a3 : 9 ^ n ≤ 9 ^ 16 := Nat.pow_le_pow_right (by omega) hn
                have a4 : 9 ^ 16 < 2 ^ 63 := by decide
                omega
              have b2 : m ^ n < 2 ^ 63 := by
                have a2 : m ^ n ≤ 9 ^ n := Nat.pow_le_pow_left (by omega) n
                have a3 : 9 ^ n ≤ 9 ^ 16 := Nat.pow_le_pow_right (by omega) hn
                have a4 : 9 ^ 16 < 2 ^ 63 := by decide
                omega
              have e1 : (f_X1_countHours cc m n).1 = lN (dpN m n m) := g3
              have e2 : (f_X1_countHours cc m n).2.1 = lN (m ^ n) := g1
              rw [e1, e2, h9]
              exact low_eq b1 b2 (Nat.pow_pos (by omega)) xq
            · rw [if_neg (show ¬ nI 1 = 0 by decide), if_pos (show nI 1 = 1 from rfl)]
              obtain ⟨t1, t2, t3⟩ := tb_mean m (by omega)
              rw [show m + 1 - 1 = m by omega, t3]
              have e1 : (f_X1_countMean m).1 = lp_X1_countMean_14 m m 1 0 := rfl
              have e2 : (f_X1_countMean m).2 = lN 840 := rfl
              have e3 : (840 : Int64) = lN 840 := rfl
              rw [e1, e2, e3, t2]
              exact low_eq t1 (by decide) (by decide) xq
