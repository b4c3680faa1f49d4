theorem rr_z (n : Nat) (v : Int32) (r : Nat → Int32) (S : Int32) : lp_X0_readRow_15 n 0 r v S = (if v = 0 then (if f_J6_bitCount_0f7a4 S = nI n then ((1 : Int32), r) else (0, r)) else (0, r)) := rfl
theorem rr_s (n k : Nat) (v : Int32) (r : Nat → Int32) (S : Int32) : lp_X0_readRow_15 n (k + 1) r v S = if f_X8_isWay (v - v / 10 * 10) = 0 then ((0 : Int32), r) else lp_X0_readRow_15 n k (upd r k (v - v / 10 * 10)) (v / 10) (f_X8_withBit S (v - v / 10 * 10) 1) := rfl
theorem rr_lost (n : Nat) (hn : n ≤ 8) : ∀ (k : Nat) (v : Int32) (r : Nat → Int32) (S : Int32) (b : Nat), rng S 256 → f_X9_bits S = nI b → b + k < n → (lp_X0_readRow_15 n k r v S).1 = 0 := by
  intro k
  induction k with
  | zero =>
    intro v r S b hS hb hk
    rw [rr_z]
    by_cases c : v = 0
    · have hne : ¬ f_J6_bitCount_0f7a4 S = nI n := fun h => by
        rw [bits_eq hS (Nat.le_refl 256), hb] at h
        have := (nI_eq (show b < 2 ^ 31 by omega) (show n < 2 ^ 31 by omega)).mp h
        omega
      rw [if_pos c, if_neg hne]
    · rw [if_neg c]
  | succ k ih =>
    intro v r S b hS hb hk
    rw [rr_s, way_in]
    by_cases c : f_X9_in (v - v / 10 * 10) 0 7 = 0
    · rw [if_pos c]
    · rw [if_neg c]
      obtain ⟨d, hd, ed⟩ := in_of (n := 7) (by decide) c
      rw [ed]
      have t := hS
      obtain ⟨s, hs, rfl⟩ := t
      have t := tb_cnt s hs d (by omega)
      by_cases c2 : f_X9_has (nI s) (nI d) = 0
      · rw [if_pos c2, hb, ← nI_succ] at t
        exact ih _ _ _ (b + 1) (vb_rng1 hS (by omega)) t (by omega)
      · rw [if_neg c2] at t
        rw [t]
        exact ih _ _ _ b hS hb (by omega)

theorem rr_neg (n : Nat) : ∀ (k : Nat) (v : Int32) (r : Nat → Int32) (S : Int32), v < 0 → (lp_X0_readRow_15 n k r v S).1 = 0 := by
  intro k
  induction k with
  | zero =>
    intro v r S h
    rw [rr_z, if_neg (fun e => by rw [e] at h; exact absurd h (by decide))]
  | succ k ih =>
    intro v r S h
    rw [rr_s, way_in]
    by_cases c : f_X9_in (v - v / 10 * 10) 0 7 = 0
    · rw [if_pos c]
    · rw [if_neg c]
      refine ih _ _ _ ?_
      obtain ⟨d, hd, ed⟩ := in_of (n := 7) (by decide) c
      have h1 : (v / 10).toInt = v.toInt.tdiv 10 := Int32.toInt_div_of_ne_right _ _ (by decide)
      have hv : v.toInt < 0 := by have := Int32.lt_iff_toInt_lt.mp h; exact this
      have hlo : -2147483648 ≤ v.toInt := Int32.le_toInt v
      have e2 := congrArg Int32.toInt ed
      rw [nI_toInt (by omega), Int32.toInt_sub, Int32.toInt_mul, h1] at e2
      have h10 : (10 : Int32).toInt = 10 := rfl
      rw [h10] at e2
      have ht : v.toInt.tdiv 10 = -((-v.toInt) / 10) := by
        have : v.toInt = -(-v.toInt) := by omega
        rw [this, Int.neg_tdiv, Int.tdiv_eq_ediv_of_nonneg (by omega)]; simp
      rw [Int32.lt_iff_toInt_lt, h1, ht]
      rw [ht, Int.bmod_def, Int.bmod_def] at e2
      show _ < (0 : Int)
      omega
def pwr (i : Nat) : Int32 := if i = 0 then 1 else nI (10 ^ (i - 1))
theorem ag_z (mth : Int32) (bk : Nat → Int32) (xd xn : Int32) (i : Nat) (v p S : Int32) : lp_X9_agenda_28 mth bk xd xn 0 i v p S = (if v = 0 then (lp_X9_agenda_112 mth bk xd (xn.toNatClampNeg - 1) 1 p (xd / p)).2 else (-2 : Int32)) := rfl
theorem ag_s (mth : Int32) (bk : Nat → Int32) (xd xn : Int32) (k i : Nat) (v p S : Int32) : lp_X9_agenda_28 mth bk xd xn (k + 1) i v p S = (if (7 : Int32) < (v - v / 10 * 10) then (-2 : Int32) else (if f_X9_has S (v - v / 10 * 10) = 0 then (if nI i ≤ 0 then lp_X9_agenda_28 mth bk xd xn k (i + 1) (v / 10) (p * 1) (S ||| ((1 : Int32) <<< ((v - v / 10 * 10) &&& 31))) else lp_X9_agenda_28 mth bk xd xn k (i + 1) (v / 10) (p * 10) (S ||| ((1 : Int32) <<< ((v - v / 10 * 10) &&& 31)))) else (-2 : Int32))) := rfl
theorem pwr_s (i : Nat) (hi : i < 8) : (if nI i ≤ 0 then pwr i * 1 else pwr i * 10) = pwr (i + 1) := by
  have tb : ∀ i : Nat, i < 8 → (if nI i ≤ 0 then pwr i * 1 else pwr i * 10) = pwr (i + 1) := by decide +kernel
  exact tb i hi
theorem rr_run (mth : Int32) (bk : Nat → Int32) (xd : Int32) (n : Nat) (hn : n ≤ 8) : ∀ (k i V : Nat) (r : Nat → Int32) (S : Int32), i + k = n → V < 2 ^ 31 → rng S 256 → f_X9_bits S = nI i →
    ((lp_X0_readRow_15 n k r (nI V) S).1 = 0 ∧ lp_X9_agenda_28 mth bk xd (nI n) k i (nI V) (pwr i) S = -2) ∨
    ((lp_X0_readRow_15 n k r (nI V) S).1 = 1 ∧ lp_X9_agenda_28 mth bk xd (nI n) k i (nI V) (pwr i) S = (lp_X9_agenda_112 mth bk xd (n - 1) 1 (pwr n) (xd / pwr n)).2 ∧ V < 10 ^ k ∧ (∀ q, k ≤ q → (lp_X0_readRow_15 n k r (nI V) S).2 q = r q) ∧ ∀ q, q < k → (lp_X0_readRow_15 n k r (nI V) S).2 q = nI (V / 10 ^ (k - 1 - q) % 10) ∧ V / 10 ^ (k - 1 - q) % 10 < 8) := by
  intro k
  induction k with
  | zero =>
    intro i V r S hi hV hS hb
    rw [rr_z, ag_z, nI_clamp (show n < 2 ^ 31 by omega)]
    have hin : i = n := by omega
    subst hin
    by_cases c : nI V = 0
    · rw [if_pos c, if_pos c, bits_eq hS (Nat.le_refl 256), hb, if_pos rfl]
      have v0 : V = 0 := (nI_eq (b := 0) hV (by decide)).mp c
      exact Or.inr ⟨rfl, rfl, by rw [v0]; decide, fun q _ => rfl, fun q hq => absurd hq (by omega)⟩
    · rw [if_neg c, if_neg c]; exact Or.inl ⟨rfl, rfl⟩
  | succ k ih =>
    intro i V r S hi hV hS hb
    rw [rr_s, ag_s, way_in]
    have em : nI V - nI V / 10 * 10 = nI (V % 10) := nI_mod (b := 10) hV (by decide)
    have ed : nI V / 10 = nI (V / 10) := nI_div (b := 10) hV (by decide)
    have hd : V % 10 < 10 := Nat.mod_lt _ (by decide)
    rw [em, ed]
    by_cases c : V % 10 < 8
    · rw [show (7 : Int32) = nI 7 from rfl, if_neg (show ¬ f_X9_in (nI (V % 10)) 0 (nI 7) = 0 by rw [in_yes (by decide) (by omega)]; decide), if_neg (nI_nlt (b := V % 10) (by omega) (by decide))]
      have t := hS
      obtain ⟨s, hs, es⟩ := t
      have t := tb_cnt s hs (V % 10) c
      rw [← es] at t
      by_cases c2 : f_X9_has S (nI (V % 10)) = 0
      · rw [if_pos c2, hb, ← nI_succ] at t
        rw [if_pos c2, ← wb1]
        have step : (if nI i ≤ 0 then lp_X9_agenda_28 mth bk xd (nI n) k (i + 1) (nI (V / 10)) (pwr i * 1) (f_X8_withBit S (nI (V % 10)) 1) else lp_X9_agenda_28 mth bk xd (nI n) k (i + 1) (nI (V / 10)) (pwr i * 10) (f_X8_withBit S (nI (V % 10)) 1)) = lp_X9_agenda_28 mth bk xd (nI n) k (i + 1) (nI (V / 10)) (pwr (i + 1)) (f_X8_withBit S (nI (V % 10)) 1) := by
          have := pwr_s i (by omega)
          by_cases z : nI i ≤ 0
          · rw [if_pos z] at this ⊢; rw [this]
          · rw [if_neg z] at this ⊢; rw [this]
        rw [step]
        rcases ih (i + 1) (V / 10) (upd r k (nI (V % 10))) _ (by omega) (by omega) (vb_rng1 hS c) t with ⟨a1, a2⟩ | ⟨a1, a2, a3, a4, a5⟩
        · exact Or.inl ⟨a1, a2⟩
        · refine Or.inr ⟨a1, a2, ?_, fun q hq => ?_, fun q hq => ?_⟩
          · rw [Nat.pow_succ]; omega
          · rw [a4 q (by omega), upd_ne _ _ (by omega)]
          · by_cases z : q = k
            · subst z
              rw [a4 q (Nat.le_refl _), upd_eq, show q + 1 - 1 - q = 0 by omega]
              rw [Nat.pow_zero, Nat.div_one]
              exact ⟨rfl, c⟩
            · have a6 := a5 q (by omega)
              rw [Nat.div_div_eq_div_mul, ← Nat.pow_succ', show (k - 1 - q).succ = k + 1 - 1 - q by omega] at a6
              exact a6
      · rw [if_neg c2] at t
        rw [if_neg c2, t]
        exact Or.inl ⟨rr_lost n hn k _ _ _ i hS hb (by omega), rfl⟩
    · have z : f_X9_in (nI (V % 10)) 0 7 = 0 := by
        unfold f_X9_in
        rw [if_neg (nI_pos (by omega)), if_pos (show (7 : Int32) < nI (V % 10) from nI_lt (a := 7) (by omega) (by omega))]
      rw [if_pos z, if_pos (show (7 : Int32) < nI (V % 10) from nI_lt (a := 7) (by omega) (by omega))]
      exact Or.inl ⟨rfl, rfl⟩
theorem l10_s (row : Nat → Int32) (th : Int32) (pts : Nat → Int32) (xn : Int32) (k i : Nat) (v : Int32) : lp_X0_leftOf_10 row th pts xn (k + 1) i v = (if xn ≤ nI i then v else (if f_X0_beats th pts v (row i) = 0 then lp_X0_leftOf_10 row th pts xn k (i + 1) (row i) else lp_X0_leftOf_10 row th pts xn k (i + 1) v)) := rfl
theorem l112_s (mth : Int32) (bk : Nat → Int32) (xd : Int32) (k i : Nat) (p v : Int32) : lp_X9_agenda_112 mth bk xd (k + 1) i p v = lp_X9_agenda_112 mth bk xd k (i + 1) (p / 10) (f_X9_winnerOf mth bk v (xd / (p / 10) - xd / (p / 10) / 10 * 10)) := rfl
theorem left_run {pts bk : Nat → Int32} {th mth : Int32} (h : ∀ q, q < 7 → pts q = bk q ∧ rng (bk q) 8) (e : th = mth) (ht : rng mth 128) (row : Nat → Int32) (V n : Nat) (hn : n ≤ 8) (hV : V < 2 ^ 31)
    (hrow : ∀ q, q < n → row q = nI (V / 10 ^ (n - 1 - q) % 10) ∧ V / 10 ^ (n - 1 - q) % 10 < 8) : ∀ (k i : Nat) (v : Int32), 1 ≤ i → i + k = n → rng v 8 → ∀ k2, k ≤ k2 → k2 ≤ 8 →
    lp_X0_leftOf_10 row th pts (nI n) k2 i v = (lp_X9_agenda_112 mth bk (nI V) k i (nI (10 ^ (n - i))) v).2 := by
  intro k
  induction k with
  | zero =>
    intro i v h1 hi hv k2 _ _
    cases k2 with
    | zero => rfl
    | succ k2 =>
      rw [l10_s, if_pos (nI_le (by omega) (by omega))]; rfl
  | succ k ih =>
    intro i v h1 hi hv k2 hk2 hk28
    obtain ⟨k2, rfl⟩ : ∃ x, k2 = x + 1 := ⟨k2 - 1, by omega⟩
    have hp : 10 ^ (n - i) < 2 ^ 31 := by
      have : 10 ^ (n - i) ≤ 10 ^ 8 := Nat.pow_le_pow_right (by decide) (by omega)
      have : 10 ^ 8 < 2 ^ 31 := by decide
      omega
    have e10 : 10 ^ (n - i) = 10 ^ (n - 1 - i) * 10 := by rw [← Nat.pow_succ]; congr 1; omega
    have ep : nI (10 ^ (n - i)) / 10 = nI (10 ^ (n - 1 - i)) := by
      rw [show (10 : Int32) = nI 10 from rfl, nI_div hp (by decide), e10, Nat.mul_div_cancel _ (by decide)]
    have eq1 : nI V / nI (10 ^ (n - 1 - i)) = nI (V / 10 ^ (n - 1 - i)) := nI_div hV (by omega)
    have hle : V / 10 ^ (n - 1 - i) ≤ V := Nat.div_le_self _ _
    have em : nI (V / 10 ^ (n - 1 - i)) - nI (V / 10 ^ (n - 1 - i)) / 10 * 10 = nI (V / 10 ^ (n - 1 - i) % 10) := nI_mod (b := 10) (by omega) (by decide)
    obtain ⟨r1, r2⟩ := hrow i (by omega)
    rw [l10_s, if_neg (nI_ge (by omega) (by omega)), l112_s, ep, eq1, em, ← r1]
    have hr : rng (row i) 8 := ⟨_, r2, r1⟩
    rw [win_eq h e ht hv hr, show n - 1 - i = n - (i + 1) by omega]
    by_cases c : f_X0_beats th pts v (row i) = 0
    · rw [if_pos c, if_pos c]; exact ih (i + 1) _ (by omega) (by omega) hr k2 (by omega) (by omega)
    · rw [if_neg c, if_neg c]; exact ih (i + 1) _ (by omega) (by omega) hv k2 (by omega) (by omega)
theorem agenda_eq {pts bk : Nat → Int32} {th mth : Int32} (h : ∀ q, q < 7 → pts q = bk q ∧ rng (bk q) 8) (e : th = mth) (ht : rng mth 128) (row : Nat → Int32) (xd xn : Int32) : (f_X8_agenda th pts row xd xn).1 = f_X9_agenda mth bk xd xn := by
  unfold f_X8_agenda f_X9_agenda
  by_cases c1 : xn < 2
  · have z : f_X9_in xn 2 8 = 0 := by unfold f_X9_in; rw [if_pos c1]
    rw [if_pos c1, if_pos z]
  · rw [if_neg c1]
    by_cases c2 : (8 : Int32) < xn
    · have z : f_X9_in xn 2 8 = 0 := by unfold f_X9_in; rw [if_neg c1, if_pos c2]
      rw [if_pos c2, if_pos z]
    · have z : ¬ f_X9_in xn 2 8 = 0 := by unfold f_X9_in; rw [if_neg c1, if_neg c2]; decide
      rw [if_neg c2, if_neg z]
      obtain ⟨em, lm1, lm2⟩ := rngIn (a := 2) (b := 8) (by decide) (by decide) z
      generalize xn.toNatClampNeg = n at em lm1 lm2
      subst em
      unfold f_X0_readRow
      by_cases c3 : 0 ≤ xd
      · rw [if_pos c3]
        obtain ⟨V, hV, rfl⟩ : ∃ V, V < 2 ^ 31 ∧ xd = nI V := by
          have h0 : (0 : Int) ≤ xd.toInt := by have := Int32.le_iff_toInt_le.mp c3; exact this
          refine ⟨xd.toInt.toNat, ?_, ?_⟩
          · have := Int32.toInt_lt xd; omega
          · rw [← Int32.toInt_inj, nI_toInt (by have := Int32.toInt_lt xd; omega)]; omega
        have b0 : f_X9_bits (0 : Int32) = nI 0 := by decide +kernel
        have run := rr_run mth bk (nI V) n lm2 n 0 V row 0 (by omega) hV ⟨0, by omega, rfl⟩ b0
        rw [show pwr 0 = 1 from rfl] at run
        rcases run with ⟨a1, a2⟩ | ⟨a1, a2, a3, a4, a5⟩
        · rw [if_pos a1, a2]
        · rw [if_neg (by rw [a1]; decide), a2]
          generalize (lp_X0_readRow_15 n n row (nI V) 0).2 = R at a5 ⊢
          show f_X0_leftOf R th pts (nI n) = _
          unfold f_X0_leftOf
          have hpw : pwr n = nI (10 ^ (n - 1)) := by unfold pwr; rw [if_neg (by omega)]
          have hp : 10 ^ (n - 1) < 2 ^ 31 := by
            have : 10 ^ (n - 1) ≤ 10 ^ 8 := Nat.pow_le_pow_right (by decide) (by omega)
            have : 10 ^ 8 < 2 ^ 31 := by decide
            omega
          obtain ⟨r1, r2⟩ := a5 0 (by omega)
          rw [show n - 1 - 0 = n - 1 by omega] at r1 r2
          have hlt : V / 10 ^ (n - 1) < 10 := by
            rw [Nat.div_lt_iff_lt_mul (Nat.pow_pos (by decide)), ← Nat.pow_succ']
            rw [show (n - 1).succ = n by omega]; exact a3
          rw [Nat.mod_eq_of_lt hlt] at r1 r2
          rw [hpw, nI_div hV hp, ← r1]
          exact left_run h e ht R V n lm2 hV a5 (n - 1) 1 _ (by omega) (by omega) ⟨_, r2, r1⟩ 7 (by omega) (by omega)
      · rw [if_neg c3, if_pos (rr_neg n n xd row 0 (by rw [← Int32.not_le]; exact c3))]
