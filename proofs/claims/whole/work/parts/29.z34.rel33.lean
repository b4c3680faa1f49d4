theorem crep0 {pt : Nat → Int32} (h : ∀ w, w < 8 → pt w = 0) : CRep 0 (fun _ => wemp) pt := fun w hw => ⟨0, by decide, h w hw, fun v => Nat.zero_testBit v, fun _ _ => rfl⟩
theorem count_eq {near bs : Nat → Int32} (hb : BR bs) (e : ∀ q, q < 7 → near q = bs q) {t : Nat} (ht : t < 128) {pt : Nat → Int32} (h : ∀ w, w < 8 → pt w = 0) {n : Nat} (hn : n ≤ 8) : f_X4_count pt (nI t) near (nI n) = (nI (wW (wN bs) n t), pt) := by
  unfold f_X4_count
  have := sp0 hb e ht n 0 pt (fun _ => wemp) hn (Nat.zero_le _) (crep0 h) (fun _ _ => rfl)
  have h2 : f_X4_cf0 (nI t) near pt 0 (nI n) = (nI (wW (wN bs) n t), pt) := this
  rw [h2]
theorem wW_lt (N : Nat → Nat → Bool) {n : Nat} (t : Nat) (hn : n ≤ 8) : wW N n t < 2 ^ 31 := by
  have h := wc_le N (wtb t) hn 7 0 (fun _ => wemp)
  have h2 : (8 : Nat) ^ 7 = 2097152 := by decide
  unfold wW
  omega
theorem few_loop {near bs : Nat → Int32} (hb : BR bs) (hN : NSym (wN bs)) (e : ∀ q, q < 7 → near q = bs q) {t : Nat} (ht : t < 128) {pt : Nat → Int32} (h : ∀ w, w < 8 → pt w = 0) (xn : Int32) : ∀ (k i : Nat) (r7 r8 : Nat → Int32), i + k = 6 → (∀ q, q < 128 → r7 q = nI (wW (wN bs) i q)) →
    (lp_X4_fewest_13 (nI t) near k (i + 1) pt).1 = (lp_X9_ways_68 t bs xn 1 (k + 2) (i + 1) r7 r8).1 ∧ (lp_X4_fewest_13 (nI t) near k (i + 1) pt).2 = pt := by
  intro k
  induction k with
  | zero =>
    intro i r7 r8 hi h7
    have hi6 : i = 6 := by omega
    subst hi6
    rw [r68_s, if_neg (show ¬ (1 : Int32) = 0 by decide)]
    have hy := wY (r8 := r8) hb hN h7
    have hpos : 1 ≤ wW (wN bs) 7 t := wc_pos (wN bs) (wtb t) 7 0 (fun _ => wemp) rfl (fun _ _ => rfl)
    have hlt := wW_lt (wN bs) (n := 7) t (by decide)
    have hne : ¬ lp_X9_ways_163 (lp_X9_ways_77 bs r7 128 0 r8) 128 0 r7 t ≤ 0 := by
      rw [hy t ht]; exact nI_nle (n := wW (wN bs) 7 t) hpos hlt
    rw [if_neg hne]
    exact ⟨rfl, rfl⟩
  | succ k ih =>
    intro i r7 r8 hi h7
    have e1 : lp_X4_fewest_13 (nI t) near (k + 1) (i + 1) pt = (if (f_X4_count pt (nI t) near (nI (i + 1))).1 = 0 then lp_X4_fewest_13 (nI t) near k (i + 1 + 1) (f_X4_count pt (nI t) near (nI (i + 1))).2 else (nI (i + 1), (f_X4_count pt (nI t) near (nI (i + 1))).2)) := rfl
    rw [e1, count_eq hb e ht h (show i + 1 ≤ 8 by omega), r68_s, if_neg (show ¬ (1 : Int32) = 0 by decide)]
    have hy := wY (r8 := r8) hb hN h7
    have hlt := wW_lt (wN bs) (n := i + 1) t (by omega)
    dsimp only
    by_cases c : wW (wN bs) (i + 1) t = 0
    · rw [if_pos ((nI_z hlt).mpr c), if_pos (by rw [hy t ht, c]; decide)]
      exact ih (i + 1) _ _ (by omega) hy
    · rw [if_neg (fun hh => c ((nI_z hlt).mp hh)), if_neg (by rw [hy t ht]; exact nI_nle (by omega) hlt)]
      exact ⟨rfl, rfl⟩
theorem nsym_of {bs : Nat → Int32} (hb : BR bs) (h1 : ∀ u v : Nat, u < 7 → v < 7 → hbit (bs u) v → hbit (bs v) u) (h2 : ∀ u : Nat, u < 7 → ¬ hbit (bs u) u) : NSym (wN bs) := by
  have key : ∀ u v, u < 7 → v < 7 → (hbit (bs u) v ↔ wN bs u v = true) := fun u v hu hv => by
    obtain ⟨b, b1, b2, b3⟩ := hb u hu
    unfold hbit
    rw [b3, b2, (tb_hs b (by omega) v (by omega)).1]
    exact ⟨fun h => by cases hh : b.testBit v with
      | true => rfl
      | false => exact absurd hh h, fun h hh => by rw [hh] at h; exact absurd h (by decide)⟩
  exact ⟨fun u v hu hv h => (key v u hv hu).mp (h1 u v hu hv ((key u v hu hv).mpr h)), fun u hu => bit_no (fun h => h2 u hu ((key u u hu hu).mpr h))⟩
theorem ways_eq {near bs : Nat → Int32} (hb : BR bs) (hN : NSym (wN bs)) (e : ∀ q, q < 7 → near q = bs q) {t : Nat} (ht : t < 128) {pt : Nat → Int32} (h : ∀ w, w < 8 → pt w = 0) (iw mo : Nat → Int32) (xn xk : Int32) :
    (f_X8_ways (nI t) near pt xn xk).1 = (f_X9_ways t bs iw mo xn xk).1 ∧ (f_X8_ways (nI t) near pt xn xk).2 = pt := by
  unfold f_X8_ways f_X9_ways
  rw [upto_in]
  have dm : (f_X9_in xn 1 8 = 0 ↔ xn < 1 ∨ 8 < xn) := by
    unfold f_X9_in
    by_cases z1 : xn < 1
    · rw [if_pos z1]; exact ⟨fun _ => Or.inl z1, fun _ => rfl⟩
    · rw [if_neg z1]
      by_cases z2 : 8 < xn
      · rw [if_pos z2]; exact ⟨fun _ => Or.inr z2, fun _ => rfl⟩
      · rw [if_neg z2]; exact ⟨fun e => absurd e (by decide), fun e => by rcases e with e | e; exact absurd e z1; exact absurd e z2⟩
  by_cases c1 : xn < 1
  · rw [if_pos c1, if_pos (dm.mpr (Or.inl c1))]; exact ⟨rfl, rfl⟩
  · rw [if_neg c1]
    by_cases c2 : 8 < xn
    · rw [if_pos c2, if_pos (dm.mpr (Or.inr c2))]; exact ⟨rfl, rfl⟩
    · have hdm : ¬ f_X9_in xn 1 8 = 0 := fun e => by rcases dm.mp e with e | e; exact c1 e; exact c2 e
      rw [if_neg c2, if_neg hdm]
      by_cases c3 : f_X9_in xk 0 1 = 0
      · rw [if_pos c3, if_pos c3]; exact ⟨rfl, rfl⟩
      · rw [if_neg c3, if_neg c3]
        obtain ⟨en, n1, n2⟩ := rngIn (a := 1) (b := 8) (by decide) (by decide) hdm
        obtain ⟨k, hk, rfl⟩ := in_of (n := 1) (by decide) c3
        have hc : k = 0 ∨ k = 1 := by omega
        rcases hc with rfl | rfl
        · rw [if_pos (show nI 0 = 0 from rfl), if_neg (show ¬ nI 0 = 1 by decide), en]
          rw [count_eq hb e ht h n2]
          exact ⟨(r68_0 hb hN ht n2 8 0 _ mo rfl (by omega) (w24_all (wN bs) iw)).symm, rfl⟩
        · rw [if_neg (show ¬ nI 1 = 0 by decide), if_pos (show nI 1 = 1 from rfl)]
          unfold f_X4_fewest
          by_cases c4 : nI t = 0
          · rw [if_pos c4, if_pos c4]
            have t0 : t = 0 := (nI_z (by omega)).mp c4
            have e1 : lp_X4_fewest_13 (nI t) near 7 0 pt = (if (f_X4_count pt (nI t) near (nI 0)).1 = 0 then lp_X4_fewest_13 (nI t) near 6 1 (f_X4_count pt (nI t) near (nI 0)).2 else (nI 0, (f_X4_count pt (nI t) near (nI 0)).2)) := rfl
            rw [e1, count_eq hb e ht h (show 0 ≤ 8 by decide), wW_0 (wN bs) ht, if_pos t0, if_neg (show ¬ nI 1 = 0 by decide)]
            exact ⟨rfl, rfl⟩
          · rw [if_neg c4, if_neg c4]
            exact few_loop hb hN e ht h xn 6 0 _ mo rfl (w24_all (wN bs) iw)
