theorem ft_congr {f g : Nat → Int32} (n : Nat) (h : ∀ q, q < n → f q = g q) : ∀ (k i : Nat), 1 ≤ i → i + k ≤ 30 → n ≤ 300 → lp_X5_findTake_2 f n k i = lp_X5_findTake_2 g n k i
  | 0, i, _, _, _ => rfl
  | k + 1, i, hi, hk, hn => by
    show (if nI n < nI (i * i) then (-6 : Int32) else if f (n - i * i) = -6 then nI (i * i) else lp_X5_findTake_2 f n k (i + 1)) = (if nI n < nI (i * i) then (-6 : Int32) else if g (n - i * i) = -6 then nI (i * i) else lp_X5_findTake_2 g n k (i + 1))
    have hsq : 1 ≤ i * i := Nat.mul_pos (by omega) (by omega)
    have hsq2 : i * i ≤ 30 * 30 := Nat.mul_le_mul (by omega) (by omega)
    by_cases c : nI n < nI (i * i)
    · rw [if_pos c, if_pos c]
    · rw [if_neg c, if_neg c]
      have hle : i * i ≤ n := by
        rcases Nat.lt_or_ge n (i * i) with h | h
        · exact absurd (nI_lt h (by omega)) c
        · exact h
      rw [h (n - i * i) (by omega), ft_congr n h k (i + 1) (by omega) (by omega) hn]
theorem tk_stable (i : Nat) : ∀ (d n : Nat), i < n → tkT (n + d) i = tkT n i
  | 0, n, _ => rfl
  | d + 1, n, h => by
    show upd (tkT (n + d)) (n + d) (tkF (tkT (n + d)) (n + d)) i = _
    rw [upd_ne _ _ (by omega)]
    exact tk_stable i d n h
theorem tk_val (i : Nat) (h : i ≤ 200) : tkT 201 i = lp_X5_findTake_2 (tkT 201) i 14 1 := by
  have e : tkT 201 i = tkT (i + 1) i := by
    have := tk_stable i (200 - i) (i + 1) (by omega)
    rw [show i + 1 + (200 - i) = 201 by omega] at this
    exact this
  rw [e]
  show upd (tkT i) i (tkF (tkT i) i) i = _
  rw [upd_eq]
  refine ft_congr i (fun q hq => ?_) 14 1 (by omega) (by omega) (by omega)
  have := tk_stable q (201 - i) i hq
  rw [show i + (201 - i) = 201 by omega] at this
  exact this.symm
theorem ft_vals (f : Nat → Int32) (n : Nat) : ∀ (k i : Nat), 1 ≤ i → i + k ≤ 30 → lp_X5_findTake_2 f n k i = -6 ∨ ∃ s, 1 ≤ s ∧ s ≤ 30 ∧ lp_X5_findTake_2 f n k i = nI (s * s)
  | 0, i, _, _ => Or.inl rfl
  | k + 1, i, hi, hk => by
    show (if nI n < nI (i * i) then (-6 : Int32) else if f (n - i * i) = -6 then nI (i * i) else lp_X5_findTake_2 f n k (i + 1)) = -6 ∨ ∃ s, 1 ≤ s ∧ s ≤ 30 ∧ (if nI n < nI (i * i) then (-6 : Int32) else if f (n - i * i) = -6 then nI (i * i) else lp_X5_findTake_2 f n k (i + 1)) = nI (s * s)
    by_cases c : nI n < nI (i * i)
    · rw [if_pos c]; exact Or.inl rfl
    · rw [if_neg c]
      by_cases c2 : f (n - i * i) = -6
      · rw [if_pos c2]; exact Or.inr ⟨i, hi, by omega, rfl⟩
      · rw [if_neg c2]; exact ft_vals f n k (i + 1) (by omega) (by omega)
theorem ft_sign (f : Nat → Int32) (n : Nat) : lp_X5_findTake_2 f n 14 1 ≤ 0 ↔ lp_X5_findTake_2 f n 14 1 = -6 := by
  rcases ft_vals f n 14 1 (by omega) (by omega) with h | ⟨s, h1, h2, h⟩
  · rw [h]; decide
  · rw [h]
    have p1 : 1 ≤ s * s := Nat.mul_pos (by omega) (by omega)
    have p2 : s * s ≤ 30 * 30 := Nat.mul_le_mul h2 h2
    constructor
    · intro h; exact absurd h (nI_nle (by omega) (by omega))
    · intro h; exact absurd (show nI (s * s) < 0 by rw [h]; decide) (nI_pos (by omega))
theorem d42 (f r : Nat → Int32) (i : Nat) (hi : i ≤ 200) (hr : ∀ q, q < i → (r q = 0 ↔ f q = -6)) : ∀ (s d : Nat), s + d = 14 → lp_X9_drops_42 r i 14 (-6) = lp_X9_drops_42 r i s (lp_X5_findTake_2 f i d (s + 1))
  | s, 0, h => by
    have : s = 14 := by omega
    subst this; rfl
  | s, d + 1, h => by
    rw [d42 f r i hi hr (s + 1) d (by omega)]
    have hs1 : 1 ≤ (s + 1) * (s + 1) := Nat.mul_pos (by omega) (by omega)
    have hs2 : (s + 1) * (s + 1) ≤ 15 * 15 := Nat.mul_le_mul (by omega) (by omega)
    show (if nI i < nI ((s + 1) * (s + 1)) then lp_X9_drops_42 r i s (lp_X5_findTake_2 f i d (s + 1 + 1)) else if r (i - (s + 1) * (s + 1)) = 0 then lp_X9_drops_42 r i s (nI ((s + 1) * (s + 1))) else lp_X9_drops_42 r i s (lp_X5_findTake_2 f i d (s + 1 + 1))) =
      lp_X9_drops_42 r i s (if nI i < nI ((s + 1) * (s + 1)) then (-6 : Int32) else if f (i - (s + 1) * (s + 1)) = -6 then nI ((s + 1) * (s + 1)) else lp_X5_findTake_2 f i d (s + 1 + 1))
    by_cases c : nI i < nI ((s + 1) * (s + 1))
    · rw [if_pos c, if_pos c]
      have hlt : i < (s + 1) * (s + 1) := (nI_ltI (by omega) (by omega)).mp c
      have hs3 : (s + 1 + 1) * (s + 1 + 1) ≤ 16 * 16 := Nat.mul_le_mul (by omega) (by omega)
      have hs4 : (s + 1) * (s + 1) ≤ (s + 1 + 1) * (s + 1 + 1) := Nat.mul_le_mul (by omega) (by omega)
      have : lp_X5_findTake_2 f i d (s + 1 + 1) = -6 := by
        cases d with
        | zero => rfl
        | succ d =>
          show (if nI i < nI ((s + 1 + 1) * (s + 1 + 1)) then (-6 : Int32) else _) = -6
          rw [if_pos (nI_lt (by omega) (by omega))]
      rw [this]
    · rw [if_neg c, if_neg c]
      have hle : (s + 1) * (s + 1) ≤ i := by
        rcases Nat.lt_or_ge i ((s + 1) * (s + 1)) with h | h
        · exact absurd (nI_lt h (by omega)) c
        · exact h
      have hq := hr (i - (s + 1) * (s + 1)) (by omega)
      by_cases c2 : f (i - (s + 1) * (s + 1)) = -6
      · rw [if_pos c2, if_pos (hq.mpr c2)]
      · rw [if_neg c2, if_neg (fun h => c2 (hq.mp h))]
theorem d29 : ∀ (k i : Nat) (r : Nat → Int32) (v : Int32), i + k ≤ 200 → (∀ q, q < i → (r q = 0 ↔ tkT 201 q = -6)) → (lp_X9_drops_29 (k + 1) i r v).2 = tkT 201 (i + k)
  | k, i, r, v, hk, hr => by
    have e : lp_X9_drops_42 r i 14 (-6) = tkT 201 i := by
      rw [d42 (tkT 201) r i (by omega) hr 0 14 rfl, tk_val i (by omega)]; rfl
    have b0 : vp_nar .boolean (0 : Int32) = 0 := by decide +kernel
    have b1 : vp_nar .boolean (1 : Int32) = 1 := by decide +kernel
    have es : lp_X9_drops_29 (k + 1) i r v = if lp_X9_drops_42 r i 14 (-6) ≤ 0 then lp_X9_drops_29 k (i + 1) (upd r i (vp_nar .boolean (0 : Int32))) (lp_X9_drops_42 r i 14 (-6)) else lp_X9_drops_29 k (i + 1) (upd r i (vp_nar .boolean (1 : Int32))) (lp_X9_drops_42 r i 14 (-6)) := rfl
    have hs := ft_sign (tkT 201) i
    rw [← tk_val i (by omega)] at hs
    rw [es, e, b0, b1]
    cases k with
    | zero =>
      by_cases c : tkT 201 i ≤ 0
      · rw [if_pos c]; rfl
      · rw [if_neg c]; rfl
    | succ k =>
      have key : ∀ x : Int32, (x = 0 ↔ tkT 201 i = -6) → (lp_X9_drops_29 (k + 1) (i + 1) (upd r i x) (tkT 201 i)).2 = tkT 201 (i + (k + 1)) := fun x hx => by
        rw [d29 k (i + 1) (upd r i x) _ (by omega) (fun q hq => by
          by_cases c : q = i
          · subst c; rw [upd_eq]; exact hx
          · rw [upd_ne _ _ c]; exact hr q (by omega)), show i + 1 + k = i + (k + 1) by omega]
      by_cases c : tkT 201 i ≤ 0
      · rw [if_pos c]; exact key 0 ⟨fun _ => hs.mp c, fun _ => rfl⟩
      · rw [if_neg c]; exact key 1 ⟨fun h => absurd h (by decide), fun h => absurd (hs.mpr h) c⟩
theorem lw13 (n : Nat) (hn : n ≤ 200) : ∀ (k u : Nat) (r : Nat → Int32), 202 ≤ k + u → RelS r u → n < (lp_X5_leastWinningTake_13 n k u r).1 ∧ RelS (lp_X5_leastWinningTake_13 n k u r).2 (lp_X5_leastWinningTake_13 n k u r).1
  | 0, u, r, hk, h => absurd h.1 (by omega)
  | k + 1, u, r, hk, h => by
    have es : lp_X5_leastWinningTake_13 n (k + 1) u r = if nI n < nI u then (u, r) else lp_X5_leastWinningTake_13 n k (u + 1) (upd r u (f_X5_findTake r u)) := rfl
    have hu := h.1
    rw [es]
    by_cases c : nI n < nI u
    · rw [if_pos c]; exact ⟨(nI_ltI (by omega) (by omega)).mp c, h⟩
    · rw [if_neg c]
      have hle : u ≤ n := by
        rcases Nat.lt_or_ge n u with h | h
        · exact absurd (nI_lt h (by omega)) c
        · exact h
      refine lw13 n hn k (u + 1) _ (by omega) ⟨by omega, fun i hi => ?_⟩
      show upd r u (f_X5_findTake r u) i = upd (tkT u) u (tkF (tkT u) u) i
      by_cases ci : i = u
      · subst ci; rw [upd_eq, upd_eq]
        exact ft_congr i h.2 14 1 (by omega) (by omega) (by omega)
      · rw [upd_ne _ _ ci, upd_ne _ _ ci]; exact h.2 i (by omega)
theorem drops_eq (kn : Nat) (tk wins : Nat → Int32) (xn xk : Int32) (h : RelS tk kn) : (f_X8_drops kn tk xn xk).1 = (f_X9_drops wins xn xk).1 ∧ ∃ kn' : Nat, (f_X8_drops kn tk xn xk).2.1 = nI kn' ∧ RelS (f_X8_drops kn tk xn xk).2.2 kn' := by
  unfold f_X8_drops f_X9_drops
  rw [upto_in, upto_in]
  by_cases c1 : f_X9_in xn 0 200 = 0
  · rw [if_pos c1, if_pos c1]; exact ⟨rfl, kn, rfl, h⟩
  · rw [if_neg c1, if_neg c1]
    by_cases c2 : f_X9_in xk 0 1 = 0
    · rw [if_pos c2, if_pos c2]; exact ⟨rfl, kn, rfl, h⟩
    · rw [if_neg c2, if_neg c2]
      obtain ⟨n, hn, rfl⟩ := in_of (n := 200) (by decide) c1
      rw [nI_clamp (show n < 2 ^ 31 by omega)]
      have hl : f_X5_leastWinningTake kn tk n = ((lp_X5_leastWinningTake_13 n 202 kn tk).2 n, nI (lp_X5_leastWinningTake_13 n 202 kn tk).1, (lp_X5_leastWinningTake_13 n 202 kn tk).2) := by
        unfold f_X5_leastWinningTake
        rw [upto_in, if_neg c1]
      obtain ⟨l1, l2⟩ := lw13 n hn 202 kn tk (by omega) h
      have ev : (lp_X5_leastWinningTake_13 n 202 kn tk).2 n = tkT 201 n := by
        rw [l2.2 n l1]
        have := tk_stable n (201 - (lp_X5_leastWinningTake_13 n 202 kn tk).1) (lp_X5_leastWinningTake_13 n 202 kn tk).1 l1
        have l3 := l2.1
        rw [show (lp_X5_leastWinningTake_13 n 202 kn tk).1 + (201 - (lp_X5_leastWinningTake_13 n 202 kn tk).1) = 201 by omega] at this
        exact this.symm
      have e9 : (lp_X9_drops_29 (n + 1) 0 wins (-6)).2 = tkT 201 n := by
        have := d29 n 0 wins (-6) (by omega) (fun q hq => absurd hq (by omega))
        rw [Nat.zero_add] at this; exact this
      rw [hl, ev, e9]
      have hs := ft_sign (tkT 201) n
      rw [← tk_val n hn] at hs
      by_cases c3 : xk = 1
      · rw [if_pos c3, if_pos c3]; exact ⟨rfl, _, rfl, l2⟩
      · rw [if_neg c3, if_neg c3]
        by_cases c4 : tkT 201 n = -6
        · rw [if_pos c4, if_pos (hs.mpr c4)]; exact ⟨rfl, _, rfl, l2⟩
        · rw [if_neg c4, if_neg (fun h => c4 (hs.mp h))]; exact ⟨rfl, _, rfl, l2⟩
