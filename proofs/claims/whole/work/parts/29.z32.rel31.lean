def gl (G : (Nat → Int32) → Int32 → Int32 × (Nat → Int32)) (np xp xu xn : Int32) : Nat → Nat → (Nat → Int32) → Int32 → (Nat → Int32) × Int32
  | 0, _, r, v => (r, v)
  | k + 1, i, r, v => if xu < nI i then (r, v) else if xn ≤ nI i then (r, v) else if (r i &&& np) = 0 then (if nI i = xu then gl G np xp xu xn k (i + 1) (upd (G (upd r i (f_X8_withBit (r i) xp 1)) (if xu < nI (i + 1) then nI (i + 1) else xu)).2 i (f_X8_withBit ((G (upd r i (f_X8_withBit (r i) xp 1)) (if xu < nI (i + 1) then nI (i + 1) else xu)).2 i) xp 0)) (v + ((xn - xu) * (G (upd r i (f_X8_withBit (r i) xp 1)) (if xu < nI (i + 1) then nI (i + 1) else xu)).1)) else gl G np xp xu xn k (i + 1) (upd (G (upd r i (f_X8_withBit (r i) xp 1)) (if xu < nI (i + 1) then nI (i + 1) else xu)).2 i (f_X8_withBit ((G (upd r i (f_X8_withBit (r i) xp 1)) (if xu < nI (i + 1) then nI (i + 1) else xu)).2 i) xp 0)) (v + (G (upd r i (f_X8_withBit (r i) xp 1)) (if xu < nI (i + 1) then nI (i + 1) else xu)).1)) else gl G np xp xu xn k (i + 1) r v
theorem gl_s (G : (Nat → Int32) → Int32 → Int32 × (Nat → Int32)) (np xp xu xn : Int32) (k i : Nat) (r : Nat → Int32) (v : Int32) : gl G np xp xu xn (k + 1) i r v = (if xu < nI i then (r, v) else if xn ≤ nI i then (r, v) else if (r i &&& np) = 0 then (if nI i = xu then gl G np xp xu xn k (i + 1) (upd (G (upd r i (f_X8_withBit (r i) xp 1)) (if xu < nI (i + 1) then nI (i + 1) else xu)).2 i (f_X8_withBit ((G (upd r i (f_X8_withBit (r i) xp 1)) (if xu < nI (i + 1) then nI (i + 1) else xu)).2 i) xp 0)) (v + ((xn - xu) * (G (upd r i (f_X8_withBit (r i) xp 1)) (if xu < nI (i + 1) then nI (i + 1) else xu)).1)) else gl G np xp xu xn k (i + 1) (upd (G (upd r i (f_X8_withBit (r i) xp 1)) (if xu < nI (i + 1) then nI (i + 1) else xu)).2 i (f_X8_withBit ((G (upd r i (f_X8_withBit (r i) xp 1)) (if xu < nI (i + 1) then nI (i + 1) else xu)).2 i) xp 0)) (v + (G (upd r i (f_X8_withBit (r i) xp 1)) (if xu < nI (i + 1) then nI (i + 1) else xu)).1)) else gl G np xp xu xn k (i + 1) r v) := rfl
def CRep (p : Nat) (P : Nat → Nat → Bool) (pt : Nat → Int32) : Prop := ∀ w, w < 8 → ∃ x, x < 128 ∧ pt w = nI x ∧ (∀ v, x.testBit v = P w v) ∧ ∀ v, p ≤ v → P w v = false
def CSp (N : Nat → Nat → Bool) (U : Nat → Bool) (F : (Nat → Int32) → Int32 → Int32 → Int32 × (Nat → Int32)) (p : Nat) : Prop :=
  ∀ (n u : Nat) (pt : Nat → Int32) (P : Nat → Nat → Bool), n ≤ 8 → u ≤ n → CRep p P pt → (∀ w, u ≤ w → P w = wemp) → F pt (nI u) (nI n) = (nI (WC N U n (7 - p) p P), pt)
theorem gl_stop (G : (Nat → Int32) → Int32 → Int32 × (Nat → Int32)) (np xp xn : Int32) {u : Nat} (k i : Nat) (r : Nat → Int32) (v : Int32) (h : u < i) (hi : i ≤ 8) : gl G np xp (nI u) xn k i r v = (r, v) := by
  cases k with
  | zero => rfl
  | succ k => rw [gl_s, if_pos (nI_lt h (by omega))]
theorem tb_pow7 : ∀ p : Nat, p < 7 → 2 ^ p < 128 := by decide
theorem or_128 {a b : Nat} (ha : a < 128) (hb : b < 128) : a ||| b < 128 := Nat.or_lt_two_pow (n := 7) ha hb
theorem tb_back : ∀ x : Nat, x < 128 → ∀ p : Nat, p < 7 → x.testBit p = false → f_X8_withBit (nI (x ||| 2 ^ p)) (nI p) 0 = nI x := by decide +kernel
theorem gl_run {N : Nat → Nat → Bool} {U : Nat → Bool} {F : (Nat → Int32) → Int32 → Int32 → Int32 × (Nat → Int32)} {p : Nat} (hp : p < 7) (hF : CSp N U F (p + 1)) {np : Int32} (hnp : ∃ b, b < 128 ∧ np = nI b ∧ ∀ v, N p v = b.testBit v) {n u : Nat} (hn : n ≤ 8) (hu : u ≤ n) {pt : Nat → Int32} {P : Nat → Nat → Bool} (hr : CRep p P pt) (he : ∀ w, u ≤ w → P w = wemp) :
    ∀ (k i : Nat), i + k = 8 → i ≤ u → i ≤ n → gl (fun r x => F r x (nI n)) np (nI p) (nI u) (nI n) k i pt (nI (wsm i (fun w => if wcp N p (P w) = true then WC N U n (7 - (p + 1)) (p + 1) (wput P w p) else 0))) = (pt, nI (wsm n (fun w => if wcp N p (P w) = true then WC N U n (7 - (p + 1)) (p + 1) (wput P w p) else 0))) := by
  generalize hg : (fun w => if wcp N p (P w) = true then WC N U n (7 - (p + 1)) (p + 1) (wput P w p) else 0) = g
  have hgw : ∀ w, g w = if wcp N p (P w) = true then WC N U n (7 - (p + 1)) (p + 1) (wput P w p) else 0 := fun w => by rw [← hg]
  intro k
  induction k with
  | zero =>
    intro i hi h1 h2
    have : i = n := by omega
    rw [this]; rfl
  | succ k ih =>
    intro i hi h1 h2
    rw [gl_s, if_neg (nI_nlt h1 (by omega))]
    by_cases c0 : i = n
    · rw [if_pos (nI_le (by omega) (by omega)), c0]
    · have hin : i < n := by omega
      rw [if_neg (nI_ge hin (by omega))]
      obtain ⟨x, x1, x2, x3, x4⟩ := hr i (by omega)
      obtain ⟨b, b1, b2, b3⟩ := hnp
      have hcomp : (pt i &&& np = 0) ↔ wcp N p (P i) = true := by
        rw [x2, b2, nI_and, nI_z (Nat.lt_of_le_of_lt Nat.and_le_left (show x < 2 ^ 31 by omega)), Nat.and_comm, and_z, wcp_iff]
        constructor
        · intro h v _ hv; rw [← x3]; exact h v (by rw [← b3]; exact hv)
        · intro h v hv; rw [x3]; exact h v (lt7 b1 hv) (by rw [b3]; exact hv)
      have hxp : x.testBit p = false := by rw [x3]; exact x4 p (Nat.le_refl _)
      have hset : f_X8_withBit (pt i) (nI p) 1 = nI (x ||| 2 ^ p) := by
        rw [x2, wb1, (tb_bit p (by omega)).1, nI_or]
      have hrep : CRep (p + 1) (wput P i p) (upd pt i (nI (x ||| 2 ^ p))) := fun w hw => by
        by_cases d : w = i
        · refine ⟨x ||| 2 ^ p, or_128 x1 (tb_pow7 p hp), by rw [d, upd_eq], fun v => ?_, fun v hv => ?_⟩
          · rw [Nat.testBit_or, Nat.testBit_two_pow, x3, wput_at, if_pos d]
            by_cases dv : v = p
            · rw [dv, wins_p, decide_eq_true (rfl : p = p), Bool.or_true]
            · rw [wins_n _ dv, decide_eq_false (fun h => dv h.symm), Bool.or_false]
          · rw [wput_at, if_pos d, wins_n _ (by omega)]; exact x4 v (by omega)
        · obtain ⟨y, y1, y2, y3, y4⟩ := hr w hw
          refine ⟨y, y1, by rw [upd_ne _ _ d]; exact y2, fun v => ?_, fun v hv => ?_⟩
          · rw [wput_at, if_neg d]; exact y3 v
          · rw [wput_at, if_neg d]; exact y4 v (by omega)
      have hback : upd (upd pt i (nI (x ||| 2 ^ p))) i (f_X8_withBit (upd pt i (nI (x ||| 2 ^ p)) i) (nI p) 0) = pt := by
        funext q
        rw [upd_eq, tb_back x x1 p hp hxp]
        by_cases d : q = i
        · rw [d, upd_eq, x2]
        · rw [upd_ne _ _ d, upd_ne _ _ d]
      have hused : ∃ u', (if nI u < nI (i + 1) then nI (i + 1) else nI u) = nI u' ∧ u' ≤ n ∧ u ≤ u' ∧ i + 1 ≤ u' := by
        by_cases d : u < i + 1
        · exact ⟨i + 1, if_pos (nI_lt d (by omega)), by omega, by omega, Nat.le_refl _⟩
        · exact ⟨u, if_neg (nI_nlt (by omega) (by omega)), hu, Nat.le_refl _, by omega⟩
      obtain ⟨u', u1, u2, u3, u4⟩ := hused
      have hcall : F (upd pt i (nI (x ||| 2 ^ p))) (nI u') (nI n) = (nI (WC N U n (7 - (p + 1)) (p + 1) (wput P i p)), upd pt i (nI (x ||| 2 ^ p))) := hF n u' _ _ hn u2 hrep (fun w hw => by rw [wput_at, if_neg (by omega)]; exact he w (by omega))
      rw [hset, u1]
      (try dsimp only)
      rw [hcall]
      (try dsimp only)
      rw [hback]
      by_cases c1 : pt i &&& np = 0
      · rw [if_pos c1]
        have hgi : g i = WC N U n (7 - (p + 1)) (p + 1) (wput P i p) := by rw [hgw, if_pos (hcomp.mp c1)]
        rw [← hgi]
        by_cases c2 : i = u
        · rw [if_pos (by rw [c2]), gl_stop _ _ _ _ _ _ _ _ (by omega) (by omega)]
          congr 1
          have hsub : nI n - nI u = nI (n - u) := by
            have : nI n = nI (n - u) + nI u := by rw [nI_add, Nat.sub_add_cancel hu]
            rw [this, Int32.add_sub_cancel]
          have hmul : nI (n - u) * nI (g i) = nI ((n - u) * g i) := (Int32.ofNat_mul _ _).symm
          rw [hsub, hmul, nI_add]
          congr 1
          rw [wsm_tail (u := u) (x := g i) hu (fun w w1 w2 => ?_), c2]
          rw [hgi, hgw, he w w1, if_pos (wcp_emp N p)]
          exact wc_free N U w2 hin (7 - (p + 1)) (p + 1) p P (by rw [he w w1, he i (by omega)])
        · rw [if_neg (fun h => c2 ((nI_eq (by omega) (by omega)).mp h)), nI_add]
          exact ih (i + 1) (by omega) (by omega) (by omega)
      · rw [if_neg c1]
        have c2 : i ≠ u := fun h => c1 (hcomp.mpr (by rw [he i (by omega)]; exact wcp_emp N p))
        have hgi : g i = 0 := by rw [hgw, if_neg (fun h => c1 (hcomp.mpr h))]
        have := ih (i + 1) (by omega) (by omega) (by omega)
        rw [show wsm (i + 1) g = wsm i g + g i from rfl, hgi, Nat.add_zero] at this
        exact this
theorem tb_th : ∀ t : Nat, t < 128 → ∀ p : Nat, p < 7 → (f_X7_isThere (nI t) (nI p) = 0 ↔ t.testBit p = false) := by decide +kernel
theorem lev {N : Nat → Nat → Bool} {t : Nat} (ht : t < 128) {F F' : (Nat → Int32) → Int32 → Int32 → Int32 × (Nat → Int32)} {p : Nat} (hp : p < 7) (hF : CSp N (wtb t) F' (p + 1)) {np : Int32} (hnp : ∃ b, b < 128 ∧ np = nI b ∧ ∀ v, N p v = b.testBit v)
    (hd : ∀ pt xu xn, F pt xu xn = if f_X7_isThere (nI t) (nI p) = 0 then F' pt xu xn else ((gl (fun r x => F' r x xn) np (nI p) xu xn 8 0 pt 0).2, (gl (fun r x => F' r x xn) np (nI p) xu xn 8 0 pt 0).1)) : CSp N (wtb t) F p := by
  intro n u pt P hn hu hr he
  rw [hd, show 7 - p = (7 - (p + 1)) + 1 by omega, wc_s]
  by_cases c : f_X7_isThere (nI t) (nI p) = 0
  · rw [if_pos c, if_neg (by show ¬ t.testBit p = true; rw [(tb_th t ht p hp).mp c]; decide)]
    exact hF n u pt P hn hu (fun w hw => by
      obtain ⟨x, x1, x2, x3, x4⟩ := hr w hw
      exact ⟨x, x1, x2, x3, fun v hv => x4 v (by omega)⟩) he
  · have ht' : wtb t p = true := by
      refine Classical.byContradiction fun h => c ((tb_th t ht p hp).mpr ?_)
      exact bit_no h
    rw [if_neg c, if_pos ht']
    have := gl_run hp hF hnp hn hu hr he 8 0 rfl (Nat.zero_le _) (Nat.zero_le _)
    rw [show nI (wsm 0 (fun w => if wcp N p (P w) = true then WC N (wtb t) n (7 - (p + 1)) (p + 1) (wput P w p) else 0)) = 0 from rfl] at this
    rw [this]
