def wdf (s t : Nat) : Nat := s &&& (127 ^^^ t)
theorem wdf_lt {s : Nat} (t : Nat) (hs : s < 128) : wdf s t < 128 := Nat.lt_of_le_of_lt Nat.and_le_left hs
theorem tb_127 : ∀ u : Nat, u < 7 → Nat.testBit 127 u = true := by decide
theorem lt7 {m i : Nat} (hm : m < 128) (h : m.testBit i = true) : i < 7 := by
  rcases Nat.lt_or_ge i 7 with c | c
  · exact c
  · have : m < 2 ^ i := Nat.lt_of_lt_of_le (show m < 2 ^ 7 from hm) (Nat.pow_le_pow_right (by decide) c)
    rw [Nat.testBit_lt_two_pow this] at h
    exact absurd h (by decide)
theorem wdf_bit {s t : Nat} (hs : s < 128) (u : Nat) : (wdf s t).testBit u = (s.testBit u && !(t.testBit u)) := by
  unfold wdf
  rw [Nat.testBit_and, Nat.testBit_xor]
  rcases Nat.lt_or_ge u 7 with c | c
  · rw [tb_127 u c]
    cases t.testBit u <;> rfl
  · have : s.testBit u = false := bit_no (fun h => absurd (lt7 hs h) (by omega))
    rw [this]; rfl
theorem wdf_tb {s t : Nat} (hs : s < 128) : wtb (wdf s t) = wdif (wtb s) (wtb t) := by
  funext u
  exact wdf_bit hs u
theorem tb_wdf : ∀ s : Nat, s < 128 → ∀ t : Nat, t < 128 → nI s &&& (nI t ^^^ (-1 : Int32)) = nI (wdf s t) := by decide +kernel
theorem wdf_sub {s t : Nat} (ht : t < 128) : wdf t s = 0 ↔ wsub (wtb t) (wtb s) = true := by
  rw [wsub_iff]
  constructor
  · intro h u hu h1
    have h2 := wdf_bit (t := s) ht u
    rw [h, Nat.zero_testBit] at h2
    have h1' : t.testBit u = true := h1
    rw [h1'] at h2
    show s.testBit u = true
    cases hh : s.testBit u with
    | true => rfl
    | false => rw [hh] at h2; exact absurd h2 (by decide)
  · intro h
    apply Nat.eq_of_testBit_eq
    intro u
    rw [wdf_bit ht, Nat.zero_testBit]
    cases hh : t.testBit u with
    | false => rfl
    | true =>
      have h3 : s.testBit u = true := h u (lt7 ht hh) hh
      rw [h3]; rfl
noncomputable def wW (N : Nat → Nat → Bool) (c s : Nat) : Nat := WC N (wtb s) c 7 0 (fun _ => wemp)
noncomputable def wtm (N : Nat → Nat → Bool) (c s t : Nat) : Nat := if wsub (wtb t) (wtb s) = true ∧ wok N (wtb t) wemp = true then wW N c (wdf s t) else 0
theorem wW_s {N : Nat → Nat → Bool} (hN : NSym N) (c : Nat) {s : Nat} (hs : s < 128) : wW N (c + 1) s = wsm 128 (wtm N c s) := by
  unfold wW
  rw [wc_ws, ← wnum N hN (wtb s) 7 0 wemp (fun T => WC N (wdif (wtb s) T) c 7 0 (fun _ => wemp)) rfl]
  refine wsm_congr fun t _ => ?_
  show (if wsub (wtb (2 ^ 0 * t)) (wtb s) = true ∧ wok N (wtb (2 ^ 0 * t)) wemp = true then WC N (wdif (wtb s) (wtb (2 ^ 0 * t))) c 7 0 (fun _ => wemp) else 0) = wtm N c s t
  rw [Nat.pow_zero, Nat.one_mul]
  unfold wtm wW
  rw [wdf_tb hs]
theorem wtm_hi (N : Nat → Nat → Bool) (c : Nat) {s t : Nat} (ht : t < 128) (h : s < t) : wtm N c s t = 0 := by
  unfold wtm
  rw [if_neg]
  intro hh
  have := Nat.le_of_testBit (n := t) (m := s) (fun i hi => wsub_iff.mp hh.1 i (lt7 ht hi) hi)
  omega
theorem wsm_cut {m n : Nat} {g : Nat → Nat} (h : m ≤ n) (hz : ∀ w, m ≤ w → w < n → g w = 0) : wsm n g = wsm m g := by
  rw [wsm_tail h hz, Nat.mul_zero, Nat.add_zero]
theorem wW_0 (N : Nat → Nat → Bool) {s : Nat} (hs : s < 128) : wW N 0 s = if s = 0 then 1 else 0 := by
  unfold wW
  by_cases c : s = 0
  · rw [if_pos c, c]
    exact wc_none N (wtb 0) 0 7 0 _ (fun u _ _ => Nat.zero_testBit u)
  · rw [if_neg c]
    obtain ⟨u, hu⟩ := Nat.exists_testBit_of_ne_zero c
    exact wc_some0 N (wtb s) 7 0 _ u (Nat.zero_le _) (lt7 hs hu) hu
theorem nI_and (a b : Nat) : nI a &&& nI b = nI (a &&& b) := by
  apply Int32.toBitVec_inj.mp
  rw [Int32.toBitVec_and]
  exact (BitVec.ofNat_and (x := a) (y := b)).symm
theorem nI_z {a : Nat} (h : a < 2 ^ 31) : nI a = 0 ↔ a = 0 := nI_eq (b := 0) h (by omega)
theorem and_z {a b : Nat} : a &&& b = 0 ↔ ∀ v, a.testBit v = true → b.testBit v = false := by
  constructor
  · intro h v hv
    have := Nat.testBit_and a b v
    rw [h, Nat.zero_testBit, hv, Bool.true_and] at this
    exact this.symm
  · intro h
    apply Nat.eq_of_testBit_eq
    intro v
    rw [Nat.testBit_and, Nat.zero_testBit]
    cases hh : a.testBit v with
    | false => rfl
    | true => rw [h v hh]; rfl
def wN (bs : Nat → Int32) : Nat → Nat → Bool := fun u v => (bs u).toNatClampNeg.testBit v
def BR (bs : Nat → Int32) : Prop := ∀ u, u < 7 → ∃ b, b < 128 ∧ bs u = nI b ∧ ∀ v, wN bs u v = b.testBit v
theorem br_of {bs : Nat → Int32} (h : ∀ q, q < 7 → rng (bs q) 128) : BR bs := fun u hu => by
  obtain ⟨b, hb, e⟩ := h u hu
  refine ⟨b, hb, e, fun v => ?_⟩
  unfold wN
  rw [e, nI_clamp (show b < 2 ^ 31 by omega)]
theorem ap_and {bs : Nat → Int32} (hb : BR bs) {u t : Nat} (hu : u < 7) (ht : t < 128) : bs u &&& nI t = 0 ↔ ∀ v, v < 7 → wN bs u v = true → t.testBit v = false := by
  obtain ⟨b, b1, b2, b3⟩ := hb u hu
  rw [b2, nI_and, nI_z (Nat.lt_of_le_of_lt Nat.and_le_left (show b < 2 ^ 31 by omega)), and_z]
  constructor
  · intro h v _ hv; rw [b3] at hv; exact h v hv
  · intro h v hv; exact h v (lt7 b1 hv) (by rw [b3]; exact hv)
theorem ap_loop {bs : Nat → Int32} {t : Nat} (ht : t < 128) : ∀ (k i : Nat), i + k = 7 → lp_X9_areApart_4 bs (nI t) k i 0 = 0 ∧ (lp_X9_areApart_4 bs (nI t) k i 1 = 0 ↔ ¬ ∀ u, i ≤ u → u < 7 → t.testBit u = true → bs u &&& nI t = 0) := by
  intro k
  induction k with
  | zero => intro i hi; exact ⟨rfl, fun h => absurd h (by show ¬ (1 : Int32) = 0; decide), fun h => absurd (fun u h1 h2 => absurd h2 (by omega)) h⟩
  | succ k ih =>
    intro i hi
    have e : ∀ v, lp_X9_areApart_4 bs (nI t) (k + 1) i v = (if v = 0 then lp_X9_areApart_4 bs (nI t) k (i + 1) 0 else (if f_X9_has (nI t) (nI i) = 0 then lp_X9_areApart_4 bs (nI t) k (i + 1) 1 else (if bs i &&& nI t = 0 then lp_X9_areApart_4 bs (nI t) k (i + 1) 1 else lp_X9_areApart_4 bs (nI t) k (i + 1) 0))) := fun _ => rfl
    obtain ⟨i1, i2⟩ := ih (i + 1) (by omega)
    rw [e, e, if_pos rfl, if_neg (show ¬ (1 : Int32) = 0 by decide)]
    refine ⟨i1, ?_⟩
    have hs := (tb_hs t (by omega) i (by omega)).1
    have skip : (t.testBit i = true → bs i &&& nI t = 0) → (lp_X9_areApart_4 bs (nI t) k (i + 1) 1 = 0 ↔ ¬ ∀ u, i ≤ u → u < 7 → t.testBit u = true → bs u &&& nI t = 0) := fun hsk => by
      rw [i2]
      constructor
      · intro h g; exact h (fun u h1 h2 h3 => g u (by omega) h2 h3)
      · intro h g
        refine h (fun u h1 h2 h3 => ?_)
        by_cases d : u = i
        · rw [d] at h3 ⊢; exact hsk h3
        · exact g u (by omega) h2 h3
    by_cases c1 : f_X9_has (nI t) (nI i) = 0
    · rw [if_pos c1]
      exact skip (fun h => by rw [hs.mp c1] at h; exact absurd h (by decide))
    · rw [if_neg c1]
      have hti : t.testBit i = true := Classical.byContradiction fun h => c1 (hs.mpr (bit_no h))
      by_cases c2 : bs i &&& nI t = 0
      · rw [if_pos c2]; exact skip (fun _ => c2)
      · rw [if_neg c2, i1]
        exact ⟨fun _ h => c2 (h i (Nat.le_refl _) (by omega) hti), fun _ => rfl⟩
theorem ap_eq {bs : Nat → Int32} (hb : BR bs) {t : Nat} (ht : t < 128) : f_X9_areApart bs (nI t) = 0 ↔ ¬ wok (wN bs) (wtb t) wemp = true := by
  unfold f_X9_areApart
  rw [(ap_loop ht 7 0 rfl).2, wok_iff]
  constructor
  · intro h g
    exact h (fun u _ h2 h3 => (ap_and hb h2 ht).mpr (fun v hv hn => (g u h2 h3 v hv hn).1))
  · intro h g
    exact h (fun u h2 h3 v hv hn => ⟨(ap_and hb h2 ht).mp (g u (Nat.zero_le _) h2 h3) v hv hn, rfl⟩)
theorem w96 {bs r7 : Nat → Int32} (hb : BR bs) {c s : Nat} (hs : s < 128) (h7 : ∀ q, q < 128 → r7 q = nI (wW (wN bs) c q)) : ∀ (k i : Nat) (r : Nat → Int32), i + k ≤ 128 → r s = nI (wsm i (wtm (wN bs) c s)) →
    lp_X9_ways_96 bs r7 s k i r s = nI (wsm (i + k) (wtm (wN bs) c s)) ∧ ∀ q, q ≠ s → lp_X9_ways_96 bs r7 s k i r q = r q := by
  intro k
  induction k with
  | zero => intro i r _ h; exact ⟨h, fun q _ => rfl⟩
  | succ k ih =>
    intro i r hi h
    have e : lp_X9_ways_96 bs r7 s (k + 1) i r = (if nI i &&& (nI s ^^^ (-1 : Int32)) = 0 then (if f_X9_areApart bs (nI i) = 0 then lp_X9_ways_96 bs r7 s k (i + 1) (upd r s (r s + 0)) else lp_X9_ways_96 bs r7 s k (i + 1) (upd r s (r s + r7 (nI s &&& (nI i ^^^ (-1 : Int32))).toNatClampNeg))) else lp_X9_ways_96 bs r7 s k (i + 1) (upd r s (r s + 0))) := rfl
    have step : ∀ x, r s + x = nI (wsm (i + 1) (wtm (wN bs) c s)) → lp_X9_ways_96 bs r7 s k (i + 1) (upd r s (r s + x)) s = nI (wsm (i + (k + 1)) (wtm (wN bs) c s)) ∧ ∀ q, q ≠ s → lp_X9_ways_96 bs r7 s k (i + 1) (upd r s (r s + x)) q = r q := fun x hx => by
      obtain ⟨a, b⟩ := ih (i + 1) (upd r s (r s + x)) (by omega) (by rw [upd_eq]; exact hx)
      rw [show i + 1 + k = i + (k + 1) by omega] at a
      exact ⟨a, fun q hq => by rw [b q hq, upd_ne _ _ hq]⟩
    have zero : wtm (wN bs) c s i = 0 → r s + 0 = nI (wsm (i + 1) (wtm (wN bs) c s)) := fun hz => by
      show r s + 0 = nI (wsm i (wtm (wN bs) c s) + wtm (wN bs) c s i)
      rw [hz, Int32.add_zero, Nat.add_zero]; exact h
    have hd : (nI (wdf i s) = 0) ↔ wsub (wtb i) (wtb s) = true := by
      rw [nI_z (Nat.lt_trans (wdf_lt s (show i < 128 by omega)) (by omega)), wdf_sub (by omega)]
    rw [e, tb_wdf i (by omega) s hs, tb_wdf s hs i (by omega), nI_clamp (Nat.lt_trans (wdf_lt i hs) (by omega))]
    by_cases c1 : nI (wdf i s) = 0
    · rw [if_pos c1]
      by_cases c2 : f_X9_areApart bs (nI i) = 0
      · rw [if_pos c2]
        exact step 0 (zero (by unfold wtm; rw [if_neg (fun hh => (ap_eq hb (by omega)).mp c2 hh.2)]))
      · rw [if_neg c2]
        refine step _ ?_
        have hok : wok (wN bs) (wtb i) wemp = true := Classical.byContradiction fun hh => c2 ((ap_eq hb (by omega)).mpr hh)
        show _ = nI (wsm i (wtm (wN bs) c s) + wtm (wN bs) c s i)
        rw [h7 _ (wdf_lt i hs), h, nI_add]
        congr 2
        unfold wtm
        rw [if_pos ⟨hd.mp c1, hok⟩]
    · rw [if_neg c1]
      exact step 0 (zero (by unfold wtm; rw [if_neg (fun hh => c1 (hd.mpr hh.1))]))
theorem w77 {bs r7 : Nat → Int32} (hb : BR bs) (hN : NSym (wN bs)) {c : Nat} (h7 : ∀ q, q < 128 → r7 q = nI (wW (wN bs) c q)) : ∀ (k i : Nat) (r : Nat → Int32), i + k = 128 → ∀ q, lp_X9_ways_77 bs r7 k i r q = if i ≤ q ∧ q < 128 then nI (wW (wN bs) (c + 1) q) else r q := by
  intro k
  induction k with
  | zero => intro i r hi q; rw [if_neg (by omega)]; rfl
  | succ k ih =>
    intro i r hi q
    show lp_X9_ways_77 bs r7 k (i + 1) (lp_X9_ways_96 bs r7 i (i + 1) 0 (upd r i 0)) q = _
    obtain ⟨a, b⟩ := w96 hb (show i < 128 by omega) h7 (i + 1) 0 (upd r i 0) (by omega) (upd_eq _ _ _)
    rw [ih (i + 1) _ (by omega)]
    by_cases d : q = i
    · rw [if_neg (by omega), if_pos (by omega), d, a, wW_s hN c (by omega), Nat.zero_add]
      rw [wsm_cut (m := i + 1) (n := 128) (by omega) (fun w h1 h2 => wtm_hi _ _ h2 (by omega))]
    · rw [b q d, upd_ne _ _ d]
      by_cases c2 : i + 1 ≤ q ∧ q < 128
      · rw [if_pos c2, if_pos (by omega)]
      · rw [if_neg c2, if_neg (by omega)]
theorem w163 (z : Nat → Int32) : ∀ (k i : Nat) (r : Nat → Int32) (q : Nat), lp_X9_ways_163 z k i r q = if i ≤ q ∧ q < i + k then z q else r q
  | 0, i, r, q => by rw [if_neg (by omega)]; rfl
  | k + 1, i, r, q => by
    show lp_X9_ways_163 z k (i + 1) (upd r i (z i)) q = _
    rw [w163 z k (i + 1)]
    by_cases c : q = i
    · subst c; rw [if_neg (by omega), if_pos (by omega), upd_eq]
    · rw [upd_ne _ _ c]
      by_cases c2 : i + 1 ≤ q ∧ q < i + 1 + k
      · rw [if_pos c2, if_pos (by omega)]
      · rw [if_neg c2, if_neg (by omega)]
theorem w24 : ∀ (k i : Nat) (r : Nat → Int32) (q : Nat), i + k ≤ 128 → lp_X9_ways_24 k i r q = if i ≤ q ∧ q < i + k then (if q = 0 then 1 else 0) else r q
  | 0, i, r, q, _ => by rw [if_neg (by omega)]; rfl
  | k + 1, i, r, q, hi => by
    have e : lp_X9_ways_24 (k + 1) i r = (if nI i = 0 then lp_X9_ways_24 k (i + 1) (upd r i 1) else lp_X9_ways_24 k (i + 1) (upd r i 0)) := rfl
    have go : ∀ x : Int32, x = (if i = 0 then 1 else 0) → lp_X9_ways_24 k (i + 1) (upd r i x) q = if i ≤ q ∧ q < i + (k + 1) then (if q = 0 then 1 else 0) else r q := fun x hx => by
      rw [w24 k (i + 1) (upd r i x) q (by omega)]
      by_cases c : q = i
      · subst c; rw [if_neg (by omega), if_pos (show q ≤ q ∧ q < q + (k + 1) by omega), upd_eq]; exact hx
      · rw [upd_ne _ _ c]
        by_cases c2 : i + 1 ≤ q ∧ q < i + 1 + k
        · rw [if_pos c2, if_pos (show i ≤ q ∧ q < i + (k + 1) by omega)]
        · rw [if_neg c2, if_neg (by omega)]
    rw [e]
    by_cases c : i = 0
    · rw [if_pos ((nI_z (by omega)).mpr c)]; exact go 1 (by rw [if_pos c])
    · rw [if_neg (fun h => c ((nI_z (by omega)).mp h))]; exact go 0 (by rw [if_neg c])
theorem w24_all (N : Nat → Nat → Bool) (r : Nat → Int32) : ∀ q, q < 128 → lp_X9_ways_24 128 0 r q = nI (wW N 0 q) := fun q hq => by
  rw [w24 128 0 r q (by omega), if_pos (show 0 ≤ q ∧ q < 0 + 128 by omega), wW_0 N hq]
  by_cases c : q = 0
  · rw [if_pos c, if_pos c]; rfl
  · rw [if_neg c, if_neg c]; rfl
theorem wY {bs r7 r8 : Nat → Int32} (hb : BR bs) (hN : NSym (wN bs)) {c : Nat} (h7 : ∀ q, q < 128 → r7 q = nI (wW (wN bs) c q)) : ∀ q, q < 128 → lp_X9_ways_163 (lp_X9_ways_77 bs r7 128 0 r8) 128 0 r7 q = nI (wW (wN bs) (c + 1) q) := fun q hq => by
  rw [w163, if_pos (by omega), w77 hb hN h7 128 0 r8 rfl, if_pos (by omega)]
theorem r68_s (t : Nat) (bs : Nat → Int32) (xn xk : Int32) (k i : Nat) (r7 r8 : Nat → Int32) : lp_X9_ways_68 t bs xn xk (k + 1) i r7 r8 = (if xk = 0 then (if nI i = xn then ((lp_X9_ways_163 (lp_X9_ways_77 bs r7 128 0 r8) 128 0 r7) t, lp_X9_ways_163 (lp_X9_ways_77 bs r7 128 0 r8) 128 0 r7, lp_X9_ways_77 bs r7 128 0 r8) else lp_X9_ways_68 t bs xn xk k (i + 1) (lp_X9_ways_163 (lp_X9_ways_77 bs r7 128 0 r8) 128 0 r7) (lp_X9_ways_77 bs r7 128 0 r8)) else (if (lp_X9_ways_163 (lp_X9_ways_77 bs r7 128 0 r8) 128 0 r7) t ≤ 0 then lp_X9_ways_68 t bs xn xk k (i + 1) (lp_X9_ways_163 (lp_X9_ways_77 bs r7 128 0 r8) 128 0 r7) (lp_X9_ways_77 bs r7 128 0 r8) else (nI i, lp_X9_ways_163 (lp_X9_ways_77 bs r7 128 0 r8) 128 0 r7, lp_X9_ways_77 bs r7 128 0 r8))) := rfl
theorem r68_0 {bs : Nat → Int32} (hb : BR bs) (hN : NSym (wN bs)) {t n : Nat} (ht : t < 128) (hn : n ≤ 8) : ∀ (k i : Nat) (r7 r8 : Nat → Int32), i + k = 8 → i < n → (∀ q, q < 128 → r7 q = nI (wW (wN bs) i q)) → (lp_X9_ways_68 t bs (nI n) 0 k (i + 1) r7 r8).1 = nI (wW (wN bs) n t) := by
  intro k
  induction k with
  | zero => intro i r7 r8 hi h; omega
  | succ k ih =>
    intro i r7 r8 hi h h7
    rw [r68_s, if_pos rfl]
    have hy := wY (r8 := r8) hb hN h7
    by_cases c : i + 1 = n
    · rw [if_pos (by rw [c])]
      show lp_X9_ways_163 (lp_X9_ways_77 bs r7 128 0 r8) 128 0 r7 t = _
      rw [hy t ht, c]
    · rw [if_neg (fun h => c ((nI_eq (by omega) (by omega)).mp h))]
      exact ih (i + 1) _ _ (by omega) (by omega) hy
