theorem stk_skip (ms : Nat) (sg : Nat → Int32) (xi : Int32) (k a r : Nat) (v : Int32) (ha : a < 8) (hr : 4 ≤ r) (hr' : r < 10) : lp_X9_stuck_4 ms sg xi (k + 1) (10 * a + r) v = lp_X9_stuck_4 ms sg xi k (10 * a + (r + 1)) v := by
  show (if f_X9_isFit ms sg (nI (10 * a + r)) = 0 then lp_X9_stuck_4 ms sg xi k (10 * a + r + 1) v else _) = _
  rw [if_pos (fit_no sg ms (10 * a + r) (by omega) (by omega))]
  rfl
theorem tell_real {sg : Nat → Int32} {ms : Nat} (hr : ∀ i, i < ms → rng (sg (2 * i)) 8 ∧ rng (sg (2 * i + 1)) 2) (xi : Int32) (k k' a r : Nat) (ha : a < 8) (hr4 : r < 4)
    (H : ∀ v, lp_X2_tell_4 (sgs sg 1 ms) (sgs sg 0 ms) xi k (4 * a + (r + 1)) v = lp_X9_stuck_4 ms sg xi k' (10 * a + (r + 1)) v) :
    ∀ v, lp_X2_tell_4 (sgs sg 1 ms) (sgs sg 0 ms) xi (k + 1) (4 * a + r) v = lp_X9_stuck_4 ms sg xi (k' + 1) (10 * a + r) v := by
  intro v
  show (if f_X2_fits (sgs sg 1 ms) (sgs sg 0 ms) (4 * a + r) = 0 then lp_X2_tell_4 (sgs sg 1 ms) (sgs sg 0 ms) xi k (4 * a + (r + 1)) v else if v = xi then nI (10 * ((4 * a + r) / 4) + (4 * a + r) % 4) else lp_X2_tell_4 (sgs sg 1 ms) (sgs sg 0 ms) xi k (4 * a + (r + 1)) (v + 1)) =
    (if f_X9_isFit ms sg (nI (10 * a + r)) = 0 then lp_X9_stuck_4 ms sg xi k' (10 * a + (r + 1)) v else if v = xi then nI (10 * a + r) else lp_X9_stuck_4 ms sg xi k' (10 * a + (r + 1)) (v + 1))
  rw [fit_at hr a r ha hr4, H v, H (v + 1), show 10 * ((4 * a + r) / 4) + (4 * a + r) % 4 = 10 * a + r by omega]
theorem tell_all {sg : Nat → Int32} {ms : Nat} (hr : ∀ i, i < ms → rng (sg (2 * i)) 8 ∧ rng (sg (2 * i + 1)) 2) (xi : Int32) (hx : ¬ xi = -1) : ∀ (b a : Nat), a + b = 8 → ∀ v, lp_X2_tell_4 (sgs sg 1 ms) (sgs sg 0 ms) xi (4 * b) (4 * a + 0) v = lp_X9_stuck_4 ms sg xi (10 * b) (10 * a + 0) v
  | 0, a, _, v => by
    show (-6 : Int32) = if xi = -1 then v else -6
    rw [if_neg hx]
  | b + 1, a, h, v => by
    have ih := tell_all hr xi hx b (a + 1) (by omega)
    have h4 : ∀ v, lp_X2_tell_4 (sgs sg 1 ms) (sgs sg 0 ms) xi (4 * b) (4 * a + 4) v = lp_X9_stuck_4 ms sg xi (10 * b + 6) (10 * a + 4) v := fun v => by
      rw [stk_skip ms sg xi (10 * b + 5) a 4 v (by omega) (by omega) (by omega), stk_skip ms sg xi (10 * b + 4) a 5 v (by omega) (by omega) (by omega), stk_skip ms sg xi (10 * b + 3) a 6 v (by omega) (by omega) (by omega), stk_skip ms sg xi (10 * b + 2) a 7 v (by omega) (by omega) (by omega), stk_skip ms sg xi (10 * b + 1) a 8 v (by omega) (by omega) (by omega), stk_skip ms sg xi (10 * b) a 9 v (by omega) (by omega) (by omega)]
      exact ih v
    have h3 := tell_real hr xi _ _ a 3 (by omega) (by omega) h4
    have h2 := tell_real hr xi _ _ a 2 (by omega) (by omega) h3
    have h1 := tell_real hr xi _ _ a 1 (by omega) (by omega) h2
    exact tell_real hr xi _ _ a 0 (by omega) (by omega) h1 v
theorem cnt_real {sg : Nat → Int32} {ms : Nat} (hr : ∀ i, i < ms → rng (sg (2 * i)) 8 ∧ rng (sg (2 * i + 1)) 2) (k k' a r : Nat) (ha : a < 8) (hr4 : r < 4)
    (H : ∀ c : Nat, c ≤ 4 * a + (r + 1) → lp_X2_count_4 (sgs sg 1 ms) (sgs sg 0 ms) k (4 * a + (r + 1)) (nI c) = lp_X9_stuck_4 ms sg (-1) k' (10 * a + (r + 1)) (nI c)) :
    ∀ c : Nat, c ≤ 4 * a + r → lp_X2_count_4 (sgs sg 1 ms) (sgs sg 0 ms) (k + 1) (4 * a + r) (nI c) = lp_X9_stuck_4 ms sg (-1) (k' + 1) (10 * a + r) (nI c) := by
  intro c hc
  show (if f_X2_fits (sgs sg 1 ms) (sgs sg 0 ms) (4 * a + r) = 0 then lp_X2_count_4 (sgs sg 1 ms) (sgs sg 0 ms) k (4 * a + (r + 1)) (nI c + 0) else lp_X2_count_4 (sgs sg 1 ms) (sgs sg 0 ms) k (4 * a + (r + 1)) (nI c + 1)) =
    (if f_X9_isFit ms sg (nI (10 * a + r)) = 0 then lp_X9_stuck_4 ms sg (-1) k' (10 * a + (r + 1)) (nI c) else if nI c = -1 then nI (10 * a + r) else lp_X9_stuck_4 ms sg (-1) k' (10 * a + (r + 1)) (nI c + 1))
  rw [if_neg (show ¬ nI c = -1 from fun h => nI_pos (n := c) (by omega) (by rw [h]; decide)), fit_at hr a r ha hr4, Int32.add_zero, ← nI_succ, H c (by omega), H (c + 1) (by omega)]
theorem cnt_all {sg : Nat → Int32} {ms : Nat} (hr : ∀ i, i < ms → rng (sg (2 * i)) 8 ∧ rng (sg (2 * i + 1)) 2) : ∀ (b a : Nat), a + b = 8 → ∀ c : Nat, c ≤ 4 * a + 0 → lp_X2_count_4 (sgs sg 1 ms) (sgs sg 0 ms) (4 * b) (4 * a + 0) (nI c) = lp_X9_stuck_4 ms sg (-1) (10 * b) (10 * a + 0) (nI c)
  | 0, a, _, c, _ => by
    show nI c = if (-1 : Int32) = -1 then nI c else -6
    rw [if_pos rfl]
  | b + 1, a, h, c, hc => by
    have ih := cnt_all hr b (a + 1) (by omega)
    have h4 : ∀ c, c ≤ 4 * a + 4 → lp_X2_count_4 (sgs sg 1 ms) (sgs sg 0 ms) (4 * b) (4 * a + 4) (nI c) = lp_X9_stuck_4 ms sg (-1) (10 * b + 6) (10 * a + 4) (nI c) := fun c hc => by
      rw [stk_skip ms sg (-1) (10 * b + 5) a 4 _ (by omega) (by omega) (by omega), stk_skip ms sg (-1) (10 * b + 4) a 5 _ (by omega) (by omega) (by omega), stk_skip ms sg (-1) (10 * b + 3) a 6 _ (by omega) (by omega) (by omega), stk_skip ms sg (-1) (10 * b + 2) a 7 _ (by omega) (by omega) (by omega), stk_skip ms sg (-1) (10 * b + 1) a 8 _ (by omega) (by omega) (by omega), stk_skip ms sg (-1) (10 * b) a 9 _ (by omega) (by omega) (by omega)]
      exact ih c (by omega)
    have h3 := cnt_real hr _ _ a 3 (by omega) (by omega) h4
    have h2 := cnt_real hr _ _ a 2 (by omega) (by omega) h3
    have h1 := cnt_real hr _ _ a 1 (by omega) (by omega) h2
    exact cnt_real hr _ _ a 0 (by omega) (by omega) h1 c hc
theorem stuck_eq {sg : Nat → Int32} {ms : Nat} (hr : ∀ i, i < ms → rng (sg (2 * i)) 8 ∧ rng (sg (2 * i + 1)) 2) (xi : Int32) : f_X8_stuck (sgs sg 1 ms) (sgs sg 0 ms) xi = f_X9_stuck ms sg xi := by
  unfold f_X8_stuck f_X9_stuck
  by_cases c : xi = -1
  · rw [if_pos c, c]; exact cnt_all hr 8 0 rfl 0 (by omega)
  · rw [if_neg c]; exact tell_all hr xi c 8 0 rfl 0
theorem ca51 (T : Int32) : ∀ (k i : Nat) (r : Nat → Int32) (q : Nat), lp_X2_countAgreeing_51 T k i r q = if i ≤ q ∧ q < i + k then r q + ((T >>> (nI q &&& 31)) &&& 1) else r q
  | 0, i, r, q => by rw [if_neg (by omega)]; rfl
  | k + 1, i, r, q => by
    show lp_X2_countAgreeing_51 T k (i + 1) (upd r i (r i + ((T >>> (nI i &&& 31)) &&& 1))) q = _
    rw [ca51 T k (i + 1)]
    by_cases c : q = i
    · subst c; rw [if_neg (by omega), if_pos (by omega), upd_eq]
    · rw [upd_ne _ _ c]
      by_cases c2 : i + 1 ≤ q ∧ q < i + 1 + k
      · rw [if_pos c2, if_pos (by omega)]
      · rw [if_neg c2, if_neg (by omega)]
theorem ca4 : ∀ (k i : Nat) (r : Nat → Int32) (q : Nat), lp_X2_countAgreeing_4 k i r q = if i ≤ q ∧ q < i + k then 0 else r q
  | 0, i, r, q => by rw [if_neg (by omega)]; rfl
  | k + 1, i, r, q => by
    show lp_X2_countAgreeing_4 k (i + 1) (upd r i 0) q = _
    rw [ca4 k (i + 1)]
    by_cases c : q = i
    · subst c; rw [if_neg (by omega), if_pos (by omega), upd_eq]
    · rw [upd_ne _ _ c]
      by_cases c2 : i + 1 ≤ q ∧ q < i + 1 + k
      · rw [if_pos c2, if_pos (by omega)]
      · rw [if_neg c2, if_neg (by omega)]
theorem ask_skip (ms : Nat) (sg : Nat → Int32) (f k a r : Nat) (v w : Int32) (ha : a < 8) (hr : 4 ≤ r) (hr' : r < 10) : lp_X9_ask_37 ms sg f (k + 1) (10 * a + r) v w = lp_X9_ask_37 ms sg f k (10 * a + (r + 1)) v w := by
  show (if f_X9_isFit ms sg (nI (10 * a + r)) = 0 then lp_X9_ask_37 ms sg f k (10 * a + r + 1) (v + 0) (w + 0) else _) = _
  rw [if_pos (fit_no sg ms (10 * a + r) (by omega) (by omega)), Int32.add_zero, Int32.add_zero]
  rfl
def AskR (ms : Nat) (sg : Nat → Int32) (f k k' i i' : Nat) : Prop := ∀ (r : Nat → Int32) (v : Int32), lp_X9_ask_37 ms sg f k' i' v (r f) = ((lp_X2_countAgreeing_25 (sgs sg 1 ms) (sgs sg 0 ms) k i r v).2, (lp_X2_countAgreeing_25 (sgs sg 1 ms) (sgs sg 0 ms) k i r v).1 f)
theorem ask_real {sg : Nat → Int32} {ms : Nat} (hr : ∀ i, i < ms → rng (sg (2 * i)) 8 ∧ rng (sg (2 * i + 1)) 2) (f : Nat) (hf : f < 8) (k k' a r : Nat) (ha : a < 8) (hr4 : r < 4)
    (H : AskR ms sg f k k' (4 * a + (r + 1)) (10 * a + (r + 1))) : AskR ms sg f (k + 1) (k' + 1) (4 * a + r) (10 * a + r) := by
  intro R v
  have e : lp_X2_countAgreeing_25 (sgs sg 1 ms) (sgs sg 0 ms) (k + 1) (4 * a + r) R v = if f_X2_fits (sgs sg 1 ms) (sgs sg 0 ms) (4 * a + r) = 0 then lp_X2_countAgreeing_25 (sgs sg 1 ms) (sgs sg 0 ms) k (4 * a + (r + 1)) R v else lp_X2_countAgreeing_25 (sgs sg 1 ms) (sgs sg 0 ms) k (4 * a + (r + 1)) (lp_X2_countAgreeing_51 (f_X2_thingsOf (4 * a + r)) 8 0 R) (v + 1) := rfl
  have tb := (tb_says (4 * a + r) (by omega) f hf).2.2
  rw [show gcd10 (4 * a + r) = 10 * a + r by unfold gcd10; omega] at tb
  rw [e]
  show (if f_X9_isFit ms sg (nI (10 * a + r)) = 0 then lp_X9_ask_37 ms sg f k' (10 * a + (r + 1)) (v + 0) (R f + 0) else if f_X9_saysYes (nI (10 * a + r)) (nI f) = 0 then lp_X9_ask_37 ms sg f k' (10 * a + (r + 1)) (v + 1) (R f + 0) else lp_X9_ask_37 ms sg f k' (10 * a + (r + 1)) (v + 1) (R f + 1)) = _
  rw [fit_at hr a r ha hr4]
  by_cases c : f_X2_fits (sgs sg 1 ms) (sgs sg 0 ms) (4 * a + r) = 0
  · rw [if_pos c, if_pos c, Int32.add_zero, Int32.add_zero]; exact H R v
  · rw [if_neg c, if_neg c]
    have h := H (lp_X2_countAgreeing_51 (f_X2_thingsOf (4 * a + r)) 8 0 R) (v + 1)
    rw [← h, ca51, if_pos (show 0 ≤ f ∧ f < 0 + 8 by omega), tb]
    by_cases c2 : f_X9_saysYes (nI (10 * a + r)) (nI f) = 0
    · rw [if_pos c2, if_pos c2]
    · rw [if_neg c2, if_neg c2]
theorem ask_all {sg : Nat → Int32} {ms : Nat} (hr : ∀ i, i < ms → rng (sg (2 * i)) 8 ∧ rng (sg (2 * i + 1)) 2) (f : Nat) (hf : f < 8) : ∀ (b a : Nat), a + b = 8 → AskR ms sg f (4 * b) (10 * b) (4 * a + 0) (10 * a + 0)
  | 0, a, _ => fun R v => rfl
  | b + 1, a, h => by
    have ih := ask_all hr f hf b (a + 1) (by omega)
    have h4 : AskR ms sg f (4 * b) (10 * b + 6) (4 * a + 4) (10 * a + 4) := fun R v => by
      rw [ask_skip ms sg f (10 * b + 5) a 4 _ _ (by omega) (by omega) (by omega), ask_skip ms sg f (10 * b + 4) a 5 _ _ (by omega) (by omega) (by omega), ask_skip ms sg f (10 * b + 3) a 6 _ _ (by omega) (by omega) (by omega), ask_skip ms sg f (10 * b + 2) a 7 _ _ (by omega) (by omega) (by omega), ask_skip ms sg f (10 * b + 1) a 8 _ _ (by omega) (by omega) (by omega), ask_skip ms sg f (10 * b) a 9 _ _ (by omega) (by omega) (by omega)]
      exact ih R v
    have h3 := ask_real hr f hf _ _ a 3 (by omega) (by omega) h4
    have h2 := ask_real hr f hf _ _ a 2 (by omega) (by omega) h3
    have h1 := ask_real hr f hf _ _ a 1 (by omega) (by omega) h2
    exact ask_real hr f hf _ _ a 0 (by omega) (by omega) h1
theorem tb_bit01 (T : Int32) (q : Nat) : (T >>> (nI q &&& 31)) &&& 1 = 0 ∨ (T >>> (nI q &&& 31)) &&& 1 = 1 := by
  generalize T >>> (nI q &&& 31) = x
  have : (x &&& 1).toBitVec = 0#32 ∨ (x &&& 1).toBitVec = 1#32 := by
    rw [Int32.toBitVec_and]
    show x.toBitVec &&& 1#32 = 0#32 ∨ x.toBitVec &&& 1#32 = 1#32
    cases hb : x.toBitVec.getLsbD 0
    · left
      apply BitVec.eq_of_getLsbD_eq
      intro i hi
      rw [BitVec.getLsbD_and]
      by_cases c : i = 0
      · subst c; rw [hb]; simp
      · simp [BitVec.getLsbD_one, c]
    · right
      apply BitVec.eq_of_getLsbD_eq
      intro i hi
      rw [BitVec.getLsbD_and]
      by_cases c : i = 0
      · subst c; rw [hb]; simp
      · simp [BitVec.getLsbD_one, c]
  rcases this with h | h
  · left; exact Int32.toBitVec_inj.mp h
  · right; exact Int32.toBitVec_inj.mp h
theorem ca25_bound (A R : Int32) : ∀ (k i : Nat) (r : Nat → Int32) (c : Nat), (∀ f, f < 8 → ∃ y, y ≤ c ∧ r f = nI y) → ∃ n, n ≤ c + k ∧ (lp_X2_countAgreeing_25 A R k i r (nI c)).2 = nI n ∧ ∀ f, f < 8 → ∃ y, y ≤ n ∧ (lp_X2_countAgreeing_25 A R k i r (nI c)).1 f = nI y
  | 0, i, r, c, h => ⟨c, by omega, rfl, h⟩
  | k + 1, i, r, c, h => by
    have e : lp_X2_countAgreeing_25 A R (k + 1) i r (nI c) = if f_X2_fits A R i = 0 then lp_X2_countAgreeing_25 A R k (i + 1) r (nI c) else lp_X2_countAgreeing_25 A R k (i + 1) (lp_X2_countAgreeing_51 (f_X2_thingsOf i) 8 0 r) (nI c + 1) := rfl
    rw [e]
    by_cases c1 : f_X2_fits A R i = 0
    · rw [if_pos c1]
      obtain ⟨n, h1, h2⟩ := ca25_bound A R k (i + 1) r c h
      exact ⟨n, by omega, h2⟩
    · rw [if_neg c1, ← nI_succ]
      obtain ⟨n, h1, h2⟩ := ca25_bound A R k (i + 1) (lp_X2_countAgreeing_51 (f_X2_thingsOf i) 8 0 r) (c + 1) (fun f hf => by
        obtain ⟨y, hy, hyr⟩ := h f hf
        rw [ca51, if_pos (by omega), hyr]
        rcases tb_bit01 (f_X2_thingsOf i) f with b | b
        · rw [b, Int32.add_zero]; exact ⟨y, by omega, rfl⟩
        · rw [b, ← nI_succ]; exact ⟨y + 1, by omega, rfl⟩)
      exact ⟨n, by omega, h2⟩
theorem tb_worst : ∀ n : Nat, n < 33 → ∀ y : Nat, y < 33 → y ≤ n → ((if nI y < nI n - nI y then nI n - nI y else nI y) = nI (max y (n - y)) ∧ (nI y ≤ nI n - nI y → nI n - nI y = nI (max y (n - y))) ∧ (¬ nI y ≤ nI n - nI y → nI y = nI (max y (n - y)))) := by decide +kernel
def AskJ (u v : Int32 × Int32) : Prop := (u = (-6, -6) ∧ v = (-6, 1000000)) ∨ ∃ (j : Nat) (w : Int32), j ≤ 8 ∧ u = (nI j, w) ∧ v = (nI j, w)
theorem ask21_step (ms : Nat) (sg : Nat → Int32) (k i : Nat) (v2 v3 N Y : Int32) (e1 : (lp_X9_ask_37 ms sg i 80 0 0 0).1 = N) (e2 : (lp_X9_ask_37 ms sg i 80 0 0 0).2 = Y) :
    lp_X9_ask_21 ms sg (k + 1) i v2 v3 = if Y ≤ N - Y then (if N ≤ 0 then lp_X9_ask_21 ms sg k (i + 1) v2 v3 else (if v3 ≤ N - Y then lp_X9_ask_21 ms sg k (i + 1) v2 v3 else lp_X9_ask_21 ms sg k (i + 1) (nI i) (N - Y))) else (if N ≤ 0 then lp_X9_ask_21 ms sg k (i + 1) v2 v3 else (if v3 ≤ Y then lp_X9_ask_21 ms sg k (i + 1) v2 v3 else lp_X9_ask_21 ms sg k (i + 1) (nI i) Y)) := by
  subst e1; subst e2; rfl
theorem ask_step (ms : Nat) (sg : Nat → Int32) (k i : Nat) (v2 v3 : Int32) {n y : Nat} (hn : n < 33) (hy : y ≤ n) (h0 : 0 < n) (e : lp_X9_ask_37 ms sg i 80 0 0 0 = (nI n, nI y)) :
    lp_X9_ask_21 ms sg (k + 1) i v2 v3 = if v3 ≤ nI (max y (n - y)) then lp_X9_ask_21 ms sg k (i + 1) v2 v3 else lp_X9_ask_21 ms sg k (i + 1) (nI i) (nI (max y (n - y))) := by
  obtain ⟨t1, t2, t3⟩ := tb_worst n hn y (by omega) hy
  rw [ask21_step ms sg k i v2 v3 (nI n) (nI y) (by rw [e]) (by rw [e]), if_neg (nI_nle h0 (by omega)), if_neg (nI_nle h0 (by omega))]
  by_cases c : nI y ≤ nI n - nI y
  · rw [if_pos c, t2 c]
  · rw [if_neg c]
    have t := t3 c
    generalize nI (max y (n - y)) = m at t ⊢
    rw [t]
theorem ask_loop (ms : Nat) (sg : Nat → Int32) (Z : Nat → Int32) (n : Nat) (hn : n < 33) (h0 : 0 < n) (hZ : ∀ f, f < 8 → ∃ y, y ≤ n ∧ Z f = nI y ∧ lp_X9_ask_37 ms sg f 80 0 0 0 = (nI n, nI y)) : ∀ (k i : Nat), i + k = 8 → ∀ u1 u2 v2 v3 : Int32, AskJ (u1, u2) (v2, v3) → AskJ (lp_X2_choose_20 (nI n) Z k i u1 u2) (lp_X9_ask_21 ms sg k i v2 v3)
  | 0, i, _, u1, u2, v2, v3, h => h
  | k + 1, i, hi, u1, u2, v2, v3, h => by
    obtain ⟨y, hy, hz, he⟩ := hZ i (by omega)
    obtain ⟨t1, t2, t3⟩ := tb_worst n hn y (by omega) hy
    have ih := ask_loop ms sg Z n hn h0 hZ k (i + 1) (by omega)
    rw [ask_step ms sg k i v2 v3 hn hy h0 he]
    have ec : lp_X2_choose_20 (nI n) Z (k + 1) i u1 u2 = (if nI n ≤ 0 then (u1, u2) else (if u1 = (-6 : Int32) then lp_X2_choose_20 (nI n) Z k (i + 1) (nI i) (if Z i < nI n - Z i then nI n - Z i else Z i) else (if u2 ≤ (if Z i < nI n - Z i then nI n - Z i else Z i) then lp_X2_choose_20 (nI n) Z k (i + 1) u1 u2 else lp_X2_choose_20 (nI n) Z k (i + 1) (nI i) (if Z i < nI n - Z i then nI n - Z i else Z i)))) := rfl
    rw [ec, if_neg (nI_nle h0 (by omega)), hz, t1]
    have hset : AskJ (nI i, nI (max y (n - y))) (nI i, nI (max y (n - y))) := Or.inr ⟨i, _, by omega, rfl, rfl⟩
    rcases h with ⟨h1, h2⟩ | ⟨j, w, hj, h1, h2⟩
    · obtain ⟨rfl, rfl⟩ := Prod.mk.inj h1
      obtain ⟨rfl, rfl⟩ := Prod.mk.inj h2
      rw [if_pos rfl, if_neg (show ¬ (1000000 : Int32) ≤ nI (max y (n - y)) from nI_ge (b := 1000000) (by omega) (by decide))]
      exact ih _ _ _ _ hset
    · obtain ⟨e1, e2⟩ := Prod.mk.inj h1
      obtain ⟨e3, e4⟩ := Prod.mk.inj h2
      rw [e1, e2, e3, e4]
      rw [if_neg (fun h => nI_pos (n := j) (by omega) (by rw [h]; decide))]
      by_cases c : w ≤ nI (max y (n - y))
      · rw [if_pos c, if_pos c]
        exact ih _ _ _ _ (Or.inr ⟨j, w, hj, rfl, rfl⟩)
      · rw [if_neg c, if_neg c]
        exact ih _ _ _ _ hset
theorem ask_none (ms : Nat) (sg : Nat → Int32) (h : ∀ f, f < 8 → (lp_X9_ask_37 ms sg f 80 0 0 0).1 = 0) : ∀ (k i : Nat), i + k = 8 → ∀ v2 v3 : Int32, lp_X9_ask_21 ms sg k i v2 v3 = (v2, v3)
  | 0, i, _, v2, v3 => rfl
  | k + 1, i, hi, v2, v3 => by
    have e1 := h i (by omega)
    have ih := ask_none ms sg h k (i + 1) (by omega)
    rw [ask21_step ms sg k i v2 v3 0 _ e1 rfl, if_pos (show (0 : Int32) ≤ 0 by decide), if_pos (show (0 : Int32) ≤ 0 by decide), ih, ite_self]
theorem ask_eq {sg : Nat → Int32} {ms : Nat} (hr : ∀ i, i < ms → rng (sg (2 * i)) 8 ∧ rng (sg (2 * i + 1)) 2) (x1 x2 : Int32) (ga : Nat → Int32) (xk : Int32) : (f_X8_ask (sgs sg 1 ms) (sgs sg 0 ms) x1 x2 ga xk).1 = f_X9_ask ms sg xk := by
  unfold f_X8_ask f_X9_ask
  rw [upto_in]
  by_cases c1 : f_X9_in xk 0 1 = 0
  · rw [if_pos c1, if_pos c1]
  · rw [if_neg c1, if_neg c1]
    have hb0 : ∀ f, f < 8 → lp_X2_countAgreeing_4 8 0 ga f = 0 := fun f hf => by rw [ca4, if_pos (by omega)]
    have hall := fun f (hf : f < 8) => (ask_all hr f hf 8 0 rfl) (lp_X2_countAgreeing_4 8 0 ga) 0
    obtain ⟨n, hn, en, hy⟩ := ca25_bound (sgs sg 1 ms) (sgs sg 0 ms) 32 0 (lp_X2_countAgreeing_4 8 0 ga) 0 (fun f hf => ⟨0, by omega, hb0 f hf⟩)
    have en' : (f_X2_countAgreeing ga (sgs sg 1 ms) (sgs sg 0 ms)).1 = nI n := en
    have hZ : ∀ f, f < 8 → ∃ y, y ≤ n ∧ (f_X2_countAgreeing ga (sgs sg 1 ms) (sgs sg 0 ms)).2 f = nI y ∧ lp_X9_ask_37 ms sg f 80 0 0 0 = (nI n, nI y) := fun f hf => by
      obtain ⟨y, hy1, hy2⟩ := hy f hf
      refine ⟨y, hy1, hy2, ?_⟩
      have := hall f hf
      rw [hb0 f hf] at this
      exact this.trans (by rw [← en, ← hy2]; rfl)
    have fin : AskJ (lp_X2_choose_20 (nI n) (f_X2_countAgreeing ga (sgs sg 1 ms) (sgs sg 0 ms)).2 8 0 (-6) (-6)) (lp_X9_ask_21 ms sg 8 0 (-6) 1000000) := by
      rcases Nat.eq_zero_or_pos n with z | z
      · subst z
        rw [ask_none ms sg (fun f hf => by obtain ⟨y, -, -, h⟩ := hZ f hf; rw [h]; rfl) 8 0 rfl]
        exact Or.inl ⟨rfl, rfl⟩
      · exact ask_loop ms sg _ n (by omega) z hZ 8 0 rfl _ _ _ _ (Or.inl ⟨rfl, rfl⟩)
    have e1 : (f_X2_choose ga (sgs sg 1 ms) (sgs sg 0 ms)).1 = (lp_X2_choose_20 (nI n) (f_X2_countAgreeing ga (sgs sg 1 ms) (sgs sg 0 ms)).2 8 0 (-6) (-6)).1 := by rw [← en']; rfl
    have e2 : (f_X2_choose ga (sgs sg 1 ms) (sgs sg 0 ms)).2.1 = (lp_X2_choose_20 (nI n) (f_X2_countAgreeing ga (sgs sg 1 ms) (sgs sg 0 ms)).2 8 0 (-6) (-6)).2 := by rw [← en']; rfl
    rcases fin with ⟨f1, f2⟩ | ⟨j, w, hj, f1, f2⟩
    · rw [f2, if_pos (show (-6 : Int32) < 0 by decide), e1, e2, f1]
      by_cases c2 : xk = 0
      · rw [if_pos c2]
      · rw [if_neg c2]
    · rw [f2, if_neg (nI_pos (n := j) (by omega)), e1, e2, f1]
      by_cases c2 : xk = 0
      · rw [if_pos c2, if_pos c2]
      · rw [if_neg c2, if_neg c2]
