theorem ag_rng {th t : Int32} (now : Nat → Int32) : ∀ (k i : Nat) (v : Int32), i + k ≤ 7 → rng v 128 → rng (lp_X9_agreeing_4 th now t k i v) 128 := by
  intro k
  induction k with
  | zero => intro i v _ h; exact h
  | succ k ih =>
    intro i v hi h
    have e : lp_X9_agreeing_4 th now t (k + 1) i v = (if f_X9_isThere th (nI i) = 0 then lp_X9_agreeing_4 th now t k (i + 1) (v ||| 0) else if (2 : Int32) ≤ f_X9_apartOf (now i) t then lp_X9_agreeing_4 th now t k (i + 1) (v ||| 0) else lp_X9_agreeing_4 th now t k (i + 1) (v ||| ((1 : Int32) <<< (nI i &&& 31)))) := rfl
    rw [e, or0, ← wb1]
    by_cases c1 : f_X9_isThere th (nI i) = 0
    · rw [if_pos c1]; exact ih _ _ (by omega) h
    · rw [if_neg c1]
      by_cases c2 : (2 : Int32) ≤ f_X9_apartOf (now i) t
      · rw [if_pos c2]; exact ih _ _ (by omega) h
      · rw [if_neg c2]; exact ih _ _ (by omega) (wb_rng1 h (by omega))
theorem carry_eq {pts now : Nat → Int32} {th t : Int32} (h : ∀ q, q < 7 → pts q = now q ∧ rng (now q) 8) (ht : rng th 128) (hx : rng t 8) : f_X7_wouldCarry th pts t = f_X9_isCarried th now t := by
  unfold f_X7_wouldCarry f_X9_isCarried f_X7_parishesThere
  have hr : rng (f_X9_agreeing th now t) 128 := ag_rng now 7 0 0 (by omega) ⟨0, by omega, rfl⟩
  rw [agreeing_eq h rfl ht hx, bits_eq ht (by omega), bits_eq hr (by omega)]
theorem rv_pts {th fr he wi oi ho : Int32} {pts trd now : Nat → Int32} (h : RV th fr he wi oi ho pts trd now) : ∀ q, q < 7 → pts q = now q ∧ rng (now q) 8 := fun q hq => (h.1 q hq).1
theorem rv_init {pts trd nr : Nat → Int32} {th fr he wi oi ho si ag re : Int32} {bk : Nat → Int32} {mth : Int32} {bs : Nat → Int32} {ms : Nat} {sg : Nat → Int32} (h : RelW pts trd nr th fr he wi oi ho si ag re bk mth bs ms sg)
    {pts' trd' now : Nat → Int32} (e1 : ∀ q, q < 7 → pts' q = pts q ∧ trd' q = trd q) (e2 : ∀ q, q < 19 → now q = bk q) : RV mth fr he wi oi ho pts' trd' now := by
  obtain ⟨hq, h1, h2, h3, h4, h5, h6, h7, h8, h9, w1, w2, w3, w4, w5, w6, w7, w8⟩ := h
  refine ⟨fun q hq' => ?_, ?_, ?_, ?_, ?_, ?_, w2⟩
  · rw [(e1 q hq').1, (e1 q hq').2, e2 q (by omega), e2 (7 + q) (by omega)]
    exact ⟨⟨(hq q hq').1, (w1 q hq').1⟩, (hq q hq').2.1, (w1 q hq').2.1⟩
  · rw [e2 14 (by omega)]; exact ⟨h2, w3⟩
  · rw [e2 15 (by omega)]; exact ⟨h3, w4⟩
  · rw [e2 16 (by omega)]; exact ⟨h4, w5⟩
  · rw [e2 17 (by omega)]; exact ⟨h5, w6⟩
  · rw [e2 18 (by omega)]; exact ⟨h6, w7⟩
theorem soon_loop {xt xw : Int32} (hx : rng xt 8) (th fr he oi ho z3 z4 z5 z6 z7 z8 z9 : Int32) (z10 : Nat → Int32) (y1 y2 : Int32) : ∀ (k i : Nat) (r7 r8 now : Nat → Int32), RV th fr he xw oi ho r7 r8 now →
    (lp_X8_soon_38 xt xw th fr z3 z4 z5 z6 z7 z8 z9 z10 k i r7 r8).1 = (lp_X9_soon_39 th xt y1 y2 k i now).1 := by
  intro k
  induction k with
  | zero => intro i r7 r8 now h; rfl
  | succ k ih =>
    intro i r7 r8 now h
    have e1 : lp_X8_soon_38 xt xw th fr z3 z4 z5 z6 z7 z8 z9 z10 (k + 1) i r7 r8 = (if f_X7_wouldCarry th r7 xt = 0 then lp_X8_soon_38 xt xw th fr z3 z4 z5 z6 z7 z8 z9 z10 k (i + 1) (f_X7_turnVanes th fr r7 r8 xw).1 (f_X7_turnVanes th fr r7 r8 xw).2 else (nI i, th, fr, z3, z4, z5, z6, z7, z8, z9, r7, r8, z10)) := rfl
    have e2 : lp_X9_soon_39 th xt y1 y2 (k + 1) i now = (if f_X9_isCarried th now xt = 0 then lp_X9_soon_39 th xt y1 y2 k (i + 1) (f_X9_turnAll th now) else (nI i, y1, y2, now)) := rfl
    rw [e1, e2, carry_eq (rv_pts h) h.2.2.2.2.2.2 hx]
    by_cases c : f_X9_isCarried th now xt = 0
    · rw [if_pos c, if_pos c]; exact ih _ _ _ _ (rv_turn h)
    · rw [if_neg c, if_neg c]
theorem soon_eq {pts trd nr : Nat → Int32} {th fr he wi oi ho si ag re : Int32} {bk : Nat → Int32} {mth : Int32} {bs : Nat → Int32} {ms : Nat} {sg : Nat → Int32} (h : RelW pts trd nr th fr he wi oi ho si ag re bk mth bs ms sg)
    (a1 a2 a3 a4 a5 a6 a7 a8 a9 : Int32) (b1 b2 b3 : Nat → Int32) (y1 y2 : Int32) (now : Nat → Int32) (xt xw : Int32) : (f_X8_soon th fr he wi oi ho si ag re pts trd nr a1 a2 a3 a4 a5 a6 a7 a8 a9 b1 b2 b3 xt xw).1 = (f_X9_soon mth y1 y2 bk now xt xw).1 := by
  unfold f_X8_soon f_X9_soon
  rw [way_in, way_in]
  by_cases c1 : f_X9_in xt 0 7 = 0
  · rw [if_pos c1, if_pos c1]
  · rw [if_neg c1, if_neg c1]
    by_cases c2 : f_X9_in xw 0 7 = 0
    · rw [if_pos c2, if_pos c2]
    · rw [if_neg c2, if_neg c2]
      obtain ⟨t, ht, rfl⟩ := in_of (n := 7) (by decide) c1
      obtain ⟨w, hw, rfl⟩ := in_of (n := 7) (by decide) c2
      have hrv := rv_init h (pts' := (lp_X7_becomeLike_2 pts trd nr 7 0 b1 b2 b3).1) (trd' := (lp_X7_becomeLike_2 pts trd nr 7 0 b1 b2 b3).2.1) (now := (f_X9_asNow bk now).2.2) (fun q hq => ⟨(like_lt pts trd nr b1 b2 b3 hq).1, (like_lt pts trd nr b1 b2 b3 hq).2.1⟩) (fun q hq => asnow_lt bk now hq)
      obtain ⟨g1, g2, g3, g4, g5, g6, g7⟩ := hrv
      have hth : th = mth := h.2.1
      rw [← hth] at g7
      have hrv2 : RV th fr he (nI w) oi ho (lp_X7_becomeLike_2 pts trd nr 7 0 b1 b2 b3).1 (lp_X7_becomeLike_2 pts trd nr 7 0 b1 b2 b3).2.1 (upd (f_X9_asNow bk now).2.2 16 (nI w)) := by
        refine ⟨fun q hq => ?_, ?_, ?_, ?_, ?_, ?_, g7⟩
        · rw [upd_ne _ _ (show q ≠ 16 by omega), upd_ne _ _ (show 7 + q ≠ 16 by omega)]; exact g1 q hq
        · exact g2
        · exact g3
        · exact ⟨rfl, rng_nI (by omega)⟩
        · exact g5
        · exact g6
      rw [← hth]
      exact soon_loop (rng_nI (by omega)) th fr he oi ho _ _ _ _ _ _ _ _ _ _ 9 0 _ _ _ hrv2
