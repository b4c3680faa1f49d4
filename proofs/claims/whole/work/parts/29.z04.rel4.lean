theorem tb_apl : ∀ a : Nat, a < 8 → ∀ b : Nat, b < 8 → ((1 : Int32) < f_X9_apartOf (nI a) (nI b) ↔ (2 : Int32) ≤ f_X9_apartOf (nI a) (nI b)) := by decide +kernel
theorem ag_eq {pts now : Nat → Int32} {th t : Int32} (h : ∀ q, q < 7 → pts q = now q ∧ rng (now q) 8) (ht : rng th 128) (hx : rng t 8) : ∀ (k i : Nat) (v : Int32), i + k ≤ 7 → lp_X7_agreeing_4 th pts t k i v = lp_X9_agreeing_4 th now t k i v
  | 0, _, _, _ => rfl
  | k + 1, i, v, hi => by
    have e1 := (h i (by omega)).1
    have e2 := (h i (by omega)).2
    show (if f_X7_isThere th (nI i) = 0 then lp_X7_agreeing_4 th pts t k (i + 1) v else if (1 : Int32) < f_X8_apart (pts i) t then lp_X7_agreeing_4 th pts t k (i + 1) v else lp_X7_agreeing_4 th pts t k (i + 1) (f_X8_withBit v (nI i) 1)) =
      (if f_X9_isThere th (nI i) = 0 then lp_X9_agreeing_4 th now t k (i + 1) (v ||| 0) else if (2 : Int32) ≤ f_X9_apartOf (now i) t then lp_X9_agreeing_4 th now t k (i + 1) (v ||| 0) else lp_X9_agreeing_4 th now t k (i + 1) (v ||| ((1 : Int32) <<< (nI i &&& 31))))
    rw [there_eq ht, e1, apart_eq e2 hx, or0, ← wb1]
    have ih := ag_eq h ht hx k (i + 1)
    by_cases c1 : f_X9_isThere th (nI i) = 0
    · rw [if_pos c1, if_pos c1]; exact ih _ (by omega)
    · rw [if_neg c1, if_neg c1]
      have tb : (1 : Int32) < f_X9_apartOf (now i) t ↔ (2 : Int32) ≤ f_X9_apartOf (now i) t := by
        obtain ⟨a, ha, hae⟩ := e2
        obtain ⟨b, hb, hbe⟩ := hx
        rw [hae, hbe]; exact tb_apl a ha b hb
      by_cases c2 : (2 : Int32) ≤ f_X9_apartOf (now i) t
      · rw [if_pos c2, if_pos (tb.mpr c2)]; exact ih _ (by omega)
      · rw [if_neg c2, if_neg (fun h => c2 (tb.mp h))]; exact ih _ (by omega)
theorem agreeing_eq {pts now : Nat → Int32} {th mth t : Int32} (h : ∀ q, q < 7 → pts q = now q ∧ rng (now q) 8) (e : th = mth) (ht : rng mth 128) (hx : rng t 8) : f_X7_agreeing th pts t = f_X9_agreeing mth now t := by
  rw [e]; exact ag_eq h ht hx 7 0 0 (by omega)
theorem asnow_at (bk : Nat → Int32) : ∀ (k i : Nat) (r : Nat → Int32) (q : Nat), lp_X9_asNow_2 bk k i r q = if i ≤ q ∧ q < i + k then bk q else r q
  | 0, i, r, q => by rw [if_neg (by omega)]; rfl
  | k + 1, i, r, q => by
    show lp_X9_asNow_2 bk k (i + 1) (upd r i (bk i)) q = _
    rw [asnow_at bk k (i + 1)]
    by_cases c : q = i
    · subst c; rw [if_neg (by omega), if_pos (by omega), upd_eq]
    · rw [upd_ne _ _ c]
      by_cases c2 : i + 1 ≤ q ∧ q < i + 1 + k
      · rw [if_pos c2, if_pos (by omega)]
      · rw [if_neg c2, if_neg (by omega)]
theorem asnow_lt (bk now : Nat → Int32) {q : Nat} (h : q < 19) : (f_X9_asNow bk now).2.2 q = bk q := by
  show lp_X9_asNow_2 bk 19 0 now q = bk q
  rw [asnow_at, if_pos (by omega)]
theorem relw_agrees {pts trd nr : Nat → Int32} {th fr he wi oi ho si ag re : Int32} {bk : Nat → Int32} {mth : Int32} {bs : Nat → Int32} {ms : Nat} {sg : Nat → Int32} (h : RelW pts trd nr th fr he wi oi ho si ag re bk mth bs ms sg)
    (x1 x2 : Int32) (now : Nat → Int32) (xt : Int32) : f_X8_agrees th pts xt = (f_X9_agrees mth x1 x2 bk now xt).1 := by
  obtain ⟨hq, h1, h2, h3, h4, h5, h6, h7, h8, h9, w1, w2, w3, w4, w5, w6, w7, w8⟩ := h
  unfold f_X8_agrees f_X9_agrees
  rw [way_in]
  by_cases c1 : f_X9_in xt 0 7 = 0
  · rw [if_pos c1, if_pos c1]
  · rw [if_neg c1, if_neg c1]
    obtain ⟨t, ht, rfl⟩ := in_of (n := 7) (by decide) c1
    exact agreeing_eq (fun q hq' => by rw [asnow_lt _ _ (by omega)]; exact ⟨(hq q hq').1, (w1 q hq').1⟩) h1 w2 (rng_nI (by omega))
theorem tb_free : ∀ a : Nat, a < 128 → ∀ j : Nat, j < 7 → (if f_X8_hasBit (nI a) (nI j) = 0 then (0 : Int32) else 1) = (nI a >>> (nI j &&& 31)) &&& 1 := by decide +kernel
theorem tb_tell : ∀ n : Nat, n < 50 → 20 ≤ n → ((nI n / 10 - 2 = 0 ↔ n < 30) ∧ (30 ≤ n → (nI n / 10 - 2 = 1 ↔ n < 40)) ∧ (30 ≤ n → ¬ nI n / 10 - 2 = 0)) := by decide +kernel
theorem relw_told {pts trd nr : Nat → Int32} {th fr he wi oi ho si ag re : Int32} {bk : Nat → Int32} {mth : Int32} {bs : Nat → Int32} {ms : Nat} {sg : Nat → Int32} (h : RelW pts trd nr th fr he wi oi ho si ag re bk mth bs ms sg)
    (n : Nat) (xk : Int32) : f_X8_told th fr he wi oi ho si pts trd nr n xk = f_X9_told mth ms n bk bs xk := by
  obtain ⟨hq, h1, h2, h3, h4, h5, h6, h7, h8, h9, w1, w2, w3, w4, w5, w6, w7, w8⟩ := h
  unfold f_X8_told f_X9_told
  by_cases c1 : (10 : Int32) ≤ xk
  · rw [if_pos c1, if_neg (show ¬ xk < 10 by rw [Int32.not_lt]; exact c1)]
    by_cases c2 : (49 : Int32) < xk
    · rw [if_pos c2, if_pos c2]
    · rw [if_neg c2, if_neg c2, par_in]
      generalize hp : xk - xk / (10 : Int32) * (10 : Int32) = p
      by_cases c3 : f_X9_in p 0 6 = 0
      · rw [if_pos c3, if_pos c3]
      · rw [if_neg c3, if_neg c3]
        obtain ⟨j, hj, rfl⟩ := in_of (n := 6) (by decide) c3
        have hv := vp_of2 (x := xk) (n := 49) (fun h => Int32.lt_irrefl (Int32.lt_of_lt_of_le h (Int32.le_trans (show (0 : Int32) ≤ 10 by decide) c1))) c2 (by decide)
        obtain ⟨m, hm, rfl⟩ := vp_in_of hv (by decide)
        have hm10 : 10 ≤ m := (nI_leI (a := 10) (by decide) (by omega)).mp c1
        rw [nI_clamp (show j < 2 ^ 31 by omega), there_eq (by rw [h1]; exact w2) (nI j), h1]
        by_cases c4 : (20 : Int32) ≤ nI m
        · have hm20 : 20 ≤ m := (nI_leI (a := 20) (by decide) (by omega)).mp c4
          have c5 : ¬ nI m ≤ 19 := nI_ge (a := 19) (by omega) (by omega)
          rw [if_pos c4, if_neg c5]
          by_cases c6 : f_X9_isThere mth (nI j) = 0
          · rw [if_pos c6, if_pos c6]
          · rw [if_neg c6, if_neg c6, if_pos c4]
            obtain ⟨t1, t2, t3⟩ := tb_tell m (by omega) hm20
            unfold f_X7_tell
            rw [there_eq w2 (nI j), if_neg c6, nI_clamp (show j < 2 ^ 31 by omega)]
            by_cases c7 : m < 30
            · rw [if_pos (t1.mpr c7), if_neg (show ¬ (30 : Int32) ≤ nI m from nI_ge (b := 30) (by omega) (by omega))]; exact (hq j (by omega)).1
            · rw [if_neg (t3 (by omega)), if_pos (show (30 : Int32) ≤ nI m from nI_le (a := 30) (by omega) (by omega))]
              by_cases c8 : m < 40
              · rw [if_pos ((t2 (by omega)).mpr c8), if_neg (show ¬ (40 : Int32) ≤ nI m from nI_ge (b := 40) (by omega) (by omega))]
                rw [show (7 : Int32) + nI j = nI (7 + j) from nI_add 7 j, nI_clamp (show 7 + j < 2 ^ 31 by omega)]; exact (hq j (by omega)).2.1
              · rw [if_neg (fun h => c8 ((t2 (by omega)).mp h)), if_pos (show (40 : Int32) ≤ nI m from nI_le (a := 40) (by omega) (by omega)), h2]
                obtain ⟨f, hf, hfr⟩ := w3
                rw [hfr]; exact tb_free f hf j (by omega)
        · rw [if_neg c4]
          have hm20 : m < 20 := by
            rcases Nat.lt_or_ge m 20 with h | h
            · exact h
            · exact absurd (nI_le (a := 20) h (by omega)) c4
          rw [if_pos (show nI m ≤ (19 : Int32) from nI_le (b := 19) (by omega) (by decide)), if_neg c4]
          exact (hq j (by omega)).2.2
  · rw [if_neg c1, if_pos (show xk < 10 by rw [← Int32.not_le]; exact c1)]
    unfold f_X8_tellOfAll
    by_cases d0 : xk = 0
    · rw [if_pos d0, if_pos d0]
    · rw [if_neg d0, if_neg d0]
      by_cases d1 : xk = 1
      · rw [if_pos d1, if_pos d1, h1]
      · rw [if_neg d1, if_neg d1]
        by_cases d2 : xk = 2
        · subst d2; exact h3
        · rw [if_neg d2, if_neg d2]
          by_cases d3 : xk = 3
          · subst d3; exact h4
          · rw [if_neg d3, if_neg d3]
            by_cases d4 : xk = 4
            · subst d4; exact h5
            · rw [if_neg d4, if_neg d4]
              by_cases d5 : xk = 5
              · subst d5; exact h6
              · rw [if_neg d5, if_neg d5]
                by_cases d6 : xk = 6
                · rw [if_pos d6, if_pos d6, h7]
                · rw [if_neg d6, if_neg d6]
