theorem sgs_congr {f g : Nat → Int32} (v : Int32) : ∀ n : Nat, (∀ i, i < 2 * n → f i = g i) → sgs f v n = sgs g v n
  | 0, _ => rfl
  | n + 1, h => by
    show (if f (2 * n + 1) = v then f_X8_withBit (sgs f v n) (f (2 * n)) 1 else sgs f v n) = (if g (2 * n + 1) = v then f_X8_withBit (sgs g v n) (g (2 * n)) 1 else sgs g v n)
    rw [h (2 * n + 1) (by omega), h (2 * n) (by omega), sgs_congr v n (fun i hi => h i (by omega))]
theorem sgs_upd (sg : Nat → Int32) (n : Nat) (x y v : Int32) : sgs (upd (upd sg (2 * n) x) (2 * n + 1) y) v (n + 1) = if y = v then f_X8_withBit (sgs sg v n) x 1 else sgs sg v n := by
  show (if upd (upd sg (2 * n) x) (2 * n + 1) y (2 * n + 1) = v then f_X8_withBit (sgs (upd (upd sg (2 * n) x) (2 * n + 1) y) v n) (upd (upd sg (2 * n) x) (2 * n + 1) y (2 * n)) 1 else sgs (upd (upd sg (2 * n) x) (2 * n + 1) y) v n) = _
  rw [upd_eq, upd_ne _ _ (show 2 * n ≠ 2 * n + 1 by omega), upd_eq]
  rw [sgs_congr (g := sg) v n (fun i hi => by rw [upd_ne _ _ (by omega), upd_ne _ _ (by omega)])]
theorem relw_see {pts trd nr : Nat → Int32} {th fr he wi oi ho si ag re : Int32} {bk : Nat → Int32} {mth : Int32} {bs : Nat → Int32} {ms : Nat} {sg : Nat → Int32} (h : RelW pts trd nr th fr he wi oi ho si ag re bk mth bs ms sg)
    {t y : Nat} (hm : ms < 8) (ht : t < 8) (hy : y < 2) : RelW pts trd nr th fr he wi oi ho (nI (ms + 1)) (if nI y = 1 then f_X8_withBit ag (nI t) 1 else ag) (if nI y = 0 then f_X8_withBit re (nI t) 1 else re) bk mth bs (ms + 1) (upd (upd sg (2 * ms) (nI t)) (2 * ms + 1) (nI y)) := by
  obtain ⟨hq, h1, h2, h3, h4, h5, h6, h7, h8, h9, w1, w2, w3, w4, w5, w6, w7, w8, w9, w10⟩ := h
  refine ⟨hq, h1, h2, h3, h4, h5, h6, rfl, by rw [sgs_upd, h8], by rw [sgs_upd, h9], w1, w2, w3, w4, w5, w6, w7, by omega, fun i hi => ?_, w10⟩
  rcases Nat.lt_or_ge i ms with hi' | hi'
  · rw [upd_ne _ _ (by omega), upd_ne _ _ (by omega), upd_ne _ _ (by omega), upd_ne _ _ (by omega)]
    exact w9 i hi'
  · have : i = ms := by omega
    subst this
    rw [upd_ne _ _ (by omega), upd_eq, upd_eq]
    exact ⟨rng_nI ht, rng_nI hy⟩
theorem relw_settle {pts trd nr : Nat → Int32} {th fr he wi oi ho si ag re : Int32} {bk : Nat → Int32} {mth : Int32} {bs : Nat → Int32} {ms : Nat} {sg : Nat → Int32} (h : RelW pts trd nr th fr he wi oi ho si ag re bk mth bs ms sg)
    {p w t : Nat} (hp : p < 7) (hw : w < 8) (ht : t < 10) {th' mth' fr' : Int32} (e1 : th' = mth') (r1 : rng mth' 128) (r2 : rng fr' 128) {bk' : Nat → Int32}
    (hb : ∀ q, bk' q = if q = 14 then fr' else if q = 7 + p then nI t else if q = p then nI w else bk q) :
    RelW (upd pts p (nI w)) (upd trd p (nI t)) nr th' fr' he wi oi ho si ag re bk' mth' bs ms sg := by
  obtain ⟨hq, h1, h2, h3, h4, h5, h6, h7, h8, h9, w1, w2, w3, w4, w5, w6, w7, w8⟩ := h
  have hb14 : bk' 14 = fr' := by rw [hb, if_pos rfl]
  have hbs : ∀ q, 14 < q → bk' q = bk q := fun q hq => by rw [hb, if_neg (by omega), if_neg (by omega), if_neg (by omega)]
  have hbp : ∀ q, q < 7 → bk' q = upd bk p (nI w) q := fun q hq => by
    rw [hb, if_neg (by omega), if_neg (by omega)]; rfl
  have hbt : ∀ q, q < 7 → bk' (7 + q) = if q = p then nI t else bk (7 + q) := fun q hq => by
    rw [hb, if_neg (by omega)]
    by_cases c : q = p
    · rw [if_pos (by omega), if_pos c]
    · rw [if_neg (by omega), if_neg (by omega), if_neg c]
  refine ⟨fun q hq' => ?_, e1, hb14.symm, ?_, ?_, ?_, ?_, h7, h8, h9, fun q hq' => ?_, r1, ?_, ?_, ?_, ?_, ?_, w8⟩
  · rw [hbp q hq', hbt q hq', upd_at, upd_at, upd_at]
    by_cases c : q = p
    · rw [if_pos c, if_pos c, if_pos c, if_pos c]; exact ⟨rfl, rfl, (hq q hq').2.2⟩
    · rw [if_neg c, if_neg c, if_neg c, if_neg c]; exact hq q hq'
  · rw [hbs 15 (by omega)]; exact h3
  · rw [hbs 16 (by omega)]; exact h4
  · rw [hbs 17 (by omega)]; exact h5
  · rw [hbs 18 (by omega)]; exact h6
  · rw [hbp q hq', hbt q hq', upd_at]
    by_cases c : q = p
    · rw [if_pos c, if_pos c]; exact ⟨rng_nI hw, rng_nI ht, (w1 q hq').2.2⟩
    · rw [if_neg c, if_neg c]; exact w1 q hq'
  · rw [hb14]; exact r2
  · rw [hbs 15 (by omega)]; exact w4
  · rw [hbs 16 (by omega)]; exact w5
  · rw [hbs 17 (by omega)]; exact w6
  · rw [hbs 18 (by omega)]; exact w7
theorem tb_fr1 : ∀ a : Nat, a < 128 → ∀ j : Nat, j < 7 → (nI a &&& (((1 : Int32) <<< (nI j &&& 31)) ^^^ (-1 : Int32))) ||| ((1 : Int32) <<< (nI j &&& 31)) = f_X8_withBit (nI a) (nI j) 1 := by decide +kernel
theorem tb_fr0 : ∀ a : Nat, a < 128 → ∀ j : Nat, j < 7 → (nI a &&& (((1 : Int32) <<< (nI j &&& 31)) ^^^ (-1 : Int32))) ||| 0 = f_X8_withBit (nI a) (nI j) 0 := by decide +kernel
theorem relw_parish {pts trd nr : Nat → Int32} {th fr he wi oi ho si ag re : Int32} {bk : Nat → Int32} {mth : Int32} {bs : Nat → Int32} {ms : Nat} {sg : Nat → Int32} (h : RelW pts trd nr th fr he wi oi ho si ag re bk mth bs ms sg)
    (xp xw xt : Int32) (y : Nat) (hy : y < 2) : (f_X8_parish th fr pts trd xp xw (nI y) xt).1 = (f_X9_parish mth bk xp xw (nI y) xt).1 ∧ RelW (f_X8_parish th fr pts trd xp xw (nI y) xt).2.2.2.1 (f_X8_parish th fr pts trd xp xw (nI y) xt).2.2.2.2 nr (f_X8_parish th fr pts trd xp xw (nI y) xt).2.1 (f_X8_parish th fr pts trd xp xw (nI y) xt).2.2.1 he wi oi ho si ag re (f_X9_parish mth bk xp xw (nI y) xt).2.2 (f_X9_parish mth bk xp xw (nI y) xt).2.1 bs ms sg := by
  have hw := h
  obtain ⟨hq, h1, h2, h3, h4, h5, h6, h7, h8, h9, w1, w2, w3, w4, w5, w6, w7, w8⟩ := h
  unfold f_X8_parish f_X9_parish
  rw [par_in, way_in, upto_in]
  by_cases c1 : f_X9_in xp 0 6 = 0
  · rw [if_pos c1, if_pos c1]; exact ⟨rfl, hw⟩
  · rw [if_neg c1, if_neg c1]
    by_cases c2 : f_X9_in xw 0 7 = 0
    · rw [if_pos c2, if_pos c2]; exact ⟨rfl, hw⟩
    · rw [if_neg c2, if_neg c2]
      by_cases c3 : f_X9_in xt 0 9 = 0
      · rw [if_pos c3, if_pos c3]; exact ⟨rfl, hw⟩
      · rw [if_neg c3, if_neg c3]
        unfold f_X7_settle
        rw [par_in, if_neg c1]
        obtain ⟨p, hp, rfl⟩ := in_of (n := 6) (by decide) c1
        obtain ⟨w, hw', rfl⟩ := in_of (n := 7) (by decide) c2
        obtain ⟨t, ht, rfl⟩ := in_of (n := 9) (by decide) c3
        rw [show (7 : Int32) + nI p = nI (7 + p) from nI_add 7 p, nI_clamp (show p < 2 ^ 31 by omega), nI_clamp (show 7 + p < 2 ^ 31 by omega)]
        have e14 : upd (upd bk p (nI w)) (7 + p) (nI t) 14 = fr := by rw [upd_ne _ _ (by omega), upd_ne _ _ (by omega), h2]
        obtain ⟨f, hf, hfr⟩ := w3
        have hth : f_X8_withBit th (nI p) 1 = mth ||| ((1 : Int32) <<< (nI p &&& 31)) := by rw [wb1, h1]
        have hrt : rng (mth ||| ((1 : Int32) <<< (nI p &&& 31))) 128 := by rw [← wb1]; exact wb_rng1 w2 (by omega)
        have hbits : f_X7_parishesThere (f_X8_withBit th (nI p) 1) = f_X9_bits (mth ||| ((1 : Int32) <<< (nI p &&& 31))) := by
          unfold f_X7_parishesThere; rw [hth]; exact bits_eq hrt (by omega)
        have hcases : y = 0 ∨ y = 1 := by omega
        rcases hcases with rfl | rfl
        · rw [if_pos (show nI 0 = 0 from rfl)]
          refine ⟨hbits, relw_settle hw (p := p) (w := w) (t := t) (by omega) (by omega) (by omega) hth hrt (wb_rng0 (x := fr) ⟨f, hf, by rw [h2, hfr]⟩ (by omega)) (fun q => ?_)⟩
          show upd (upd (upd (upd bk p (nI w)) (7 + p) (nI t)) 14 _) 14 _ q = _
          by_cases c : q = 14
          · subst c
            rw [if_pos rfl, upd_eq, upd_eq, e14, h2, hfr]
            exact tb_fr0 f hf p (by omega)
          · rw [if_neg c, upd_ne _ _ c, upd_ne _ _ c]; rfl
        · rw [if_neg (show ¬ nI 1 = 0 by decide)]
          refine ⟨hbits, relw_settle hw (p := p) (w := w) (t := t) (by omega) (by omega) (by omega) hth hrt (wb_rng1 (x := fr) ⟨f, hf, by rw [h2, hfr]⟩ (by omega)) (fun q => ?_)⟩
          show upd (upd (upd (upd bk p (nI w)) (7 + p) (nI t)) 14 _) 14 _ q = _
          by_cases c : q = 14
          · subst c
            rw [if_pos rfl, upd_eq, upd_eq, e14, h2, hfr]
            exact tb_fr1 f hf p (by omega)
          · rw [if_neg c, upd_ne _ _ c, upd_ne _ _ c]; rfl
