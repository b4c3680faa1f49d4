theorem pairs_eq {f g : Nat → Int32} (h : ∀ q, q < 7 → f q = g q ∧ rng (g q) 128) : ∀ (k i : Nat) (v : Int32), i + k ≤ 7 → lp_X7_pairsOfNeighbours_4 f k i v = lp_X9_neighbours_101 g k i v
  | 0, _, _, _ => rfl
  | k + 1, i, v, hi => by
    show lp_X7_pairsOfNeighbours_4 f k (i + 1) (v + f_J6_bitCount_0f7a4 (f i)) = lp_X9_neighbours_101 g k (i + 1) (v + f_X9_bits (g i))
    rw [(h i (by omega)).1, bits_eq (h i (by omega)).2 (by omega)]
    exact pairs_eq h k (i + 1) _ (by omega)
theorem tb_hwb : ∀ a : Nat, a < 128 → ∀ j : Nat, j < 7 → ∀ k : Nat, k < 7 → (f_X9_has (f_X8_withBit (nI a) (nI j) 1) (nI k) = (if k = j then 1 else f_X9_has (nI a) (nI k)) ∧ f_X9_has (f_X8_withBit (nI a) (nI j) 0) (nI k) = (if k = j then 0 else f_X9_has (nI a) (nI k))) := by decide +kernel
theorem hwb {x : Int32} (hx : rng x 128) {j k : Nat} (hj : j < 7) (hk : k < 7) {y : Nat} (hy : y < 2) : hbit (f_X8_withBit x (nI j) (nI y)) k ↔ (if k = j then y = 1 else hbit x k) := by
  obtain ⟨a, ha, rfl⟩ := hx
  have t := tb_hwb a ha j hj k hk
  unfold hbit
  have hc : y = 0 ∨ y = 1 := by omega
  rcases hc with rfl | rfl
  · show ¬ f_X9_has (f_X8_withBit (nI a) (nI j) 0) (nI k) = 0 ↔ _
    rw [t.2]
    by_cases c : k = j
    · rw [if_pos c, if_pos c]; decide
    · rw [if_neg c, if_neg c]
  · show ¬ f_X9_has (f_X8_withBit (nI a) (nI j) 1) (nI k) = 0 ↔ _
    rw [t.1]
    by_cases c : k = j
    · rw [if_pos c, if_pos c]; decide
    · rw [if_neg c, if_neg c]
theorem wb_rng {x : Int32} (hx : rng x 128) {j y : Nat} (hj : j < 7) (hy : y < 2) : rng (f_X8_withBit x (nI j) (nI y)) 128 := by
  have hc : y = 0 ∨ y = 1 := by omega
  rcases hc with rfl | rfl
  · exact wb_rng0 hx hj
  · exact wb_rng1 hx hj
theorem relw_nb {pts trd nr : Nat → Int32} {th fr he wi oi ho si ag re : Int32} {bk : Nat → Int32} {mth : Int32} {bs : Nat → Int32} {ms : Nat} {sg : Nat → Int32} (h : RelW pts trd nr th fr he wi oi ho si ag re bk mth bs ms sg)
    {a b y : Nat} (ha : a < 7) (hb : b < 7) (hab : a ≠ b) (hy : y < 2) {nr' bs' : Nat → Int32} (hn : ∀ q, q < 7 → nr' q = bs' q)
    (hbs : ∀ q, q < 7 → bs' q = if q = b then f_X8_withBit (bs b) (nI a) (nI y) else if q = a then f_X8_withBit (bs a) (nI b) (nI y) else bs q) :
    RelW pts trd nr' th fr he wi oi ho si ag re bk mth bs' ms sg ∧ ∀ q, q < 7 → rng (bs' q) 128 := by
  obtain ⟨hq, h1, h2, h3, h4, h5, h6, h7, h8, h9, w1, w2, w3, w4, w5, w6, w7, w8, w9, w10, w11⟩ := h
  have hr : ∀ q, q < 7 → rng (bs' q) 128 := fun q hq' => by
    rw [hbs q hq']
    by_cases c1 : q = b
    · rw [if_pos c1]; exact wb_rng (w1 b hb).2.2 ha hy
    · rw [if_neg c1]
      by_cases c2 : q = a
      · rw [if_pos c2]; exact wb_rng (w1 a ha).2.2 hb hy
      · rw [if_neg c2]; exact (w1 q hq').2.2
  have hh : ∀ u v, u < 7 → v < 7 → (hbit (bs' u) v ↔ (if (u = b ∧ v = a) ∨ (u = a ∧ v = b) then y = 1 else hbit (bs u) v)) := fun u v hu hv => by
    rw [hbs u hu]
    by_cases c1 : u = b
    · rw [if_pos c1]
      rw [hwb (w1 b hb).2.2 ha hv hy]
      by_cases c2 : v = a
      · rw [if_pos c2, if_pos (Or.inl ⟨c1, c2⟩)]
      · rw [if_neg c2, if_neg (by omega), c1]
    · rw [if_neg c1]
      by_cases c3 : u = a
      · rw [if_pos c3, hwb (w1 a ha).2.2 hb hv hy]
        by_cases c2 : v = b
        · rw [if_pos c2, if_pos (Or.inr ⟨c3, c2⟩)]
        · rw [if_neg c2, if_neg (by omega), c3]
      · rw [if_neg c3, if_neg (by omega)]
  refine ⟨⟨fun q hq' => ⟨(hq q hq').1, (hq q hq').2.1, hn q hq'⟩, h1, h2, h3, h4, h5, h6, h7, h8, h9, fun q hq' => ⟨(w1 q hq').1, (w1 q hq').2.1, hr q hq'⟩, w2, w3, w4, w5, w6, w7, w8, w9, fun u v hu hv hx => ?_, fun u hu hx => ?_⟩, hr⟩
  · rw [hh u v hu hv] at hx
    rw [hh v u hv hu]
    by_cases c : (u = b ∧ v = a) ∨ (u = a ∧ v = b)
    · rw [if_pos c] at hx; rw [if_pos (by omega)]; exact hx
    · rw [if_neg c] at hx; rw [if_neg (by omega)]; exact w10 u v hu hv hx
  · rw [hh u u hu hu] at hx
    rw [if_neg (by omega)] at hx
    exact w11 u hu hx
theorem or_shift (x : Int32) (j y : Nat) (hy : y < 2) : f_X8_withBit x (nI j) (nI y) = if y = 0 then x &&& (((1 : Int32) <<< (nI j &&& 31)) ^^^ (-1 : Int32)) else x ||| ((1 : Int32) <<< (nI j &&& 31)) := by
  have hc : y = 0 ∨ y = 1 := by omega
  rcases hc with rfl | rfl
  · rw [if_pos rfl]; exact wb0 x (nI j)
  · rw [if_neg (by decide)]; exact wb1 x (nI j)
theorem relw_neighbours {pts trd nr : Nat → Int32} {th fr he wi oi ho si ag re : Int32} {bk : Nat → Int32} {mth : Int32} {bs : Nat → Int32} {ms : Nat} {sg : Nat → Int32} (h : RelW pts trd nr th fr he wi oi ho si ag re bk mth bs ms sg)
    (xa xb : Int32) (y : Nat) (hy : y < 2) : (f_X8_neighbours nr xa xb (nI y)).1 = (f_X9_neighbours bs xa xb (nI y)).1 ∧ RelW pts trd (f_X8_neighbours nr xa xb (nI y)).2 th fr he wi oi ho si ag re bk mth (f_X9_neighbours bs xa xb (nI y)).2 ms sg := by
  have hw := h
  obtain ⟨hq, h1, h2, h3, h4, h5, h6, h7, h8, h9, w1, w2, w3, w4, w5, w6, w7, w8⟩ := h
  unfold f_X8_neighbours f_X9_neighbours
  rw [par_in, par_in]
  by_cases c1 : f_X9_in xa 0 6 = 0
  · rw [if_pos c1, if_pos c1]; exact ⟨rfl, hw⟩
  · rw [if_neg c1, if_neg c1]
    by_cases c2 : f_X9_in xb 0 6 = 0
    · rw [if_pos c2, if_pos c2]; exact ⟨rfl, hw⟩
    · rw [if_neg c2, if_neg c2]
      by_cases c3 : xa = xb
      · rw [if_pos c3, if_pos c3]; exact ⟨rfl, hw⟩
      · rw [if_neg c3, if_neg c3]
        obtain ⟨a, ha, rfl⟩ := in_of (n := 6) (by decide) c1
        obtain ⟨b, hb, rfl⟩ := in_of (n := 6) (by decide) c2
        have hab : a ≠ b := fun e => c3 (by rw [e])
        rw [nI_clamp (show a < 2 ^ 31 by omega), nI_clamp (show b < 2 ^ 31 by omega)]
        generalize hm1 : (1 : Int32) <<< (nI b &&& 31) = mb
        generalize hm2 : (1 : Int32) <<< (nI a &&& 31) = ma
        have hc : y = 0 ∨ y = 1 := by omega
        have key : ∀ bs' : Nat → Int32, (∀ q, q < 7 → bs' q = if q = b then f_X8_withBit (bs b) (nI a) (nI y) else if q = a then f_X8_withBit (bs a) (nI b) (nI y) else bs q) →
            f_X7_pairsOfNeighbours (upd (upd nr a (f_X8_withBit (nr a) (nI b) (nI y))) b (f_X8_withBit (upd nr a (f_X8_withBit (nr a) (nI b) (nI y)) b) (nI a) (nI y))) = lp_X9_neighbours_101 bs' 7 0 0 / 2 ∧
            RelW pts trd (upd (upd nr a (f_X8_withBit (nr a) (nI b) (nI y))) b (f_X8_withBit (upd nr a (f_X8_withBit (nr a) (nI b) (nI y)) b) (nI a) (nI y))) th fr he wi oi ho si ag re bk mth bs' ms sg := by
          intro bs' hb'
          have hn : ∀ q, q < 7 → upd (upd nr a (f_X8_withBit (nr a) (nI b) (nI y))) b (f_X8_withBit (upd nr a (f_X8_withBit (nr a) (nI b) (nI y)) b) (nI a) (nI y)) q = bs' q := fun q hq' => by
            rw [hb' q hq', upd_at]
            by_cases d1 : q = b
            · rw [if_pos d1, if_pos d1, upd_ne _ _ (Ne.symm hab), (hq b (by omega)).2.2]
            · rw [if_neg d1, if_neg d1, upd_at]
              by_cases d2 : q = a
              · rw [if_pos d2, if_pos d2, (hq a (by omega)).2.2]
              · rw [if_neg d2, if_neg d2, (hq q hq').2.2]
          obtain ⟨r1, r2⟩ := relw_nb hw (a := a) (b := b) (y := y) (by omega) (by omega) hab hy hn hb'
          refine ⟨?_, r1⟩
          unfold f_X7_pairsOfNeighbours
          rw [pairs_eq (fun q hq' => ⟨hn q hq', r2 q hq'⟩) 7 0 0 (by omega)]
        rcases hc with rfl | rfl
        · rw [if_pos (show nI 0 = 0 from rfl)]
          refine key _ (fun q hq' => ?_)
          simp only [or0]
          rw [show f_X8_withBit (bs b) (nI a) (nI 0) = bs b &&& (ma ^^^ (-1 : Int32)) from by rw [← hm2]; exact wb0 _ _, show f_X8_withBit (bs a) (nI b) (nI 0) = bs a &&& (mb ^^^ (-1 : Int32)) from by rw [← hm1]; exact wb0 _ _]
          rw [upd_at]
          by_cases d1 : q = b
          · rw [if_pos d1, if_pos d1, upd_ne _ _ (Ne.symm hab), upd_eq, upd_ne _ _ (Ne.symm hab)]
          · rw [if_neg d1, if_neg d1, upd_at]
            by_cases d2 : q = a
            · rw [if_pos d2, if_pos d2, upd_ne _ _ hab, upd_eq]
            · rw [if_neg d2, if_neg d2, upd_ne _ _ d1, upd_ne _ _ d2]
        · rw [if_neg (show ¬ nI 1 = 0 by decide)]
          refine key _ (fun q hq' => ?_)
          have eb : f_X8_withBit (bs b) (nI a) (nI 1) = (bs b &&& (ma ^^^ (-1 : Int32))) ||| ma := by
            obtain ⟨x, hx, hxe⟩ := (w1 b (by omega)).2.2
            rw [hxe, ← hm2]; exact (tb_fr1 x hx a (by omega)).symm
          have ea : f_X8_withBit (bs a) (nI b) (nI 1) = (bs a &&& (mb ^^^ (-1 : Int32))) ||| mb := by
            obtain ⟨x, hx, hxe⟩ := (w1 a (by omega)).2.2
            rw [hxe, ← hm1]; exact (tb_fr1 x hx b (by omega)).symm
          rw [eb, ea, upd_at]
          by_cases d1 : q = b
          · rw [if_pos d1, if_pos d1, upd_ne _ _ (Ne.symm hab), upd_eq, upd_ne _ _ (Ne.symm hab)]
          · rw [if_neg d1, if_neg d1, upd_at]
            by_cases d2 : q = a
            · rw [if_pos d2, if_pos d2, upd_ne _ _ hab, upd_eq]
            · rw [if_neg d2, if_neg d2, upd_ne _ _ d1, upd_ne _ _ d2]
