theorem done_at (z : Nat → Int32) : ∀ (k i : Nat) (r : Nat → Int32) (q : Nat), lp_X9_done_12 z k i r q = if i ≤ q ∧ q < i + k then z q else r q
  | 0, i, r, q => by rw [if_neg (by omega)]; rfl
  | k + 1, i, r, q => by
    show lp_X9_done_12 z k (i + 1) (upd r i (z i)) q = _
    rw [done_at z k (i + 1)]
    by_cases c : q = i
    · subst c; rw [if_neg (by omega), if_pos (by omega), upd_eq]
    · rw [upd_ne _ _ c]
      by_cases c2 : i + 1 ≤ q ∧ q < i + 1 + k
      · rw [if_pos c2, if_pos (by omega)]
      · rw [if_neg c2, if_neg (by omega)]
theorem relw_rv {pts trd nr : Nat → Int32} {th fr he wi oi ho si ag re : Int32} {bk : Nat → Int32} {mth : Int32} {bs : Nat → Int32} {ms : Nat} {sg : Nat → Int32} (h : RelW pts trd nr th fr he wi oi ho si ag re bk mth bs ms sg)
    {fr' he' wi' oi' ho' si' ag' re' th' : Int32} {pts1 trd1 pts' trd' nr' now bk' : Nat → Int32} (hv : RV mth fr' he' wi' oi' ho' pts1 trd1 now) (e1 : ∀ q, q < 7 → pts' q = pts1 q ∧ trd' q = trd1 q ∧ nr' q = nr q) (e2 : ∀ q, q < 19 → bk' q = now q)
    (e3 : th' = mth) (e4 : si' = si) (e5 : ag' = ag) (e6 : re' = re) :
    RelW pts' trd' nr' th' fr' he' wi' oi' ho' si' ag' re' bk' mth bs ms sg := by
  subst e3; subst e4; subst e5; subst e6
  obtain ⟨hq, h1, h2, h3, h4, h5, h6, h7, h8, h9, w1, w2, w3, w4, w5, w6, w7, w8⟩ := h
  obtain ⟨v1, v2, v3, v4, v5, v6, v7⟩ := hv
  refine ⟨fun q hq' => ?_, rfl, ?_, ?_, ?_, ?_, ?_, h7, h8, h9, fun q hq' => ?_, w2, ?_, ?_, ?_, ?_, ?_, w8⟩
  · obtain ⟨x1, x2, x3⟩ := e1 q hq'
    rw [x1, x2, x3, e2 q (by omega), e2 (7 + q) (by omega)]
    exact ⟨(v1 q hq').1.1, (v1 q hq').2.1, (hq q hq').2.2⟩
  · rw [e2 14 (by omega)]; exact v2.1
  · rw [e2 15 (by omega)]; exact v3.1
  · rw [e2 16 (by omega)]; exact v4.1
  · rw [e2 17 (by omega)]; exact v5.1
  · rw [e2 18 (by omega)]; exact v6.1
  · rw [e2 q (by omega), e2 (7 + q) (by omega)]
    exact ⟨(v1 q hq').1.2, (v1 q hq').2.2, (w1 q hq').2.2⟩
  · rw [e2 14 (by omega)]; exact v2.2
  · rw [e2 15 (by omega)]; exact v3.2
  · rw [e2 16 (by omega)]; exact v4.2
  · rw [e2 17 (by omega)]; exact v5.2
  · rw [e2 18 (by omega)]; exact v6.2
theorem ta_rest {n : Nat} {pts trd nr sgn : Nat → Int32} {th fr he wi oi ho si ag re a1 a2 a3 b1 b2 b3 b4 b5 b6 b7 b8 b9 : Int32} {c1 c2 c3 k1 k2 k3 : Nat → Int32}
    {TA : Int32 × Int32 × Int32 × Int32 × Int32 × Int32 × Int32 × Int32 × Int32 × Int32 × Int32 × Int32 × Int32 × (Nat → Int32) × (Nat → Int32) × (Nat → Int32) × Int32 × (Nat → Int32) × (Nat → Int32) × (Nat → Int32)} (hTA : f_X6_tryAll a1 a2 a3 b1 b2 b3 b4 b5 b6 b7 b8 b9 c1 c2 c3 n sgn k1 k2 k3 th fr he wi oi ho si ag re pts trd nr = TA) (h0 : TA.1 = 0) :
    TA.2.2.2.2.2.2.2.2.2.2.1 = si ∧ TA.2.2.2.2.2.2.2.2.2.2.2.1 = ag ∧ TA.2.2.2.2.2.2.2.2.2.2.2.2.1 = re ∧ ∀ q, q < 7 → TA.2.2.2.2.2.2.2.2.2.2.2.2.2.2.2.1 q = nr q := by
  unfold f_X6_tryAll at hTA
  by_cases c : (f_X3_read n sgn k1 k2 k3).1 = -6
  · rw [if_pos c] at hTA
    subst hTA
    exact ⟨rfl, rfl, rfl, fun q hq => (like_lt pts trd nr c1 c2 c3 hq).2.2⟩
  · rw [if_neg c] at hTA
    subst hTA
    exact absurd h0 (show ¬ (-5 : Int32) = 0 by decide)
theorem done_eq {pts trd nr : Nat → Int32} {th fr he wi oi ho si ag re : Int32} {bk : Nat → Int32} {mth : Int32} {bs : Nat → Int32} {ms : Nat} {sg : Nat → Int32} (h : RelW pts trd nr th fr he wi oi ho si ag re bk mth bs ms sg)
    {n : Nat} {sgn pad : Nat → Int32} (hn : n ≤ 60) (hp : ∀ q, q < n → sgn q = pad q ∧ ∃ j : Nat, 33 ≤ j ∧ j ≤ 126 ∧ pad q = nI j) (a1 a2 a3 b1 b2 b3 b4 b5 b6 b7 b8 b9 : Int32) (c1 c2 c3 k1 k2 k3 : Nat → Int32) (y1 y2 r y3 : Int32) (now : Nat → Int32)
    {D8 : Int32 × Int32 × Int32 × Int32 × Int32 × Int32 × Int32 × Int32 × Int32 × Int32 × (Nat → Int32) × (Nat → Int32) × (Nat → Int32) × Int32 × Int32 × (Nat → Int32) × (Nat → Int32) × (Nat → Int32) × Int32 × Int32 × Int32 × Int32 × Int32 × Int32 × Int32 × Int32 × Int32 × Int32 × Int32 × Int32 × (Nat → Int32) × (Nat → Int32) × (Nat → Int32)} (h8 : f_X8_done th fr he wi oi ho si ag re pts trd nr n sgn k1 k2 k3 a1 a2 a3 b1 b2 b3 b4 b5 b6 b7 b8 b9 c1 c2 c3 = D8)
    {D9 : Int32 × Int32 × Int32 × Int32 × Int32 × Int32 × (Nat → Int32) × (Nat → Int32)} (h9 : f_X9_done mth n y1 y2 r y3 bk now pad = D9) :
    D8.1 = D9.1 ∧ ∃ n' : Nat, n' ≤ n ∧ D8.2.2.2.2.2.2.2.2.2.2.2.2.2.1 = nI n' ∧ D9.2.1 = nI n' ∧ RelW (D8.2.2.2.2.2.2.2.2.2.2.1) (D8.2.2.2.2.2.2.2.2.2.2.2.1) (D8.2.2.2.2.2.2.2.2.2.2.2.2.1) (D8.2.1) (D8.2.2.1) (D8.2.2.2.1) (D8.2.2.2.2.1) (D8.2.2.2.2.2.1) (D8.2.2.2.2.2.2.1) (D8.2.2.2.2.2.2.2.1) (D8.2.2.2.2.2.2.2.2.1) (D8.2.2.2.2.2.2.2.2.2.1) (D9.2.2.2.2.2.2.1) mth bs ms sg := by
  unfold f_X8_done at h8
  unfold f_X9_done at h9
  generalize hTA : f_X6_tryAll a1 a2 a3 b1 b2 b3 b4 b5 b6 b7 b8 b9 c1 c2 c3 n sgn k1 k2 k3 th fr he wi oi ho si ag re pts trd nr = TA at h8
  generalize hB : f_X9_barOfWeeks mth n y1 y2 r y3 bk now pad = B at h9
  have w := bar_all h hn hp a1 a2 a3 b1 b2 b3 b4 b5 b6 b7 b8 b9 c1 c2 c3 k1 k2 k3 y1 y2 r y3 now hTA hB
  rcases w with ⟨g1, g2, g3, g4, g5, g6, g7⟩ | ⟨g1, g2⟩
  · rw [if_pos g1] at h8
    rw [if_pos g2] at h9
    obtain ⟨s1, s2, s3, s4⟩ := ta_rest hTA g1
    subst h8
    subst h9
    unfold f_X7_becomeLike
    refine ⟨g3, 0, Nat.zero_le _, rfl, rfl, relw_rv h g7 (fun q hq => ?_) (fun q hq => ?_) g6 s1 s2 s3⟩
    · obtain ⟨x1, x2, x3⟩ := like_lt (TA.2.2.2.2.2.2.2.2.2.2.2.2.2.1) (TA.2.2.2.2.2.2.2.2.2.2.2.2.2.2.1) (TA.2.2.2.2.2.2.2.2.2.2.2.2.2.2.2.1) pts trd nr hq
      exact ⟨x1, x2, x3.trans (s4 q hq)⟩
    · show lp_X9_done_12 _ 19 0 bk q = _
      rw [done_at, if_pos (by omega)]
  · rw [if_neg g1] at h8
    rw [if_neg g2] at h9
    subst h8
    subst h9
    exact ⟨rfl, n, Nat.le_refl _, rfl, rfl, h⟩
