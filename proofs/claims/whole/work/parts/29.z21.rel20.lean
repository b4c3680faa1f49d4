theorem bar_all {pts trd nr : Nat → Int32} {th fr he wi oi ho si ag re : Int32} {bk : Nat → Int32} {mth : Int32} {bs : Nat → Int32} {ms : Nat} {sg : Nat → Int32} (h : RelW pts trd nr th fr he wi oi ho si ag re bk mth bs ms sg)
    {n : Nat} {sgn pad : Nat → Int32} (hn : n ≤ 60) (hp : ∀ q, q < n → sgn q = pad q ∧ ∃ j : Nat, 33 ≤ j ∧ j ≤ 126 ∧ pad q = nI j) (a1 a2 a3 b1 b2 b3 b4 b5 b6 b7 b8 b9 : Int32) (c1 c2 c3 k1 k2 k3 : Nat → Int32) (y1 y2 r y3 : Int32) (now : Nat → Int32)
    {TA : Int32 × Int32 × Int32 × Int32 × Int32 × Int32 × Int32 × Int32 × Int32 × Int32 × Int32 × Int32 × Int32 × (Nat → Int32) × (Nat → Int32) × (Nat → Int32) × Int32 × (Nat → Int32) × (Nat → Int32) × (Nat → Int32)} (hTA : f_X6_tryAll a1 a2 a3 b1 b2 b3 b4 b5 b6 b7 b8 b9 c1 c2 c3 n sgn k1 k2 k3 th fr he wi oi ho si ag re pts trd nr = TA)
    {B : Int32 × Int32 × Int32 × Int32 × Int32 × (Nat → Int32)} (hB : f_X9_barOfWeeks mth n y1 y2 r y3 bk now pad = B) :
    (TA.1 = 0 ∧ 0 ≤ B.1 ∧ TA.2.1 = B.2.2.2.2.1 ∧ TA.2.2.1 = B.2.1 ∧ TA.2.2.2.1 = B.2.2.1 ∧ TA.2.2.2.2.1 = mth ∧
      RV mth TA.2.2.2.2.2.1 TA.2.2.2.2.2.2.1 TA.2.2.2.2.2.2.2.1 TA.2.2.2.2.2.2.2.2.1 TA.2.2.2.2.2.2.2.2.2.1 TA.2.2.2.2.2.2.2.2.2.2.2.2.2.1 TA.2.2.2.2.2.2.2.2.2.2.2.2.2.2.1 B.2.2.2.2.2) ∨ (¬ TA.1 = 0 ∧ ¬ 0 ≤ B.1) := by
  have w := week_all h hn hp a1 a2 a3 b1 b2 b3 b4 b5 b6 b7 b8 b9 c1 c2 c3 k1 k2 k3 r now hTA
  unfold f_X9_barOfWeeks at hB
  rcases w with ⟨g1, g2⟩ | ⟨g0, g1, g2, g3, g4, g5, g6, g7⟩ | ⟨g0, g1, g2, g3, g4⟩
  · right
    rw [if_pos (show 0 ≤ f_X9_faultOf n pad by rw [← Int32.not_lt]; exact g1)] at hB
    subst hB
    exact ⟨by rw [g2]; decide, show ¬ (0 : Int32) ≤ -5 by decide⟩
  · left
    rw [g0, if_neg (show ¬ (0 : Int32) ≤ -6 by decide), g1, if_pos (show (-6 : Int32) < 0 by decide)] at hB
    subst hB
    exact ⟨g2, show (0 : Int32) ≤ 0 by decide, g3, g4, g5, g6, g7⟩
  · right
    rw [g0, if_neg (show ¬ (0 : Int32) ≤ -6 by decide), if_neg g1] at hB
    subst hB
    exact ⟨fun e => g4 (by rw [e]; decide), show ¬ (0 : Int32) ≤ -5 by decide⟩
theorem behind_eq {pts trd nr : Nat → Int32} {th fr he wi oi ho si ag re : Int32} {bk : Nat → Int32} {mth : Int32} {bs : Nat → Int32} {ms : Nat} {sg : Nat → Int32} (h : RelW pts trd nr th fr he wi oi ho si ag re bk mth bs ms sg)
    {n : Nat} {sgn pad : Nat → Int32} (hn : n ≤ 60) (hp : ∀ q, q < n → sgn q = pad q ∧ ∃ j : Nat, 33 ≤ j ∧ j ≤ 126 ∧ pad q = nI j) (a0 a1 a2 a3 b1 b2 b3 b4 b5 b6 b7 b8 b9 : Int32) (c1 c2 c3 k1 k2 k3 : Nat → Int32) (y1 y2 r y3 : Int32) (now : Nat → Int32) (xp xk : Int32) :
    (f_X8_behind th fr he wi oi ho si ag re pts trd nr n a0 sgn k1 k2 k3 a1 a2 a3 b1 b2 b3 b4 b5 b6 b7 b8 b9 c1 c2 c3 xp xk).1 = (f_X9_behind mth n y1 y2 r y3 bk now pad xp xk).1 := by
  unfold f_X8_behind f_X9_behind
  rw [upto_in]
  generalize hTA : f_X6_tryAll a1 a2 a3 b1 b2 b3 b4 b5 b6 b7 b8 b9 c1 c2 c3 n sgn k1 k2 k3 th fr he wi oi ho si ag re pts trd nr = TA
  generalize hB : f_X9_barOfWeeks mth n y1 y2 r y3 bk now pad = B
  have w := bar_all h hn hp a1 a2 a3 b1 b2 b3 b4 b5 b6 b7 b8 b9 c1 c2 c3 k1 k2 k3 y1 y2 r y3 now hTA hB
  have hth : th = mth := h.2.1
  have hw2 : rng mth 128 := (relw_w h).2.1
  rw [hth, there_eq hw2]
  by_cases d1 : f_X9_isThere mth xp = 0
  · rw [if_pos d1, if_pos d1]
  · rw [if_neg d1, if_neg d1]
    by_cases d2 : f_X9_in xk 0 2 = 0
    · rw [if_pos d2, if_pos d2]
    · rw [if_neg d2, if_neg d2]
      rcases w with ⟨g1, g2, g3, g4, g5, g6, g7⟩ | ⟨g1, g2⟩
      · rw [if_pos g1, if_pos g2]
        obtain ⟨k, hk, rfl⟩ := in_of (n := 2) (by decide) d2
        have hxp : ¬ f_X9_in xp 0 6 = 0 := fun e => d1 (by unfold f_X9_isThere; rw [if_pos e])
        obtain ⟨j, hj, rfl⟩ := in_of (n := 6) (by decide) hxp
        have e0 := (g7.1 j (by omega)).1.1
        have e1 := (g7.1 j (by omega)).2.1
        obtain ⟨e2, f, hf, e3⟩ := g7.2.1
        have htell : ∀ x, f_X7_tell TA.2.2.2.2.1 TA.2.2.2.2.2.1 TA.2.2.2.2.2.2.2.2.2.2.2.2.2.1 TA.2.2.2.2.2.2.2.2.2.2.2.2.2.2.1 (nI j) x = if x = 0 then B.2.2.2.2.2 j else if x = 1 then B.2.2.2.2.2 (7 + j) else (B.2.2.2.2.2 14 >>> (nI j &&& 31)) &&& 1 := fun x => by
          unfold f_X7_tell
          rw [g6, there_eq hw2, if_neg d1, nI_clamp (show j < 2 ^ 31 by omega), e0, e1, e2, e3, tb_free f hf j (by omega)]
        rw [htell]
        have hc : k = 0 ∨ k = 1 ∨ k = 2 := by omega
        rcases hc with rfl | rfl | rfl
        · rw [if_pos (show nI 0 = 0 from rfl), if_neg (show ¬ nI 0 = 2 by decide), show (7 : Int32) * nI 0 + nI j = nI j from by rw [show (7 : Int32) * nI 0 = nI 0 by decide, nI_add, Nat.zero_add], nI_clamp (show j < 2 ^ 31 by omega)]
        · rw [if_neg (show ¬ nI 1 = 0 by decide), if_pos (show nI 1 = 1 from rfl), if_neg (show ¬ nI 1 = 2 by decide), show (7 : Int32) * nI 1 + nI j = nI (7 + j) from by rw [show (7 : Int32) * nI 1 = nI 7 by decide, nI_add], nI_clamp (show 7 + j < 2 ^ 31 by omega)]
        · rw [if_neg (show ¬ nI 2 = 0 by decide), if_neg (show ¬ nI 2 = 1 by decide), if_pos (show nI 2 = 2 from rfl)]
      · rw [if_neg g1, if_neg g2]
