theorem judge_eq {pts trd nr : Nat → Int32} {th fr he wi oi ho si ag re : Int32} {bk : Nat → Int32} {mth : Int32} {bs : Nat → Int32} {ms : Nat} {sg : Nat → Int32} (h : RelW pts trd nr th fr he wi oi ho si ag re bk mth bs ms sg)
    {n : Nat} {sgn pad : Nat → Int32} (hn : n ≤ 60) (hp : ∀ q, q < n → sgn q = pad q ∧ ∃ j : Nat, 33 ≤ j ∧ j ≤ 126 ∧ pad q = nI j) (a0 a1 a2 a3 b1 b2 b3 b4 b5 b6 b7 b8 b9 : Int32) (c1 c2 c3 k1 k2 k3 : Nat → Int32) (y1 y2 r y3 : Int32) (now : Nat → Int32) (xk : Int32) :
    (f_X8_judge th fr he wi oi ho si ag re pts trd nr n a0 sgn k1 k2 k3 a1 a2 a3 b1 b2 b3 b4 b5 b6 b7 b8 b9 c1 c2 c3 xk).1 = (f_X9_judge mth n y1 y2 r y3 bk now pad xk).1 := by
  unfold f_X8_judge f_X9_judge
  rw [upto_in]
  generalize hTA : f_X6_tryAll a1 a2 a3 b1 b2 b3 b4 b5 b6 b7 b8 b9 c1 c2 c3 n sgn k1 k2 k3 th fr he wi oi ho si ag re pts trd nr = TA
  have w := week_all h hn hp a1 a2 a3 b1 b2 b3 b4 b5 b6 b7 b8 b9 c1 c2 c3 k1 k2 k3 r now hTA
  by_cases d1 : f_X9_in xk 0 1 = 0
  · rw [if_pos d1, if_pos d1]
  · rw [if_neg d1, if_neg d1]
    rcases w with ⟨g1, g2⟩ | ⟨g0, g1, g2, g3, -⟩ | ⟨g0, g1, g2, g3, g4⟩
    · rw [if_pos g2, if_neg g1]
    · rw [if_neg (show ¬ TA.1 = -5 by rw [g2]; decide), if_pos g2, g0, if_pos (show (-6 : Int32) < 0 by decide), g1, if_pos (show (-6 : Int32) < 0 by decide)]
    · have n5 : ¬ TA.1 = -5 := fun e => g4 (by rw [e]; decide)
      have n0 : ¬ TA.1 = 0 := fun e => g4 (by rw [e]; decide)
      rw [if_neg n5, if_neg n0, g0, if_pos (show (-6 : Int32) < 0 by decide), if_neg g1]
      by_cases d2 : xk = 0
      · rw [if_pos d2, if_pos d2]; exact g2
      · rw [if_neg d2, if_neg d2]; exact g3
