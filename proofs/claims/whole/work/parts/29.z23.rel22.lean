theorem then_eq {pts trd nr : Nat → Int32} {th fr he wi oi ho si ag re : Int32} {bk : Nat → Int32} {mth : Int32} {bs : Nat → Int32} {ms : Nat} {sg : Nat → Int32} (h : RelW pts trd nr th fr he wi oi ho si ag re bk mth bs ms sg)
    {n : Nat} {sgn pad : Nat → Int32} (hn : n ≤ 60) (hp : ∀ q, q < n → sgn q = pad q ∧ ∃ j : Nat, 33 ≤ j ∧ j ≤ 126 ∧ pad q = nI j) (a0 a1 a2 a3 b1 b2 b3 b4 b5 b6 b7 b8 b9 : Int32) (c1 c2 c3 k1 k2 k3 : Nat → Int32) (y1 y2 r y3 : Int32) (now : Nat → Int32) (xk : Int32) :
    (f_X8_then th fr he wi oi ho si ag re pts trd nr n a0 sgn k1 k2 k3 a1 a2 a3 b1 b2 b3 b4 b5 b6 b7 b8 b9 c1 c2 c3 xk).1 = (f_X9_then mth n y1 y2 r y3 bk now pad xk).1 := by
  unfold f_X8_then f_X9_then
  rw [upto_in]
  generalize hTA : f_X6_tryAll a1 a2 a3 b1 b2 b3 b4 b5 b6 b7 b8 b9 c1 c2 c3 n sgn k1 k2 k3 th fr he wi oi ho si ag re pts trd nr = TA
  generalize hB : f_X9_barOfWeeks mth n y1 y2 r y3 bk now pad = B
  have w := bar_all h hn hp a1 a2 a3 b1 b2 b3 b4 b5 b6 b7 b8 b9 c1 c2 c3 k1 k2 k3 y1 y2 r y3 now hTA hB
  by_cases d2 : f_X9_in xk 0 6 = 0
  · rw [if_pos d2, if_pos d2]
  · rw [if_neg d2, if_neg d2]
    rcases w with ⟨g1, g2, g3, g4, g5, g6, g7⟩ | ⟨g1, g2⟩
    · rw [if_pos g1, if_pos g2]
      by_cases e0 : xk = 0
      · rw [if_pos e0, if_pos e0]; exact g7.2.2.1.1
      · rw [if_neg e0, if_neg e0]
        by_cases e1 : xk = 1
        · rw [if_pos e1, if_pos e1]; exact g7.2.2.2.2.1.1
        · rw [if_neg e1, if_neg e1]
          by_cases e2 : xk = 2
          · rw [if_pos e2, if_pos e2]; exact g7.2.2.2.1.1
          · rw [if_neg e2, if_neg e2]
            by_cases e3 : xk = 3
            · rw [if_pos e3, if_pos e3]; exact g7.2.2.2.2.2.1.1
            · rw [if_neg e3, if_neg e3]
              by_cases e4 : xk = 4
              · rw [if_pos e4, if_pos e4, g6]; exact most_eq g7
              · rw [if_neg e4, if_neg e4]
                by_cases e5 : xk = 5
                · rw [if_pos e5, if_pos e5]; exact g4
                · rw [if_neg e5, if_neg e5]; exact g5
    · rw [if_neg g1, if_neg g2]
