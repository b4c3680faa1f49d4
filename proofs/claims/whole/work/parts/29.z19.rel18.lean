theorem fo_val (n : Nat) (hn : n < 1000) (pad : Nat → Int32) : ∀ (k i : Nat) (st : Int32), i + k = n → (st = 0 ∨ st = 1 ∨ st = 2) → lp_X9_faultOf_4 n pad k i st = -6 ∨ ¬ lp_X9_faultOf_4 n pad k i st < 0 := by
  intro k
  induction k with
  | zero =>
    intro i st _ h
    rw [fo_z]
    by_cases c : st = 0
    · rw [if_pos c]; exact Or.inl rfl
    · rw [if_neg c]; exact Or.inr (nI_pos (by omega))
  | succ k ih =>
    intro i st hi h
    have i0 := ih (i + 1) 0 (by omega) (Or.inl rfl)
    have i1 := ih (i + 1) 1 (by omega) (Or.inr (Or.inl rfl))
    have i2 := ih (i + 1) 2 (by omega) (Or.inr (Or.inr rfl))
    have bad : nI i = -6 ∨ ¬ nI i < 0 := Or.inr (nI_pos (by omega))
    rcases h with rfl | rfl | rfl
    · rw [fo_0]
      by_cases c1 : pad i = 119
      · rw [if_pos c1]; exact i2
      · rw [if_neg c1]
        by_cases c2 : pad i = 118
        · rw [if_pos c2]; exact i2
        · rw [if_neg c2]
          by_cases c3 : f_X9_in (pad i) 65 71 = 0
          · rw [if_pos c3]
            by_cases c4 : pad i = 46
            · rw [if_pos c4]; exact i0
            · rw [if_neg c4]; exact bad
          · rw [if_neg c3]; exact i1
    · rw [fo_1]
      by_cases c1 : f_X9_in (pad i) 48 55 = 0
      · rw [if_pos c1]
        by_cases c2 : pad i = 42
        · rw [if_pos c2]; exact i0
        · rw [if_neg c2]
          by_cases c3 : pad i = 35
          · rw [if_pos c3]; exact i0
          · rw [if_neg c3]; exact bad
      · rw [if_neg c1]; exact i0
    · rw [fo_2]
      by_cases c1 : f_X9_in (pad i) 48 55 = 0
      · rw [if_pos c1]; exact bad
      · rw [if_neg c1]; exact i0
theorem week_all {pts trd nr : Nat → Int32} {th fr he wi oi ho si ag re : Int32} {bk : Nat → Int32} {mth : Int32} {bs : Nat → Int32} {ms : Nat} {sg : Nat → Int32} (h : RelW pts trd nr th fr he wi oi ho si ag re bk mth bs ms sg)
    {n : Nat} {sgn pad : Nat → Int32} (hn : n ≤ 60) (hp : ∀ q, q < n → sgn q = pad q ∧ ∃ j : Nat, 33 ≤ j ∧ j ≤ 126 ∧ pad q = nI j) (a1 a2 a3 b1 b2 b3 b4 b5 b6 b7 b8 b9 : Int32) (c1 c2 c3 k1 k2 k3 : Nat → Int32) (r : Int32) (now : Nat → Int32)
    {TA : Int32 × Int32 × Int32 × Int32 × Int32 × Int32 × Int32 × Int32 × Int32 × Int32 × Int32 × Int32 × Int32 × (Nat → Int32) × (Nat → Int32) × (Nat → Int32) × Int32 × (Nat → Int32) × (Nat → Int32) × (Nat → Int32)} (hTA : f_X6_tryAll a1 a2 a3 b1 b2 b3 b4 b5 b6 b7 b8 b9 c1 c2 c3 n sgn k1 k2 k3 th fr he wi oi ho si ag re pts trd nr = TA) :
    (¬ f_X9_faultOf n pad < 0 ∧ TA.1 = -5) ∨ (f_X9_faultOf n pad = -6 ∧ (f_X9_goWeeks mth n r bk now pad).1 = -6 ∧ TA.1 = 0 ∧ TA.2.1 = (f_X9_goWeeks mth n r bk now pad).2.2.2.2.1 ∧ TA.2.2.1 = (f_X9_goWeeks mth n r bk now pad).2.1 ∧ TA.2.2.2.1 = (f_X9_goWeeks mth n r bk now pad).2.2.1 ∧ TA.2.2.2.2.1 = mth ∧
      RV mth TA.2.2.2.2.2.1 TA.2.2.2.2.2.2.1 TA.2.2.2.2.2.2.2.1 TA.2.2.2.2.2.2.2.2.1 TA.2.2.2.2.2.2.2.2.2.1 TA.2.2.2.2.2.2.2.2.2.2.2.2.2.1 TA.2.2.2.2.2.2.2.2.2.2.2.2.2.2.1 (f_X9_goWeeks mth n r bk now pad).2.2.2.2.2) ∨
    (f_X9_faultOf n pad = -6 ∧ ¬ (f_X9_goWeeks mth n r bk now pad).1 < 0 ∧ TA.2.1 = (f_X9_goWeeks mth n r bk now pad).1 ∧ TA.1 = (f_X9_goWeeks mth n r bk now pad).2.2.2.1 ∧ ¬ TA.1 ≤ 0) := by
  have ef := fault_eq n sgn pad hp k1 k2 k3
  have hv : f_X9_faultOf n pad = -6 ∨ ¬ f_X9_faultOf n pad < 0 := fo_val n (by omega) pad n 0 0 (by omega) (Or.inl rfl)
  have hpa := read_pa n sgn pad hn hp n n 0 0 k1 k2 k3 (Nat.le_refl _) (by omega) (Nat.le_refl _)
  have hrd : f_X3_read n sgn k1 k2 k3 = lp_X3_read_9 n sgn n 0 (nI 0) k1 k2 k3 0 := rfl
  rw [← hrd] at hpa
  unfold f_X6_tryAll at hTA
  rw [ef] at hTA
  by_cases c : f_X9_faultOf n pad = -6
  · rw [if_pos c] at hTA
    obtain ⟨U, e1, e2, e3, e4, e5⟩ := hpa (by rw [ef, c])
    rw [e1] at hTA
    have hth : th = mth := h.2.1
    have hrv := rv_init h (pts' := (lp_X7_becomeLike_2 pts trd nr 7 0 c1 c2 c3).1) (trd' := (lp_X7_becomeLike_2 pts trd nr 7 0 c1 c2 c3).2.1) (now := (f_X9_asNow bk now).2.2) (fun q hq => ⟨(like_lt pts trd nr c1 c2 c3 hq).1, (like_lt pts trd nr c1 c2 c3 hq).2.1⟩) (fun q hq => asnow_lt bk now hq)
    have run := week_run mth n U (by omega) (by omega) pad _ _ _ n 0 0 (n + 1) 60 0 (-6) (-6) fr he wi oi ho r _ _ _ e5 (by omega) (by omega) (by omega) (Or.inl rfl) hrv
    subst hth
    subst hTA
    rcases run with ⟨g1, g2, g3, g4, g5, g6⟩ | ⟨g1, g2, g3, g4⟩
    · exact Or.inr (Or.inl ⟨c, g1, g2, g3, g4, g5, rfl, g6⟩)
    · exact Or.inr (Or.inr ⟨c, g1, g2, g3, g4⟩)
  · rw [if_neg c] at hTA
    rcases hv with hv | hv
    · exact absurd hv c
    · exact Or.inl ⟨hv, by rw [← hTA]⟩
