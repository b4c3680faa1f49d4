def act9 (th : Int32) (now : Nat → Int32) (k p n : Int32) : Int32 × (Nat → Int32) :=
  if k = 0 then f_X9_oil th now p else if k = 1 then f_X9_wire th now p else if k = 2 then f_X9_hand th now p n else if k = 3 then f_X9_blow now n else if k = 4 then f_X9_vote th now n else f_X9_endHour th now
def okAct (k p n : Int32) : Prop := ((k = 0 ∨ k = 1) ∧ rng p 7) ∨ (k = 2 ∧ rng p 7 ∧ rng n 8) ∨ ((k = 3 ∨ k = 4) ∧ rng n 8) ∨ k = 5
theorem hb1 {x : Int32} (hx : rng x 128) {j : Nat} (hj : j < 7) : (f_X8_hasBit x (nI j) = 1 ↔ ¬ f_X9_has x (nI j) = 0) ∧ (f_X8_hasBit x (nI j) = 0 ↔ f_X9_has x (nI j) = 0) := by
  have tb : ∀ a : Nat, a < 128 → ∀ j : Nat, j < 7 → ((f_X8_hasBit (nI a) (nI j) = 1 ↔ ¬ f_X9_has (nI a) (nI j) = 0) ∧ (f_X8_hasBit (nI a) (nI j) = 0 ↔ f_X9_has (nI a) (nI j) = 0)) := by decide +kernel
  obtain ⟨a, ha, rfl⟩ := hx
  exact tb a ha j hj
theorem tb_he1 : ∀ a : Nat, a < 256 → ∀ j : Nat, j < 8 → (nI a &&& (((1 : Int32) <<< (nI j &&& 31)) ^^^ (-1 : Int32))) ||| ((1 : Int32) <<< (nI j &&& 31)) = f_X8_withBit (nI a) (nI j) 1 := by decide +kernel
theorem rv_set {th fr he wi oi ho : Int32} {pts trd now : Nat → Int32} (h : RV th fr he wi oi ho pts trd now) {fr' he' wi' oi' ho' : Int32} {pts' now' : Nat → Int32} (e0 : ∀ q, q < 7 → pts' q = now' q ∧ rng (now' q) 8) (e7 : ∀ q, q < 7 → now' (7 + q) = now (7 + q))
    (e1 : fr' = now' 14 ∧ rng (now' 14) 128) (e2 : he' = now' 15 ∧ rng (now' 15) 256) (e3 : wi' = now' 16 ∧ rng (now' 16) 8) (e4 : oi' = now' 17 ∧ rng (now' 17) 10) (e5 : ho' = now' 18 ∧ rng (now' 18) 100) : RV th fr' he' wi' oi' ho' pts' trd now' :=
  ⟨fun q hq => ⟨e0 q hq, by rw [e7 q hq]; exact (h.1 q hq).2⟩, e1, e2, e3, e4, e5, h.2.2.2.2.2.2⟩
def CO (th fr he wi oi ho : Int32) (pts trd : Nat → Int32) (k p n : Int32) (now' : Nat → Int32) : Prop :=
  RV th (f_X7_carryOut th fr he wi oi ho pts trd k p n).1 (f_X7_carryOut th fr he wi oi ho pts trd k p n).2.1 (f_X7_carryOut th fr he wi oi ho pts trd k p n).2.2.1 (f_X7_carryOut th fr he wi oi ho pts trd k p n).2.2.2.1 (f_X7_carryOut th fr he wi oi ho pts trd k p n).2.2.2.2.1 (f_X7_carryOut th fr he wi oi ho pts trd k p n).2.2.2.2.2.1 (f_X7_carryOut th fr he wi oi ho pts trd k p n).2.2.2.2.2.2 now'
theorem act_oil {th fr he wi oi ho : Int32} {pts trd now : Nat → Int32} (h : RV th fr he wi oi ho pts trd now) {p n : Int32} (hp : rng p 7) :
    f_X7_reasonAgainst th fr wi oi ho pts 0 p n = (f_X9_oil th now p).1 ∧ ((f_X9_oil th now p).1 = 0 → CO th fr he wi oi ho pts trd 0 p n (f_X9_oil th now p).2) := by
  obtain ⟨h1, h2, h3, h4, h5, h6, h7⟩ := id h
  obtain ⟨j, hj, rfl⟩ := hp
  have hfr : rng fr 128 := by rw [h2.1]; exact h2.2
  obtain ⟨t1, t2⟩ := hb1 hfr hj
  have er : f_X7_reasonAgainst th fr wi oi ho pts 0 (nI j) n = f_X7_reasonAgainstTouching th fr oi pts 0 (nI j) n := by unfold f_X7_reasonAgainst; rw [if_pos rfl]
  have ec : f_X7_carryOut th fr he wi oi ho pts trd 0 (nI j) n = (f_X8_withBit fr (nI j) 1, he, wi, oi - 1, ho, pts, trd) := by unfold f_X7_carryOut; rw [if_pos rfl]
  unfold CO
  rw [er, ec]
  unfold f_X7_reasonAgainstTouching f_X9_oil
  rw [there_eq h7]
  by_cases c1 : f_X9_isThere th (nI j) = 0
  · rw [if_pos c1, if_pos c1]; exact ⟨rfl, fun h => absurd h (by dsimp only; decide)⟩
  · rw [if_neg c1, if_neg c1, if_pos rfl, ← h2.1]
    by_cases c2 : f_X9_has fr (nI j) = 0
    · rw [if_pos c2, if_neg (fun h => t1.mp h c2), if_neg (show ¬ (0 : Int32) = 2 by decide)]
      obtain ⟨o, ho', eo⟩ := h5.2
      have eo' : oi = nI o := by rw [h5.1, eo]
      rw [eo', ← h5.1, eo']
      by_cases c3 : o = 0
      · subst c3
        rw [if_neg (show ¬ (0 : Int32) < nI 0 by decide), if_pos (show nI 0 = 0 from rfl)]
        exact ⟨rfl, fun h => absurd h (by dsimp only; decide)⟩
      · rw [if_pos (show (0 : Int32) < nI o from nI_lt (a := 0) (by omega) (by omega)), if_neg (nI_ne0 (by omega) (by omega))]
        refine ⟨rfl, fun _ => ?_⟩
        refine rv_set h (fun q hq => ?_) (fun q hq => ?_) ?_ ?_ ?_ ?_ ?_
        · show pts q = upd (upd now 17 _) 14 _ q ∧ rng (upd (upd now 17 _) 14 _ q) 8
          rw [upd_ne _ _ (by omega), upd_ne _ _ (by omega)]; exact (h1 q hq).1
        · (try dsimp only); rw [upd_ne _ _ (by omega), upd_ne _ _ (by omega)]
        · have e : upd now 17 (nI o - 1) 14 = fr := by rw [upd_ne _ _ (by omega)]; exact h2.1.symm
          try dsimp only
          rw [upd_eq, e, ← wb1]
          exact ⟨rfl, wb_rng1 hfr hj⟩
        · exact h3
        · exact h4
        · (try dsimp only); rw [upd_ne _ _ (by omega), upd_eq]
          obtain ⟨o, rfl⟩ : ∃ x, o = x + 1 := ⟨o - 1, by omega⟩
          rw [nI_pred]
          exact ⟨rfl, rng_nI (by omega)⟩
        · exact h6
    · rw [if_neg c2, if_pos (t1.mpr c2)]; exact ⟨rfl, fun h => absurd h (by dsimp only; decide)⟩
theorem act_wire {th fr he wi oi ho : Int32} {pts trd now : Nat → Int32} (h : RV th fr he wi oi ho pts trd now) {p n : Int32} (hp : rng p 7) :
    f_X7_reasonAgainst th fr wi oi ho pts 1 p n = (f_X9_wire th now p).1 ∧ ((f_X9_wire th now p).1 = 0 → CO th fr he wi oi ho pts trd 1 p n (f_X9_wire th now p).2) := by
  obtain ⟨h1, h2, h3, h4, h5, h6, h7⟩ := id h
  obtain ⟨j, hj, rfl⟩ := hp
  have hfr : rng fr 128 := by rw [h2.1]; exact h2.2
  obtain ⟨t1, t2⟩ := hb1 hfr hj
  have er : f_X7_reasonAgainst th fr wi oi ho pts 1 (nI j) n = f_X7_reasonAgainstTouching th fr oi pts 1 (nI j) n := by unfold f_X7_reasonAgainst; rw [if_neg (by decide), if_pos rfl]
  have ec : f_X7_carryOut th fr he wi oi ho pts trd 1 (nI j) n = (f_X8_withBit fr (nI j) 0, he, wi, oi, ho, pts, trd) := by unfold f_X7_carryOut; rw [if_neg (by decide), if_pos rfl]
  unfold CO
  rw [er, ec]
  unfold f_X7_reasonAgainstTouching f_X9_wire
  rw [there_eq h7]
  by_cases c1 : f_X9_isThere th (nI j) = 0
  · rw [if_pos c1, if_pos c1]; exact ⟨rfl, fun h => absurd h (by dsimp only; decide)⟩
  · rw [if_neg c1, if_neg c1, if_neg (show ¬ (1 : Int32) = 0 by decide), ← h2.1]
    by_cases c2 : f_X9_has fr (nI j) = 0
    · rw [if_pos c2, if_pos (t2.mpr c2)]; exact ⟨rfl, fun h => absurd h (by dsimp only; decide)⟩
    · rw [if_neg c2, if_neg (fun h => c2 (t2.mp h)), if_neg (show ¬ (1 : Int32) = 2 by decide)]
      refine ⟨rfl, fun _ => ?_⟩
      refine rv_set h (fun q hq => ?_) (fun q hq => ?_) ?_ h3 h4 h5 h6
      · show pts q = upd now 14 _ q ∧ rng (upd now 14 _ q) 8
        rw [upd_ne _ _ (by omega)]; exact (h1 q hq).1
      · (try dsimp only); rw [upd_ne _ _ (by omega)]
      · (try dsimp only); rw [upd_eq, ← wb0]
        exact ⟨rfl, wb_rng0 hfr hj⟩
theorem act_hand {th fr he wi oi ho : Int32} {pts trd now : Nat → Int32} (h : RV th fr he wi oi ho pts trd now) {p n : Int32} (hp : rng p 7) (hn : rng n 8) :
    f_X7_reasonAgainst th fr wi oi ho pts 2 p n = (f_X9_hand th now p n).1 ∧ ((f_X9_hand th now p n).1 = 0 → CO th fr he wi oi ho pts trd 2 p n (f_X9_hand th now p n).2) := by
  obtain ⟨h1, h2, h3, h4, h5, h6, h7⟩ := id h
  obtain ⟨j, hj, rfl⟩ := hp
  have hfr : rng fr 128 := by rw [h2.1]; exact h2.2
  obtain ⟨t1, t2⟩ := hb1 hfr hj
  have er : f_X7_reasonAgainst th fr wi oi ho pts 2 (nI j) n = f_X7_reasonAgainstTouching th fr oi pts 2 (nI j) n := by unfold f_X7_reasonAgainst; rw [if_neg (by decide), if_neg (by decide), if_pos rfl]
  have ec : f_X7_carryOut th fr he wi oi ho pts trd 2 (nI j) n = (fr, he, wi, oi, ho, f_X7_turnByHand th pts (nI j) n, trd) := by unfold f_X7_carryOut; rw [if_neg (by decide), if_neg (by decide), if_pos rfl]
  unfold CO
  rw [er, ec]
  unfold f_X7_reasonAgainstTouching f_X9_hand f_X7_turnByHand
  rw [there_eq h7]
  by_cases c1 : f_X9_isThere th (nI j) = 0
  · rw [if_pos c1, if_pos c1]; exact ⟨rfl, fun h => absurd h (by dsimp only; decide)⟩
  · rw [if_neg c1, if_neg c1, if_neg (show ¬ (2 : Int32) = 0 by decide), if_pos (show (2 : Int32) = 2 from rfl), ← h2.1, nI_clamp (show j < 2 ^ 31 by omega), ← (h1 j hj).1.1]
    by_cases c2 : f_X9_has fr (nI j) = 0
    · rw [if_pos c2, if_pos (t2.mpr c2)]; exact ⟨rfl, fun h => absurd h (by dsimp only; decide)⟩
    · rw [if_neg c2, if_neg (fun h => c2 (t2.mp h))]
      by_cases c3 : pts j = n
      · rw [if_pos c3, if_pos c3]; exact ⟨rfl, fun h => absurd h (by dsimp only; decide)⟩
      · rw [if_neg c3, if_neg c3, if_neg c1]
        refine ⟨rfl, fun _ => ?_⟩
        refine rv_set h (fun q hq => ?_) (fun q hq => ?_) ?_ ?_ ?_ ?_ ?_
        · show upd pts j n q = upd now j n q ∧ rng (upd now j n q) 8
          rw [upd_at, upd_at]
          by_cases c : q = j
          · rw [if_pos c, if_pos c]; exact ⟨rfl, hn⟩
          · rw [if_neg c, if_neg c]; exact (h1 q hq).1
        · (try dsimp only); rw [upd_ne _ _ (by omega)]
        · (try dsimp only); rw [upd_ne _ _ (by omega)]; exact h2
        · (try dsimp only); rw [upd_ne _ _ (by omega)]; exact h3
        · (try dsimp only); rw [upd_ne _ _ (by omega)]; exact h4
        · (try dsimp only); rw [upd_ne _ _ (by omega)]; exact h5
        · (try dsimp only); rw [upd_ne _ _ (by omega)]; exact h6
theorem act_blow {th fr he wi oi ho : Int32} {pts trd now : Nat → Int32} (h : RV th fr he wi oi ho pts trd now) {p n : Int32} (hn : rng n 8) :
    f_X7_reasonAgainst th fr wi oi ho pts 3 p n = (f_X9_blow now n).1 ∧ ((f_X9_blow now n).1 = 0 → CO th fr he wi oi ho pts trd 3 p n (f_X9_blow now n).2) := by
  obtain ⟨h1, h2, h3, h4, h5, h6, h7⟩ := id h
  have er : f_X7_reasonAgainst th fr wi oi ho pts 3 p n = if wi = n then 5 else 0 := by unfold f_X7_reasonAgainst; rw [if_neg (by decide), if_neg (by decide), if_neg (by decide), if_pos rfl]
  have ec : f_X7_carryOut th fr he wi oi ho pts trd 3 p n = (fr, he, n, oi, ho, pts, trd) := by unfold f_X7_carryOut; rw [if_neg (by decide), if_neg (by decide), if_neg (by decide), if_pos rfl]
  unfold CO
  rw [er, ec]
  unfold f_X9_blow
  rw [← h4.1]
  by_cases c : wi = n
  · rw [if_pos c, if_pos c]; exact ⟨rfl, fun h => absurd h (by dsimp only; decide)⟩
  · rw [if_neg c, if_neg c]
    refine ⟨rfl, fun _ => ?_⟩
    refine rv_set h (fun q hq => ?_) (fun q hq => ?_) h2 h3 ⟨rfl, hn⟩ h5 h6
    · (try dsimp only); rw [upd_ne _ _ (by omega)]; exact (h1 q hq).1
    · (try dsimp only); rw [upd_ne _ _ (by omega)]
theorem act_hour {th fr he wi oi ho : Int32} {pts trd now : Nat → Int32} (h : RV th fr he wi oi ho pts trd now) {p n : Int32} :
    f_X7_reasonAgainst th fr wi oi ho pts 5 p n = (f_X9_endHour th now).1 ∧ ((f_X9_endHour th now).1 = 0 → CO th fr he wi oi ho pts trd 5 p n (f_X9_endHour th now).2) := by
  obtain ⟨h1, h2, h3, h4, h5, h6, h7⟩ := id h
  have er : f_X7_reasonAgainst th fr wi oi ho pts 5 p n = if ho < 99 then 0 else 7 := by unfold f_X7_reasonAgainst; rw [if_neg (by decide), if_neg (by decide), if_neg (by decide), if_neg (by decide), if_neg (by decide)]
  have ec : f_X7_carryOut th fr he wi oi ho pts trd 5 p n = (fr, he, wi, oi, ho + 1, (f_X7_turnVanes th fr pts trd wi).1, (f_X7_turnVanes th fr pts trd wi).2) := by unfold f_X7_carryOut; rw [if_neg (by decide), if_neg (by decide), if_neg (by decide), if_neg (by decide), if_neg (by decide)]
  unfold CO
  rw [er, ec]
  unfold f_X9_endHour
  obtain ⟨o, ho', eo⟩ := h6.2
  rw [← h6.1]
  have eo' : ho = nI o := by rw [h6.1, eo]
  by_cases c : o = 99
  · subst c
    rw [eo', if_pos (show nI 99 = 99 from rfl), if_neg (show ¬ nI 99 < 99 by decide)]; exact ⟨rfl, fun h => absurd h (by dsimp only; decide)⟩
  · have c1 : nI o < 99 := nI_lt (b := 99) (by omega) (by decide)
    have c2 : ¬ nI o = 99 := fun h => by rw [h] at c1; exact absurd c1 (by decide)
    rw [eo', if_neg c2, if_pos c1]
    refine ⟨rfl, fun _ => ?_⟩
    refine rv_turn (rv_set h (ho' := nI o + 1) (fun q hq => ?_) (fun q hq => ?_) h2 h3 h4 h5 ⟨rfl, ?_⟩)
    · (try dsimp only); rw [upd_ne _ _ (by omega)]; exact (h1 q hq).1
    · (try dsimp only); rw [upd_ne _ _ (by omega)]
    · (try dsimp only); rw [upd_eq, ← nI_succ]; exact rng_nI (by omega)
theorem act_vote {th fr he wi oi ho : Int32} {pts trd now : Nat → Int32} (h : RV th fr he wi oi ho pts trd now) {p n : Int32} (hn : rng n 8) :
    f_X7_reasonAgainst th fr wi oi ho pts 4 p n = (f_X9_vote th now n).1 ∧ ((f_X9_vote th now n).1 = 0 → CO th fr he wi oi ho pts trd 4 p n (f_X9_vote th now n).2) := by
  obtain ⟨h1, h2, h3, h4, h5, h6, h7⟩ := id h
  have er : f_X7_reasonAgainst th fr wi oi ho pts 4 p n = if th = 0 then 6 else 0 := by unfold f_X7_reasonAgainst; rw [if_neg (by decide), if_neg (by decide), if_neg (by decide), if_neg (by decide), if_pos rfl]
  have ec : f_X7_carryOut th fr he wi oi ho pts trd 4 p n = (fr, f_X8_withBit he n (f_X7_wouldCarry th pts n), wi, oi, ho, pts, trd) := by unfold f_X7_carryOut; rw [if_neg (by decide), if_neg (by decide), if_neg (by decide), if_neg (by decide), if_pos rfl]
  unfold CO
  rw [er, ec]
  unfold f_X9_vote
  by_cases c : th = 0
  · rw [if_pos c, if_pos c]; exact ⟨rfl, fun h => absurd h (by dsimp only; decide)⟩
  · rw [if_neg c, if_neg c]
    generalize hX : now 15 &&& (((1 : Int32) <<< (n &&& 31)) ^^^ (-1 : Int32)) = X
    have hcar : f_X7_wouldCarry th pts n = f_X9_isCarried th (upd now 15 X) n := carry_eq (fun q hq => by rw [upd_ne _ _ (by omega)]; exact (h1 q hq).1) h7 hn
    rw [hcar, upd_eq]
    have fin : ∀ (b Y : Int32), (b = 0 ∨ b = 1) → f_X8_withBit he n b = Y → rng Y 256 → RV th fr (f_X8_withBit he n b) wi oi ho pts trd (upd (upd now 15 X) 15 Y) := fun b Y hb e hr => by
      refine rv_set h (fun q hq => ?_) (fun q hq => ?_) h2 ⟨e, hr⟩ h4 h5 h6
      · (try dsimp only); rw [upd_ne _ _ (by omega), upd_ne _ _ (by omega)]; exact (h1 q hq).1
      · (try dsimp only); rw [upd_ne _ _ (by omega), upd_ne _ _ (by omega)]
    obtain ⟨a, ha, ea⟩ := h3.2
    obtain ⟨j, hj, rfl⟩ := hn
    have he' : he = nI a := by rw [h3.1, ea]
    have hhe : rng he 256 := ⟨a, ha, he'⟩
    by_cases c2 : f_X9_isCarried th (upd now 15 X) (nI j) = 0
    · rw [if_pos c2, c2, or0]
      refine ⟨rfl, fun _ => fin 0 X (Or.inl rfl) ?_ ?_⟩
      · rw [wb0, ← hX, h3.1]
      · rw [← hX, ← h3.1, ← wb0]; exact vb_rng0 hhe hj
    · have c3 : f_X9_isCarried th (upd now 15 X) (nI j) = 1 := by
        unfold f_X9_isCarried at c2 ⊢
        split
        · rename_i hh; rw [if_pos hh] at c2; exact absurd rfl c2
        · rfl
      rw [if_neg c2, c3]
      have t := tb_he1 a ha j hj
      rw [← he', h3.1, hX] at t
      refine ⟨rfl, fun _ => fin 1 _ (Or.inr rfl) ?_ ?_⟩
      · rw [t, h3.1]
      · rw [t, ← h3.1]; exact vb_rng1 hhe hj
theorem act_all {th fr he wi oi ho : Int32} {pts trd now : Nat → Int32} (h : RV th fr he wi oi ho pts trd now) {k p n : Int32} (hk : okAct k p n) :
    f_X7_reasonAgainst th fr wi oi ho pts k p n = (act9 th now k p n).1 ∧ ((act9 th now k p n).1 = 0 → CO th fr he wi oi ho pts trd k p n (act9 th now k p n).2) := by
  unfold act9
  rcases hk with ⟨rfl | rfl, hp⟩ | ⟨rfl, hp, hn⟩ | ⟨rfl | rfl, hn⟩ | rfl
  · rw [if_pos rfl]; exact act_oil h hp
  · rw [if_neg (by decide), if_pos rfl]; exact act_wire h hp
  · rw [if_neg (by decide), if_neg (by decide), if_pos rfl]; exact act_hand h hp hn
  · rw [if_neg (by decide), if_neg (by decide), if_neg (by decide), if_pos rfl]; exact act_blow h hn
  · rw [if_neg (by decide), if_neg (by decide), if_neg (by decide), if_neg (by decide), if_pos rfl]; exact act_vote h hn
  · rw [if_neg (by decide), if_neg (by decide), if_neg (by decide), if_neg (by decide), if_neg (by decide)]; exact act_hour h
