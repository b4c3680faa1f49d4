def yx (v : Int32) : Int32 := (((75 : Int32) * v) + (74 : Int32)) - (((75 : Int32) * v) + (74 : Int32)) / (65537 : Int32) * (65537 : Int32)
def yq (x : Int32) : Int32 := (x / (7 : Int32)) - (x / (7 : Int32)) / (8 : Int32) * (8 : Int32)
def yk (x : Int32) : Int32 := if (5 : Int32) < yq x then (5 : Int32) else yq x
def yp (x : Int32) : Int32 := x - x / (7 : Int32) * (7 : Int32)
def yz (x : Int32) : Int32 := (x / (56 : Int32)) - (x / (56 : Int32)) / (8 : Int32) * (8 : Int32)
theorem yx_nI {j : Nat} (hj : j < 65537) : yx (nI j) = nI ((75 * j + 74) % 65537) := by
  unfold yx
  have m : (75 : Int32) * nI j = nI (75 * j) := (Int32.ofNat_mul 75 j).symm
  have e : (75 : Int32) * nI j + 74 = nI (75 * j + 74) := by
    rw [m, show (74 : Int32) = nI 74 from rfl, nI_add]
  rw [e]
  exact nI_mod (a := 75 * j + 74) (b := 65537) (by omega) (by omega)
theorem yq_nI {m : Nat} (h : m < 65537) : yq (nI m) = nI (m / 7 % 8) := by
  unfold yq
  rw [show nI m / (7 : Int32) = nI (m / 7) from nI_div (a := m) (b := 7) (by omega) (by omega)]
  exact nI_mod (a := m / 7) (b := 8) (by omega) (by omega)
theorem yp_nI {m : Nat} (h : m < 65537) : yp (nI m) = nI (m % 7) := nI_mod (a := m) (b := 7) (by omega) (by omega)
theorem yz_nI {m : Nat} (h : m < 65537) : yz (nI m) = nI (m / 56 % 8) := by
  unfold yz
  rw [show nI m / (56 : Int32) = nI (m / 56) from nI_div (a := m) (b := 56) (by omega) (by omega)]
  exact nI_mod (a := m / 56) (b := 8) (by omega) (by omega)
def dyT (th : Int32) (k i : Nat) (T : Int32 × Int32 × Int32 × Int32 × Int32 × Int32 × Int32 × Int32 × Int32 × (Nat → Int32) × (Nat → Int32)) (x : Int32) : Int32 × Int32 × Int32 × Int32 × Int32 × Int32 × Int32 × Int32 × (Nat → Int32) × (Nat → Int32) × Int32 :=
  lp_X6_drawYear_11 th k (i + 1) T.2.1 T.2.2.1 T.2.2.2.1 T.2.2.2.2.1 T.2.2.2.2.2.1 T.2.2.2.2.2.2.1 T.2.2.2.2.2.2.2.1 T.2.2.2.2.2.2.2.2.1 T.2.2.2.2.2.2.2.2.2.1 T.2.2.2.2.2.2.2.2.2.2 x
theorem dy_s (th : Int32) (k i : Nat) (a hA hT fr he wi oi ho : Int32) (pts trd : Nat → Int32) (v : Int32) : lp_X6_drawYear_11 th (k + 1) i a hA hT fr he wi oi ho pts trd v = dyT th k i (f_X6_tryAct a hA hT th fr he wi oi ho pts trd (yk (yx v)) (yp (yx v)) (yz (yx v))) (yx v) := by
  rw [lp_X6_drawYear_11]
  unfold dyT yk yq yp yz yx
  rfl
def y9T (th : Int32) (k i : Nat) (A : Int32 × (Nat → Int32)) (x : Int32) : Int32 × (Nat → Int32) × Int32 := lp_X9_year_43 th k (i + 1) A.1 A.2 x
theorem y9_s (th : Int32) (k i : Nat) (u : Int32) (now : Nat → Int32) (v : Int32) : lp_X9_year_43 th (k + 1) i u now v = (if yq (yx v) = 0 then y9T th k i (f_X9_oil th now (yp (yx v))) (yx v) else if yq (yx v) = 1 then y9T th k i (f_X9_wire th now (yp (yx v))) (yx v) else if yq (yx v) = 2 then y9T th k i (f_X9_hand th now (yp (yx v)) (yz (yx v))) (yx v) else if yq (yx v) = 3 then y9T th k i (f_X9_blow now (yz (yx v))) (yx v) else if yq (yx v) = 4 then y9T th k i (f_X9_vote th now (yz (yx v))) (yx v) else y9T th k i (f_X9_endHour th now) (yx v)) := by
  rw [lp_X9_year_43]
  unfold y9T yq yp yz yx
  rfl
theorem y9_act (th : Int32) (k i : Nat) (u : Int32) (now : Nat → Int32) (v : Int32) (c : Nat) (hc : c < 8) (e : yq (yx v) = nI c) : lp_X9_year_43 th (k + 1) i u now v = y9T th k i (act9 th now (yk (yx v)) (yp (yx v)) (yz (yx v))) (yx v) := by
  rw [y9_s]
  unfold yk
  rw [e]
  have h : c = 0 ∨ c = 1 ∨ c = 2 ∨ c = 3 ∨ c = 4 ∨ c = 5 ∨ c = 6 ∨ c = 7 := by omega
  rcases h with rfl | rfl | rfl | rfl | rfl | rfl | rfl | rfl
  · rw [if_pos (show nI 0 = 0 from rfl), if_neg (show ¬ (5 : Int32) < nI 0 by decide), show nI 0 = (0 : Int32) from rfl, a9_0]
  · rw [if_neg (show ¬ nI 1 = 0 by decide), if_pos (show nI 1 = 1 from rfl), if_neg (show ¬ (5 : Int32) < nI 1 by decide), show nI 1 = (1 : Int32) from rfl, a9_1]
  · rw [if_neg (show ¬ nI 2 = 0 by decide), if_neg (show ¬ nI 2 = 1 by decide), if_pos (show nI 2 = 2 from rfl), if_neg (show ¬ (5 : Int32) < nI 2 by decide), show nI 2 = (2 : Int32) from rfl, a9_2]
  · rw [if_neg (show ¬ nI 3 = 0 by decide), if_neg (show ¬ nI 3 = 1 by decide), if_neg (show ¬ nI 3 = 2 by decide), if_pos (show nI 3 = 3 from rfl), if_neg (show ¬ (5 : Int32) < nI 3 by decide), show nI 3 = (3 : Int32) from rfl, a9_3]
  · rw [if_neg (show ¬ nI 4 = 0 by decide), if_neg (show ¬ nI 4 = 1 by decide), if_neg (show ¬ nI 4 = 2 by decide), if_neg (show ¬ nI 4 = 3 by decide), if_pos (show nI 4 = 4 from rfl), if_neg (show ¬ (5 : Int32) < nI 4 by decide), show nI 4 = (4 : Int32) from rfl, a9_4]
  · rw [if_neg (show ¬ nI 5 = 0 by decide), if_neg (show ¬ nI 5 = 1 by decide), if_neg (show ¬ nI 5 = 2 by decide), if_neg (show ¬ nI 5 = 3 by decide), if_neg (show ¬ nI 5 = 4 by decide), if_neg (show ¬ (5 : Int32) < nI 5 by decide), show nI 5 = (5 : Int32) from rfl, a9_5]
  · rw [if_neg (show ¬ nI 6 = 0 by decide), if_neg (show ¬ nI 6 = 1 by decide), if_neg (show ¬ nI 6 = 2 by decide), if_neg (show ¬ nI 6 = 3 by decide), if_neg (show ¬ nI 6 = 4 by decide), if_pos (show (5 : Int32) < nI 6 by decide), a9_5]
  · rw [if_neg (show ¬ nI 7 = 0 by decide), if_neg (show ¬ nI 7 = 1 by decide), if_neg (show ¬ nI 7 = 2 by decide), if_neg (show ¬ nI 7 = 3 by decide), if_neg (show ¬ nI 7 = 4 by decide), if_pos (show (5 : Int32) < nI 7 by decide), a9_5]
theorem y_ok {x : Int32} {c : Nat} (hc : c < 8) (e : yq x = nI c) {p z : Int32} (hp : rng p 7) (hz : rng z 8) : okAct (yk x) p z := by
  unfold yk
  rw [e]
  have h : c = 0 ∨ c = 1 ∨ c = 2 ∨ c = 3 ∨ c = 4 ∨ c = 5 ∨ c = 6 ∨ c = 7 := by omega
  rcases h with rfl | rfl | rfl | rfl | rfl | rfl | rfl | rfl
  · rw [if_neg (show ¬ (5 : Int32) < nI 0 by decide)]; exact Or.inl ⟨Or.inl rfl, hp⟩
  · rw [if_neg (show ¬ (5 : Int32) < nI 1 by decide)]; exact Or.inl ⟨Or.inr rfl, hp⟩
  · rw [if_neg (show ¬ (5 : Int32) < nI 2 by decide)]; exact Or.inr (Or.inl ⟨rfl, hp, hz⟩)
  · rw [if_neg (show ¬ (5 : Int32) < nI 3 by decide)]; exact Or.inr (Or.inr (Or.inl ⟨Or.inl rfl, hz⟩))
  · rw [if_neg (show ¬ (5 : Int32) < nI 4 by decide)]; exact Or.inr (Or.inr (Or.inl ⟨Or.inr rfl, hz⟩))
  · rw [if_neg (show ¬ (5 : Int32) < nI 5 by decide)]; exact Or.inr (Or.inr (Or.inr rfl))
  · rw [if_pos (show (5 : Int32) < nI 6 by decide)]; exact Or.inr (Or.inr (Or.inr rfl))
  · rw [if_pos (show (5 : Int32) < nI 7 by decide)]; exact Or.inr (Or.inr (Or.inr rfl))
theorem a9_same (th : Int32) (now : Nat → Int32) (k p m : Int32) : (act9 th now k p m).1 = 0 ∨ (act9 th now k p m).2 = now := by
  unfold act9
  by_cases c0 : k = 0
  · rw [if_pos c0]; unfold f_X9_oil
    by_cases d1 : f_X9_isThere th p = 0
    · rw [if_pos d1]; exact Or.inr rfl
    · rw [if_neg d1]
      by_cases d2 : f_X9_has (now 14) p = 0
      · rw [if_pos d2]
        by_cases d3 : now 17 = 0
        · rw [if_pos d3]; exact Or.inr rfl
        · rw [if_neg d3]; exact Or.inl rfl
      · rw [if_neg d2]; exact Or.inr rfl
  · rw [if_neg c0]
    by_cases c1 : k = 1
    · rw [if_pos c1]; unfold f_X9_wire
      by_cases d1 : f_X9_isThere th p = 0
      · rw [if_pos d1]; exact Or.inr rfl
      · rw [if_neg d1]
        by_cases d2 : f_X9_has (now 14) p = 0
        · rw [if_pos d2]; exact Or.inr rfl
        · rw [if_neg d2]; exact Or.inl rfl
    · rw [if_neg c1]
      by_cases c2 : k = 2
      · rw [if_pos c2]; unfold f_X9_hand
        by_cases d1 : f_X9_isThere th p = 0
        · rw [if_pos d1]; exact Or.inr rfl
        · rw [if_neg d1]
          by_cases d2 : f_X9_has (now 14) p = 0
          · rw [if_pos d2]; exact Or.inr rfl
          · rw [if_neg d2]
            by_cases d3 : now p.toNatClampNeg = m
            · rw [if_pos d3]; exact Or.inr rfl
            · rw [if_neg d3]; exact Or.inl rfl
      · rw [if_neg c2]
        by_cases c3 : k = 3
        · rw [if_pos c3]; unfold f_X9_blow
          by_cases d1 : now 16 = m
          · rw [if_pos d1]; exact Or.inr rfl
          · rw [if_neg d1]; exact Or.inl rfl
        · rw [if_neg c3]
          by_cases c4 : k = 4
          · rw [if_pos c4]; unfold f_X9_vote
            by_cases d1 : th = 0
            · rw [if_pos d1]; exact Or.inr rfl
            · rw [if_neg d1]
              generalize upd now 15 (now 15 &&& (((1 : Int32) <<< (m &&& 31)) ^^^ (-1 : Int32))) = Y
              by_cases d2 : f_X9_isCarried th Y m = 0
              · rw [if_pos d2]; exact Or.inl rfl
              · rw [if_neg d2]; exact Or.inl rfl
          · rw [if_neg c4]; unfold f_X9_endHour
            by_cases d1 : now 18 = 99
            · rw [if_pos d1]; exact Or.inr rfl
            · rw [if_neg d1]; exact Or.inl rfl
def YR (th : Int32) (R : Int32 × Int32 × Int32 × Int32 × Int32 × Int32 × Int32 × Int32 × (Nat → Int32) × (Nat → Int32) × Int32) (now : Nat → Int32) : Prop :=
  RV th R.2.2.2.1 R.2.2.2.2.1 R.2.2.2.2.2.1 R.2.2.2.2.2.2.1 R.2.2.2.2.2.2.2.1 R.2.2.2.2.2.2.2.2.1 R.2.2.2.2.2.2.2.2.2.1 now
theorem yr_loop (th : Int32) : ∀ (k i j : Nat) (a hA hT fr he wi oi ho u : Int32) (pts trd now : Nat → Int32), j < 65537 → RV th fr he wi oi ho pts trd now → YR th (lp_X6_drawYear_11 th k i a hA hT fr he wi oi ho pts trd (nI j)) (lp_X9_year_43 th k i u now (nI j)).2.1 := by
  intro k
  induction k with
  | zero => intro i j a hA hT fr he wi oi ho u pts trd now hj h; exact h
  | succ k ih =>
    intro i j a hA hT fr he wi oi ho u pts trd now hj h
    have ex := yx_nI hj
    have hm : (75 * j + 74) % 65537 < 65537 := Nat.mod_lt _ (by omega)
    generalize (75 * j + 74) % 65537 = m at ex hm
    have eq := yq_nI hm
    have ok : okAct (yk (nI m)) (yp (nI m)) (yz (nI m)) := y_ok (Nat.mod_lt _ (by omega)) eq (by rw [yp_nI hm]; exact rng_nI (Nat.mod_lt _ (by omega))) (by rw [yz_nI hm]; exact rng_nI (Nat.mod_lt _ (by omega)))
    rw [dy_s, y9_act th k i u now (nI j) (m / 7 % 8) (Nat.mod_lt _ (by omega)) (by rw [ex]; exact eq), ex]
    generalize yk (nI m) = K at ok ⊢
    generalize yp (nI m) = P at ok ⊢
    generalize yz (nI m) = N at ok ⊢
    obtain ⟨e1, e2⟩ := act_all h ok
    have e3 := a9_same th now K P N
    have e4 := a9_val th now K P N
    generalize act9 th now K P N = A at e1 e2 e3 e4 ⊢
    unfold y9T
    rcases e4 with z | z
    · have hco := e2 z
      rw [z] at e1
      rw [try_yes e1]
      unfold dyT
      exact ih (i + 1) m _ _ _ _ _ _ _ _ A.1 _ _ A.2 hm hco
    · have hne : ¬ A.1 = 0 := fun e => by rw [e] at z; exact z (by decide)
      have hne' : ¬ f_X7_reasonAgainst th fr wi oi ho pts K P N = 0 := fun e => hne (by rw [← e1, e])
      rw [try_no hne']
      have e5 : A.2 = now := e3.resolve_left hne
      rw [e5]
      unfold dyT
      exact ih (i + 1) m _ _ _ _ _ _ _ _ A.1 _ _ now hm h
theorem tired_eq {th : Int32} (ht : rng th 128) {trd now : Nat → Int32} (h : ∀ q, q < 7 → trd q = now (7 + q)) : ∀ (k i : Nat) (v : Int32), i + k ≤ 7 → lp_X7_tiredInAll_4 th trd k i v = lp_X9_year_216 th now k i v := by
  intro k
  induction k with
  | zero => intro i v _; rfl
  | succ k ih =>
    intro i v hi
    have e1 : lp_X7_tiredInAll_4 th trd (k + 1) i v = (if f_X7_isThere th (nI i) = 0 then lp_X7_tiredInAll_4 th trd k (i + 1) (v + 0) else lp_X7_tiredInAll_4 th trd k (i + 1) (v + trd i)) := rfl
    have e2 : lp_X9_year_216 th now (k + 1) i v = (if f_X9_isThere th (nI i) = 0 then lp_X9_year_216 th now k (i + 1) (v + 0) else lp_X9_year_216 th now k (i + 1) (v + now (7 + i))) := rfl
    rw [e1, e2, there_eq ht, h i (by omega), ih (i + 1) _ (by omega), ih (i + 1) _ (by omega)]
theorem year_eq {pts trd nr : Nat → Int32} {th fr he wi oi ho si ag re : Int32} {bk : Nat → Int32} {mth : Int32} {bs : Nat → Int32} {ms : Nat} {sg : Nat → Int32} (h : RelW pts trd nr th fr he wi oi ho si ag re bk mth bs ms sg)
    (a1 a2 a3 b1 b2 b3 b4 b5 b6 b7 b8 b9 : Int32) (c1 c2 c3 : Nat → Int32) (y1 y2 r : Int32) (now : Nat → Int32) (xs xm xk : Int32) :
    (f_X8_year th fr he wi oi ho si ag re pts trd nr a1 a2 a3 b1 b2 b3 b4 b5 b6 b7 b8 b9 c1 c2 c3 xs xm xk).1 = (f_X9_year mth y1 y2 r bk now xs xm xk).1 := by
  have hth : th = mth := h.2.1
  have hw2 : rng mth 128 := (relw_w h).2.1
  have main : ∀ s : Nat, s < 65537 → ∀ n : Nat, YR mth (lp_X6_drawYear_11 mth n 0 0 (-6) (-6) fr he wi oi ho (lp_X7_becomeLike_2 pts trd nr 7 0 c1 c2 c3).1 (lp_X7_becomeLike_2 pts trd nr 7 0 c1 c2 c3).2.1 (nI s)) (lp_X9_year_43 mth n 0 r (f_X9_asNow bk now).2.2 (nI s)).2.1 := fun s hs n =>
    yr_loop mth n 0 s 0 (-6) (-6) fr he wi oi ho r _ _ _ hs (rv_init h (fun q hq => ⟨(like_lt pts trd nr c1 c2 c3 hq).1, (like_lt pts trd nr c1 c2 c3 hq).2.1⟩) (fun q hq => asnow_lt bk now hq))
  unfold f_X8_year f_X9_year
  rw [upto_in, upto_in]
  by_cases d1 : f_X9_in xs 0 9999 = 0
  · rw [if_pos d1, if_pos d1]
  · rw [if_neg d1, if_neg d1]
    obtain ⟨s, hs, rfl⟩ := in_of (n := 9999) (by omega) d1
    have dm : (f_X9_in xm 1 99 = 0 ↔ xm < 1 ∨ 99 < xm) := by
      unfold f_X9_in
      by_cases z1 : xm < 1
      · rw [if_pos z1]; exact ⟨fun _ => Or.inl z1, fun _ => rfl⟩
      · rw [if_neg z1]
        by_cases z2 : 99 < xm
        · rw [if_pos z2]; exact ⟨fun _ => Or.inr z2, fun _ => rfl⟩
        · rw [if_neg z2]; exact ⟨fun e => absurd e (by decide), fun e => by rcases e with e | e; exact absurd e z1; exact absurd e z2⟩
    by_cases d2 : xm < 1
    · rw [if_pos d2, if_pos (dm.mpr (Or.inl d2))]
    · rw [if_neg d2]
      by_cases d3 : 99 < xm
      · rw [if_pos d3, if_pos (dm.mpr (Or.inr d3))]
      · have hdm : ¬ f_X9_in xm 1 99 = 0 := fun e => by
          rcases dm.mp e with e | e
          · exact d2 e
          · exact d3 e
        rw [if_neg d3, if_neg hdm]
        by_cases d4 : f_X9_in xk 0 2 = 0
        · rw [if_pos d4, if_pos d4]
        · rw [if_neg d4, if_neg d4]
          have mm := main s (by omega) xm.toNatClampNeg
          generalize lp_X9_year_43 mth xm.toNatClampNeg 0 r (f_X9_asNow bk now).2.2 (nI s) = R9 at mm ⊢
          have hD : ∃ D8, f_X6_drawYear c1 c2 c3 th fr he wi oi ho si ag re pts trd nr (nI s) xm.toNatClampNeg = D8 ∧ D8.2.2.2.1 = mth ∧ RV mth D8.2.2.2.2.1 D8.2.2.2.2.2.1 D8.2.2.2.2.2.2.1 D8.2.2.2.2.2.2.2.1 D8.2.2.2.2.2.2.2.2.1 D8.2.2.2.2.2.2.2.2.2.2.2.2.1 D8.2.2.2.2.2.2.2.2.2.2.2.2.2.1 R9.2.1 := by
            rw [hth]
            exact ⟨_, rfl, rfl, mm⟩
          obtain ⟨D8, e8, g1, g2⟩ := hD
          rw [e8]
          by_cases d5 : xk = 0
          · rw [if_pos d5, if_pos d5]
            dsimp only
            rw [← g2.2.2.1.1]
            exact bits_eq (n := 256) (by rw [g2.2.2.1.1]; exact g2.2.2.1.2) (Nat.le_refl _)
          · rw [if_neg d5, if_neg d5]
            by_cases d6 : xk = 1
            · rw [if_pos d6, if_pos d6]
              dsimp only
              unfold f_X7_tiredInAll
              rw [g1]
              exact tired_eq hw2 (fun q hq => (g2.1 q hq).2.1) 7 0 0 (by omega)
            · rw [if_neg d6, if_neg d6]
              exact g2.2.2.2.2.1.1
