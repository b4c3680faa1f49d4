def sv (n : Nat) : Int32 := nI n - 7
theorem tb_sv : ∀ n : Nat, n < 15 → sv n + 0 = sv n ∧ (n < 14 → sv n + 1 = sv (n + 1)) ∧ (1 ≤ n → sv n + (-1) = sv (n - 1)) ∧ (0 < sv n ↔ 7 < n) ∧ (sv n = 0 ↔ n = 7) := by decide +kernel
theorem cmp_anti (x y : Int32) : (f_J6_compare_7cf53 x y = 0 ∧ f_J6_compare_7cf53 y x = 0) ∨ (f_J6_compare_7cf53 x y = 1 ∧ f_J6_compare_7cf53 y x = -1) ∨ (f_J6_compare_7cf53 x y = -1 ∧ f_J6_compare_7cf53 y x = 1) := by
  unfold f_J6_compare_7cf53
  by_cases e : x = y
  · left
    rw [e, if_pos (Int32.le_refl y), if_pos rfl]; exact ⟨rfl, rfl⟩
  · have e' : ¬ y = x := fun h => e h.symm
    rw [if_neg e, if_neg e']
    rcases Int32.le_total x y with h | h
    · right; right
      have h' : ¬ y ≤ x := fun g => e (Int32.le_antisymm h g)
      rw [if_neg h', if_pos h]; exact ⟨rfl, rfl⟩
    · right; left
      have h' : ¬ x ≤ y := fun g => e (Int32.le_antisymm g h)
      rw [if_pos h, if_neg h']; exact ⟨rfl, rfl⟩
theorem bt_anti (th : Int32) (pts : Nat → Int32) (a b : Int32) : ∀ (k i n : Nat), i + k = 7 → 7 ≤ n + i → n ≤ 7 + i → ∃ m, m < 15 ∧ lp_X0_beats_5 th pts a b k i (sv n) = sv m ∧ lp_X0_beats_5 th pts b a k i (sv (14 - n)) = sv (14 - m) := by
  intro k
  induction k with
  | zero => intro i n hi h1 h2; exact ⟨n, by omega, rfl, rfl⟩
  | succ k ih =>
    intro i n hi h1 h2
    have e : ∀ a b v, lp_X0_beats_5 th pts a b (k + 1) i v = (if f_X7_isThere th (nI i) = 0 then lp_X0_beats_5 th pts a b k (i + 1) v else lp_X0_beats_5 th pts a b k (i + 1) (v + f_J6_compare_7cf53 (f_X8_apart (pts i) b) (f_X8_apart (pts i) a))) := fun _ _ _ => rfl
    rw [e, e]
    by_cases c : f_X7_isThere th (nI i) = 0
    · rw [if_pos c, if_pos c]; exact ih (i + 1) n (by omega) (by omega) (by omega)
    · rw [if_neg c, if_neg c]
      obtain ⟨t1, t2, t3, -⟩ := tb_sv n (by omega)
      obtain ⟨u1, u2, u3, -⟩ := tb_sv (14 - n) (by omega)
      rcases cmp_anti (f_X8_apart (pts i) b) (f_X8_apart (pts i) a) with ⟨z1, z2⟩ | ⟨z1, z2⟩ | ⟨z1, z2⟩
      · rw [z1, z2, t1, u1]; exact ih (i + 1) n (by omega) (by omega) (by omega)
      · rw [z1, z2, t2 (by omega), u3 (by omega), show 14 - n - 1 = 14 - (n + 1) by omega]; exact ih (i + 1) (n + 1) (by omega) (by omega) (by omega)
      · rw [z1, z2, t3 (by omega), u2 (by omega), show 14 - n + 1 = 14 - (n - 1) by omega]; exact ih (i + 1) (n - 1) (by omega) (by omega) (by omega)
theorem bb_tour (th : Int32) (pts : Nat → Int32) : Tour (BB th pts) := by
  intro x y hx hy hne
  obtain ⟨m, hm, e1, e2⟩ := bt_anti th pts (nI x) (nI y) 7 0 7 rfl (by omega) (by omega)
  rw [show sv 7 = 0 by decide] at e1
  rw [show sv (14 - 7) = 0 by decide] at e2
  obtain ⟨-, -, -, p1, p2⟩ := tb_sv m hm
  obtain ⟨-, -, -, q1, q2⟩ := tb_sv (14 - m) (by omega)
  have l1 : (nI y ≤ nI x) ↔ y ≤ x := nI_leI (by omega) (by omega)
  have l2 : (nI x ≤ nI y) ↔ x ≤ y := nI_leI (by omega) (by omega)
  have b1 : ¬ f_X0_beats th pts (nI x) (nI y) = 0 ↔ (7 < m ∨ (m = 7 ∧ x < y)) := by
    unfold f_X0_beats
    rw [e1]
    by_cases c1 : 7 < m
    · rw [if_pos (p1.mpr c1)]; exact ⟨fun _ => Or.inl c1, fun _ => by decide⟩
    · rw [if_neg (fun h => c1 (p1.mp h))]
      by_cases c2 : m = 7
      · rw [if_pos (p2.mpr c2)]
        by_cases c3 : y ≤ x
        · rw [if_pos (l1.mpr c3)]; exact ⟨fun h => absurd rfl h, fun h => by omega⟩
        · rw [if_neg (fun h => c3 (l1.mp h))]; exact ⟨fun _ => Or.inr ⟨c2, by omega⟩, fun _ => by decide⟩
      · rw [if_neg (fun h => c2 (p2.mp h))]; exact ⟨fun h => absurd rfl h, fun h => by omega⟩
  have b2 : ¬ f_X0_beats th pts (nI y) (nI x) = 0 ↔ (7 < 14 - m ∨ (14 - m = 7 ∧ y < x)) := by
    unfold f_X0_beats
    rw [e2]
    by_cases c1 : 7 < 14 - m
    · rw [if_pos (q1.mpr c1)]; exact ⟨fun _ => Or.inl c1, fun _ => by decide⟩
    · rw [if_neg (fun h => c1 (q1.mp h))]
      by_cases c2 : 14 - m = 7
      · rw [if_pos (q2.mpr c2)]
        by_cases c3 : x ≤ y
        · rw [if_pos (l2.mpr c3)]; exact ⟨fun h => absurd rfl h, fun h => by omega⟩
        · rw [if_neg (fun h => c3 (l2.mp h))]; exact ⟨fun _ => Or.inr ⟨c2, by omega⟩, fun _ => by decide⟩
      · rw [if_neg (fun h => c2 (q2.mp h))]; exact ⟨fun h => absurd rfl h, fun h => by omega⟩
  have f1 : BB th pts x y ↔ (7 < m ∨ (m = 7 ∧ x < y)) := ⟨fun h => b1.mp h.2, fun h => ⟨hne, b1.mpr h⟩⟩
  have f2 : BB th pts y x ↔ (7 < 14 - m ∨ (14 - m = 7 ∧ y < x)) := ⟨fun h => b2.mp h.2, fun h => ⟨Ne.symm hne, b2.mpr h⟩⟩
  rw [f1, f2]
  omega
theorem cnt34 {pts bk : Nat → Int32} {th mth : Int32} (h : ∀ q, q < 7 → pts q = bk q ∧ rng (bk q) 8) (e : th = mth) (ht : rng mth 128) {x : Nat} (hx : x < 8) : ∀ (k i a : Nat), i + k = 8 → a < 256 → (∀ j, i ≤ j → a.testBit j = false) →
    lp_X9_can_34 mth bk (nI x) k i (f_X9_bits (nI a)) = f_X9_bits (lp_X0_beatenBy_4 th pts (nI x) k i (nI a)) := by
  intro k
  induction k with
  | zero => intro i a _ _ _; rfl
  | succ k ih =>
    intro i a hi ha hz
    have e1 : lp_X0_beatenBy_4 th pts (nI x) (k + 1) i (nI a) = (if nI i = nI x then lp_X0_beatenBy_4 th pts (nI x) k (i + 1) (f_X8_withBit (nI a) (nI i) 0) else (if f_X0_beats th pts (nI x) (nI i) = 0 then lp_X0_beatenBy_4 th pts (nI x) k (i + 1) (f_X8_withBit (nI a) (nI i) 0) else lp_X0_beatenBy_4 th pts (nI x) k (i + 1) (f_X8_withBit (nI a) (nI i) 1))) := rfl
    have e2 : ∀ v, lp_X9_can_34 mth bk (nI x) (k + 1) i v = (if nI i = nI x then lp_X9_can_34 mth bk (nI x) k (i + 1) (v + 0) else (if f_X9_winnerOf mth bk (nI x) (nI i) = nI x then lp_X9_can_34 mth bk (nI x) k (i + 1) (v + 1) else lp_X9_can_34 mth bk (nI x) k (i + 1) (v + 0))) := fun _ => rfl
    have hz' := hz i (Nat.le_refl _)
    have hno := ih (i + 1) a (by omega) ha (fun j hj => hz j (by omega))
    rw [e1, e2, tb_w0 a ha i (by omega) hz', Int32.add_zero, win_eq h e ht (rng_nI hx) (rng_nI (show i < 8 by omega))]
    by_cases c1 : nI i = nI x
    · rw [if_pos c1, if_pos c1]; exact hno
    · rw [if_neg c1, if_neg c1]
      by_cases c2 : f_X0_beats th pts (nI x) (nI i) = 0
      · rw [if_pos c2, if_pos c2, if_neg c1]; exact hno
      · rw [if_neg c2, if_neg c2, if_pos rfl]
        have t := tb_cnt a ha i (by omega)
        rw [if_pos ((tb_hs a ha i (by omega)).1.mpr hz')] at t
        rw [← t, wb1, (tb_bit i (by omega)).1, nI_or]
        refine ih (i + 1) (a ||| 2 ^ i) (by omega) (or_256 ha (tb_bit i (by omega)).2.1) (fun j hj => bit_no (fun h => ?_))
        rcases (or_bit _ _ _).mp h with h | h
        · rw [hz j (by omega)] at h; exact absurd h (by decide)
        · have := (pow_bit _ _).mp h; omega
theorem tb_clr2 : ∀ m : Nat, m < 256 → ∀ l : Nat, l < 8 → nI m &&& (((1 : Int32) <<< (nI l &&& 31)) ^^^ (-1 : Int32)) = nI (clr m l) := by decide +kernel
theorem tb_one : ∀ m : Nat, m < 256 → ∀ j : Nat, j < 8 → m.testBit j = true → (f_X9_bits (nI m) = 1 ↔ clr m j = 0) := by decide +kernel
def Win (R : Nat → Nat → Prop) (mth : Int32) (bk : Nat → Int32) : Prop := ∀ x l, x < 8 → l < 8 → x ≠ l → (R x l ∧ f_X9_winnerOf mth bk (nI x) (nI l) = nI x) ∨ (¬ R x l ∧ f_X9_winnerOf mth bk (nI x) (nI l) = nI l)
theorem c125 {R : Nat → Nat → Prop} {mth : Int32} {bk : Nat → Int32} (W : Win R mth bk) {m l c : Nat} (hm : m < 256) (hl : l < 8) (hml : m.testBit l = true) (hc : c = clr m l) {b : Nat} (hb : b < 256) : ∀ (k i : Nat) (r : Nat → Int32) (a : Nat), i + k = 8 → r m = nI a → a < 256 → (c ≠ 0 → r c = nI b) →
    ∃ a', a' < 256 ∧ lp_X9_can_125 mth bk m l (nI c) k i r m = nI a' ∧ (∀ q, q ≠ m → lp_X9_can_125 mth bk m l (nI c) k i r q = r q) ∧ ∀ j, a'.testBit j = true ↔ (a.testBit j = true ∨ ∃ x, i ≤ x ∧ c.testBit x = true ∧ b.testBit x = true ∧ ((R x l ∧ j = x) ∨ (¬ R x l ∧ j = l))) := by
  have hcm : c < m := by rw [hc]; exact tb_clr1 m hm l hl hml
  intro k
  induction k with
  | zero =>
    intro i r a hi ha ha8 hr
    refine ⟨a, ha8, ha, fun q _ => rfl, fun j => ⟨Or.inl, fun h => ?_⟩⟩
    rcases h with h | ⟨x, x1, x2, -⟩
    · exact h
    · have := lt8 (by omega) x2; omega
  | succ k ih =>
    intro i r a hi ha ha8 hr
    have e : lp_X9_can_125 mth bk m l (nI c) (k + 1) i r = (if f_X9_has (nI m) (nI l) = 0 then r else (if f_X9_has (nI c) (nI i) = 0 then lp_X9_can_125 mth bk m l (nI c) k (i + 1) (upd r m (r m ||| 0)) else (if f_X9_has (r (nI c).toNatClampNeg) (nI i) = 0 then lp_X9_can_125 mth bk m l (nI c) k (i + 1) (upd r m (r m ||| 0)) else lp_X9_can_125 mth bk m l (nI c) k (i + 1) (upd r m (r m ||| ((1 : Int32) <<< (f_X9_winnerOf mth bk (nI i) (nI l) &&& 31)))))) ) := rfl
    have hmm : ¬ f_X9_has (nI m) (nI l) = 0 := fun h => by
      rw [(tb_hs m hm l hl).1.mp h] at hml; exact absurd hml (by decide)
    have next : ∀ a1, a1 < 256 → ∃ a', a' < 256 ∧ lp_X9_can_125 mth bk m l (nI c) k (i + 1) (upd r m (nI a1)) m = nI a' ∧ (∀ q, q ≠ m → lp_X9_can_125 mth bk m l (nI c) k (i + 1) (upd r m (nI a1)) q = r q) ∧ ∀ j, a'.testBit j = true ↔ (a1.testBit j = true ∨ ∃ x, i + 1 ≤ x ∧ c.testBit x = true ∧ b.testBit x = true ∧ ((R x l ∧ j = x) ∨ (¬ R x l ∧ j = l))) := fun a1 h1 => by
      obtain ⟨a', g1, g2, g3, g4⟩ := ih (i + 1) (upd r m (nI a1)) a1 (by omega) (upd_eq _ _ _) h1 (fun h0 => by rw [upd_ne _ _ (by omega)]; exact hr h0)
      exact ⟨a', g1, g2, fun q hq => by rw [g3 q hq, upd_ne _ _ hq], g4⟩
    have same : (¬ (c.testBit i = true ∧ b.testBit i = true)) → ∃ a', a' < 256 ∧ lp_X9_can_125 mth bk m l (nI c) k (i + 1) (upd r m (nI a)) m = nI a' ∧ (∀ q, q ≠ m → lp_X9_can_125 mth bk m l (nI c) k (i + 1) (upd r m (nI a)) q = r q) ∧ ∀ j, a'.testBit j = true ↔ (a.testBit j = true ∨ ∃ x, i ≤ x ∧ c.testBit x = true ∧ b.testBit x = true ∧ ((R x l ∧ j = x) ∨ (¬ R x l ∧ j = l))) := fun hno => by
      obtain ⟨a', g1, g2, g3, g4⟩ := next a ha8
      refine ⟨a', g1, g2, g3, fun j => ?_⟩
      rw [g4]
      constructor
      · rintro (h | ⟨x, x1, x2, x3, x4⟩)
        · exact Or.inl h
        · exact Or.inr ⟨x, by omega, x2, x3, x4⟩
      · rintro (h | ⟨x, x1, x2, x3, x4⟩)
        · exact Or.inl h
        · by_cases d : x = i
          · rw [d] at x2 x3; exact absurd ⟨x2, x3⟩ hno
          · exact Or.inr ⟨x, by omega, x2, x3, x4⟩
    rw [e, if_neg hmm, or0, ha, nI_clamp (show c < 2 ^ 31 by omega)]
    by_cases c1 : f_X9_has (nI c) (nI i) = 0
    · rw [if_pos c1]
      have c1' := (tb_hs c (by omega) i (by omega)).1.mp c1
      exact same (fun h => by rw [c1'] at h; exact absurd h.1 (by decide))
    · rw [if_neg c1]
      have c1' : c.testBit i = true := Classical.byContradiction fun h => c1 ((tb_hs c (by omega) i (by omega)).1.mpr (bit_no h))
      have c0 : c ≠ 0 := fun h => by rw [h, Nat.zero_testBit] at c1'; exact absurd c1' (by decide)
      rw [hr c0]
      by_cases c2 : f_X9_has (nI b) (nI i) = 0
      · rw [if_pos c2]
        have c2' := (tb_hs b hb i (by omega)).1.mp c2
        exact same (fun h => by rw [c2'] at h; exact absurd h.2 (by decide))
      · rw [if_neg c2]
        have c2' : b.testBit i = true := Classical.byContradiction fun h => c2 ((tb_hs b hb i (by omega)).1.mpr (bit_no h))
        have hil : i ≠ l := by
          have := (clr_bit hm hl).mp (show (clr m l).testBit i = true by rw [← hc]; exact c1')
          exact this.2
        have fin : ∀ w, w < 8 → f_X9_winnerOf mth bk (nI i) (nI l) = nI w → ((R i l ∧ w = i) ∨ (¬ R i l ∧ w = l)) → ∃ a', a' < 256 ∧ lp_X9_can_125 mth bk m l (nI c) k (i + 1) (upd r m (nI a ||| ((1 : Int32) <<< (f_X9_winnerOf mth bk (nI i) (nI l) &&& 31)))) m = nI a' ∧ (∀ q, q ≠ m → lp_X9_can_125 mth bk m l (nI c) k (i + 1) (upd r m (nI a ||| ((1 : Int32) <<< (f_X9_winnerOf mth bk (nI i) (nI l) &&& 31)))) q = r q) ∧ ∀ j, a'.testBit j = true ↔ (a.testBit j = true ∨ ∃ x, i ≤ x ∧ c.testBit x = true ∧ b.testBit x = true ∧ ((R x l ∧ j = x) ∨ (¬ R x l ∧ j = l))) := fun w hw ew hR => by
          rw [ew, (tb_bit w hw).1, nI_or]
          obtain ⟨a', g1, g2, g3, g4⟩ := next (a ||| 2 ^ w) (or_256 ha8 (tb_bit w hw).2.1)
          refine ⟨a', g1, g2, g3, fun j => ?_⟩
          rw [g4, or_bit, pow_bit]
          constructor
          · rintro ((h | h) | ⟨x, x1, x2, x3, x4⟩)
            · exact Or.inl h
            · refine Or.inr ⟨i, Nat.le_refl _, c1', c2', ?_⟩
              rw [← h]
              exact hR
            · exact Or.inr ⟨x, by omega, x2, x3, x4⟩
          · rintro (h | ⟨x, x1, x2, x3, x4⟩)
            · exact Or.inl (Or.inl h)
            · by_cases d : x = i
              · rw [d] at x4
                left; right
                rcases hR with ⟨y1, y2⟩ | ⟨y1, y2⟩
                · rcases x4 with ⟨z1, z2⟩ | ⟨z1, z2⟩
                  · rw [y2, z2]
                  · exact absurd y1 z1
                · rcases x4 with ⟨z1, z2⟩ | ⟨z1, z2⟩
                  · exact absurd z1 y1
                  · rw [y2, z2]
              · exact Or.inr ⟨x, by omega, x2, x3, x4⟩
        rcases W i l (by omega) hl hil with ⟨w1, w2⟩ | ⟨w1, w2⟩
        · exact fin i (by omega) w2 (Or.inl ⟨w1, rfl⟩)
        · exact fin l hl w2 (Or.inr ⟨w1, rfl⟩)
def Good (R : Nat → Nat → Prop) (r : Nat → Int32) (n : Nat) : Prop := ∀ c, c < n → c ≠ 0 → ∃ b, b < 256 ∧ r c = nI b ∧ ∀ j, b.testBit j = true ↔ LL R c j
theorem c105 {R : Nat → Nat → Prop} {mth : Int32} {bk : Nat → Int32} (W : Win R mth bk) {m : Nat} (hm : m < 256) : ∀ (k i : Nat) (r : Nat → Int32) (a : Nat), i + k = 8 → r m = nI a → a < 256 → Good R r m →
    ∃ a', a' < 256 ∧ lp_X9_can_105 mth bk m k i r m = nI a' ∧ (∀ q, q ≠ m → lp_X9_can_105 mth bk m k i r q = r q) ∧ ∀ j, a'.testBit j = true ↔ (a.testBit j = true ∨ ∃ l x, i ≤ l ∧ m.testBit l = true ∧ LL R (clr m l) x ∧ ((R x l ∧ j = x) ∨ (¬ R x l ∧ j = l))) := by
  intro k
  induction k with
  | zero =>
    intro i r a hi ha ha8 hg
    refine ⟨a, ha8, ha, fun q _ => rfl, fun j => ⟨Or.inl, fun h => ?_⟩⟩
    rcases h with h | ⟨l, x, x1, x2, -⟩
    · exact h
    · have := lt8 hm x2; omega
  | succ k ih =>
    intro i r a hi ha ha8 hg
    have e : lp_X9_can_105 mth bk m (k + 1) i r = lp_X9_can_105 mth bk m k (i + 1) (lp_X9_can_125 mth bk m i (nI m &&& (((1 : Int32) <<< (nI i &&& 31)) ^^^ (-1 : Int32))) 8 0 r) := rfl
    rw [e, tb_clr2 m hm i (by omega)]
    by_cases c : m.testBit i = true
    · have hlt := tb_clr1 m hm i (by omega) c
      have hb : ∃ b, b < 256 ∧ (clr m i ≠ 0 → r (clr m i) = nI b) ∧ ∀ x, ((clr m i).testBit x = true ∧ b.testBit x = true) ↔ LL R (clr m i) x := by
        by_cases c0 : clr m i = 0
        · refine ⟨0, by decide, fun h => absurd c0 h, fun x => ?_⟩
          rw [c0]
          exact ⟨fun h => by rw [Nat.zero_testBit] at h; exact absurd h.1 (by decide), fun h => by have := h.1; rw [Nat.zero_testBit] at this; exact absurd this (by decide)⟩
        · obtain ⟨b, b1, b2, b3⟩ := hg (clr m i) hlt c0
          exact ⟨b, b1, fun _ => b2, fun x => ⟨fun h => (b3 x).mp h.2, fun h => ⟨h.1, (b3 x).mpr h⟩⟩⟩
      obtain ⟨b, b1, b2, b3⟩ := hb
      obtain ⟨a1, g1, g2, g3, g4⟩ := c125 W hm (show i < 8 by omega) c rfl b1 8 0 r a rfl ha ha8 b2
      obtain ⟨a', f1, f2, f3, f4⟩ := ih (i + 1) _ a1 (by omega) g2 g1 (fun q hq h0 => by rw [g3 q (by omega)]; exact hg q hq h0)
      refine ⟨a', f1, f2, fun q hq => by rw [f3 q hq, g3 q hq], fun j => ?_⟩
      rw [f4, g4]
      constructor
      · rintro ((h | ⟨x, x1, x2, x3, x4⟩) | ⟨l, x, x1, x2, x3, x4⟩)
        · exact Or.inl h
        · exact Or.inr ⟨i, x, Nat.le_refl _, c, (b3 x).mp ⟨x2, x3⟩, x4⟩
        · exact Or.inr ⟨l, x, by omega, x2, x3, x4⟩
      · rintro (h | ⟨l, x, x1, x2, x3, x4⟩)
        · exact Or.inl (Or.inl h)
        · by_cases d : l = i
          · rw [d] at x3 x4
            obtain ⟨y1, y2⟩ := (b3 x).mpr x3
            exact Or.inl (Or.inr ⟨x, Nat.zero_le _, y1, y2, x4⟩)
          · exact Or.inr ⟨l, x, by omega, x2, x3, x4⟩
    · have e2 : lp_X9_can_125 mth bk m i (nI (clr m i)) 8 0 r = r := by
        show (if f_X9_has (nI m) (nI i) = 0 then r else _) = r
        rw [if_pos ((tb_hs m hm i (by omega)).1.mpr (bit_no c))]
      rw [e2]
      obtain ⟨a', f1, f2, f3, f4⟩ := ih (i + 1) r a (by omega) ha ha8 hg
      refine ⟨a', f1, f2, f3, fun j => ?_⟩
      rw [f4]
      constructor
      · rintro (h | ⟨l, x, x1, x2, x3, x4⟩)
        · exact Or.inl h
        · exact Or.inr ⟨l, x, by omega, x2, x3, x4⟩
      · rintro (h | ⟨l, x, x1, x2, x3, x4⟩)
        · exact Or.inl h
        · by_cases d : l = i
          · rw [d] at x2; exact absurd x2 c
          · exact Or.inr ⟨l, x, by omega, x2, x3, x4⟩
theorem c76 {R : Nat → Nat → Prop} {mth : Int32} {bk : Nat → Int32} (W : Win R mth bk) (hT : Tour R) : ∀ (k i : Nat) (r : Nat → Int32), i + k = 256 → 1 ≤ i → Good R r i → Good R (lp_X9_can_76 mth bk k i r) 256 := by
  intro k
  induction k with
  | zero => intro i r hi _ h; have : i = 256 := by omega
            rw [this] at h; exact h
  | succ k ih =>
    intro i r hi h1 hg
    have e : lp_X9_can_76 mth bk (k + 1) i r = (if f_X9_bits (nI i) = 1 then lp_X9_can_76 mth bk k (i + 1) (lp_X9_can_105 mth bk i 8 0 (upd r i (nI i))) else lp_X9_can_76 mth bk k (i + 1) (lp_X9_can_105 mth bk i 8 0 (upd r i 0))) := rfl
    have step : ∀ a, a < 256 → (∀ j, a.testBit j = true ↔ (clr i j = 0 ∧ i.testBit j = true)) → Good R (lp_X9_can_105 mth bk i 8 0 (upd r i (nI a))) (i + 1) := fun a ha hs => by
      obtain ⟨a', f1, f2, f3, f4⟩ := c105 W (show i < 256 by omega) 8 0 (upd r i (nI a)) a rfl (upd_eq _ _ _) ha (fun q hq h0 => by rw [upd_ne _ _ (by omega)]; exact hg q hq h0)
      intro q hq h0
      by_cases d : q = i
      · rw [d]
        refine ⟨a', f1, f2, fun j => ?_⟩
        rw [f4, ll_step hT (show i < 256 by omega), hs]
        constructor
        · rintro (h | ⟨l, x, x1, x2, x3, x4⟩)
          · exact Or.inl h
          · exact Or.inr ⟨l, x, x2, x3, x4⟩
        · rintro (h | ⟨l, x, x2, x3, x4⟩)
          · exact Or.inl h
          · exact Or.inr ⟨l, x, Nat.zero_le _, x2, x3, x4⟩
      · rw [f3 q d, upd_ne _ _ d]
        exact hg q (by omega) h0
    rw [e]
    by_cases c : f_X9_bits (nI i) = 1
    · rw [if_pos c]
      refine ih (i + 1) _ (by omega) (by omega) (step i (by omega) (fun j => ⟨fun h => ⟨(tb_one i (by omega) j (lt8 (by omega) h) h).mp c, h⟩, fun h => h.2⟩))
    · rw [if_neg c]
      refine ih (i + 1) _ (by omega) (by omega) (step 0 (by decide) (fun j => ⟨fun h => ?_, fun h => ?_⟩))
      · rw [Nat.zero_testBit] at h; exact absurd h (by decide)
      · exact absurd ((tb_one i (by omega) j (lt8 (by omega) h.2) h.2).mpr h.1) c
theorem tb_sh : ∀ a : Nat, a < 256 → ∀ t : Nat, t < 8 → (nI a >>> (nI t &&& 31)) &&& (1 : Int32) = (if a.testBit t = true then 1 else 0) := by decide +kernel
theorem can_eq {pts bk : Nat → Int32} {th mth : Int32} (h : ∀ q, q < 7 → pts q = bk q ∧ rng (bk q) 8) (e : th = mth) (ht : rng mth 128) (bt lf : Nat → Int32) (xt xk : Int32) : (f_X8_can th pts bt xt xk).1 = (f_X9_can mth bk lf xt xk).1 := by
  unfold f_X8_can f_X9_can
  rw [way_in, upto_in]
  by_cases c1 : f_X9_in xt 0 7 = 0
  · rw [if_pos c1, if_pos c1]
  · rw [if_neg c1, if_neg c1]
    obtain ⟨t, ht', rfl⟩ := in_of (n := 7) (by decide) c1
    have ht8 : t < 8 := by omega
    by_cases c2 : f_X9_in xk 0 1 = 0
    · rw [if_pos c2, if_pos c2]
    · rw [if_neg c2, if_neg c2]
      by_cases c3 : xk = 1
      · rw [if_pos c3, if_pos c3]
        obtain ⟨b, b1, b2, -⟩ := bb_all th pts ht8
        show f_J6_bitCount_0f7a4 (f_X0_beatenBy th pts (nI t)) = lp_X9_can_34 mth bk (nI t) 8 0 0
        have e0 : (0 : Int32) = f_X9_bits (nI 0) := by decide
        rw [e0, cnt34 h e ht ht8 8 0 0 rfl (by decide) (fun j _ => Nat.zero_testBit j)]
        show _ = f_X9_bits (f_X0_beatenBy th pts (nI t))
        rw [b2]; exact tb_bits b b1
      · rw [if_neg c3, if_neg c3]
        have hT := bb_tour th pts
        have W : Win (BB th pts) mth bk := fun x l hx hl hxl => by
          rw [win_eq h e ht (rng_nI hx) (rng_nI hl)]
          by_cases d : f_X0_beats th pts (nI x) (nI l) = 0
          · rw [if_pos d]; exact Or.inr ⟨fun hb => hb.2 d, rfl⟩
          · rw [if_neg d]; exact Or.inl ⟨⟨hxl, d⟩, rfl⟩
        obtain ⟨b, b1, b2, b3⟩ := c76 W hT 255 1 lf rfl (Nat.le_refl _) (fun q hq h0 => absurd hq (by omega)) 255 (by decide) (by decide)
        have hZ : ZB (lp_X0_canBeLeft_2 th pts 8 0 bt) (BB th pts) := fun q hq => by
          rw [cb2_at, if_pos (by omega)]; exact bb_all th pts hq
        have hl := left_iff hZ ht8
        have hr := b3 t
        have hb : b.testBit t = true ↔ ARch (BB th pts) 255 t := ⟨fun hh => (hr.mp hh).2, fun hh => hr.mpr ⟨(tb_pc t ht8).2, hh⟩⟩
        dsimp only
        rw [b2, tb_sh b b1 t ht8]
        unfold f_X0_canBeLeft
        by_cases d : ARch (BB th pts) 255 t
        · rw [if_pos (hl.mpr d), if_pos (hb.mpr d)]; rfl
        · rw [if_neg (fun hh => d (hl.mp hh)), if_neg (fun hh => d (hb.mp hh))]; rfl
