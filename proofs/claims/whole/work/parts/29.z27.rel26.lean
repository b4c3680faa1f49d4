theorem nI_or (a b : Nat) : nI a ||| nI b = nI (a ||| b) := by
  apply Int32.toBitVec_inj.mp
  rw [Int32.toBitVec_or]
  exact (BitVec.ofNat_or (x := a) (y := b)).symm
theorem tb_bit : ∀ i : Nat, i < 8 → (1 : Int32) <<< (nI i &&& 31) = nI (2 ^ i) ∧ 2 ^ i < 256 ∧ f_X8_withBit 0 (nI i) 1 = nI (2 ^ i) := by decide +kernel
theorem or_256 {a b : Nat} (ha : a < 256) (hb : b < 256) : a ||| b < 256 := Nat.or_lt_two_pow (n := 8) ha hb
theorem or_bit (a b j : Nat) : (a ||| b).testBit j = true ↔ (a.testBit j = true ∨ b.testBit j = true) := by
  rw [Nat.testBit_or, Bool.or_eq_true]
theorem pow_bit (i j : Nat) : (2 ^ i).testBit j = true ↔ i = j := by
  rw [Nat.testBit_two_pow, decide_eq_true_iff]
theorem tb_hs : ∀ a : Nat, a < 256 → ∀ j : Nat, j < 8 → (f_X9_has (nI a) (nI j) = 0 ↔ a.testBit j = false) ∧ (f_X8_hasBit (nI a) (nI j) = 0 ↔ a.testBit j = false) := by decide +kernel
theorem tb_w0 : ∀ a : Nat, a < 256 → ∀ j : Nat, j < 8 → a.testBit j = false → f_X8_withBit (nI a) (nI j) 0 = nI a := by decide +kernel
def BB (th : Int32) (pts : Nat → Int32) (x y : Nat) : Prop := x ≠ y ∧ ¬ f_X0_beats th pts (nI x) (nI y) = 0
theorem bit_no {b : Bool} (h : ¬ b = true) : b = false := by cases b <;> simp_all
theorem bb_loop (th : Int32) (pts : Nat → Int32) {x : Nat} (hx : x < 8) : ∀ (k i a : Nat), i + k = 8 → a < 256 → (∀ j, i ≤ j → a.testBit j = false) →
    ∃ a', a' < 256 ∧ lp_X0_beatenBy_4 th pts (nI x) k i (nI a) = nI a' ∧ ∀ j, a'.testBit j = true ↔ (a.testBit j = true ∨ (i ≤ j ∧ j < 8 ∧ BB th pts x j)) := by
  intro k
  induction k with
  | zero => intro i a hi ha hz; exact ⟨a, ha, rfl, fun j => ⟨Or.inl, fun h => by rcases h with h | h; exact h; omega⟩⟩
  | succ k ih =>
    intro i a hi ha hz
    have e : lp_X0_beatenBy_4 th pts (nI x) (k + 1) i (nI a) = (if nI i = nI x then lp_X0_beatenBy_4 th pts (nI x) k (i + 1) (f_X8_withBit (nI a) (nI i) 0) else (if f_X0_beats th pts (nI x) (nI i) = 0 then lp_X0_beatenBy_4 th pts (nI x) k (i + 1) (f_X8_withBit (nI a) (nI i) 0) else lp_X0_beatenBy_4 th pts (nI x) k (i + 1) (f_X8_withBit (nI a) (nI i) 1))) := rfl
    have no : ¬ BB th pts x i → ∃ a', a' < 256 ∧ lp_X0_beatenBy_4 th pts (nI x) k (i + 1) (f_X8_withBit (nI a) (nI i) 0) = nI a' ∧ ∀ j, a'.testBit j = true ↔ (a.testBit j = true ∨ (i ≤ j ∧ j < 8 ∧ BB th pts x j)) := fun hb => by
      rw [tb_w0 a ha i (by omega) (hz i (Nat.le_refl _))]
      obtain ⟨a', h1, h2, h3⟩ := ih (i + 1) a (by omega) ha (fun j hj => hz j (by omega))
      refine ⟨a', h1, h2, fun j => ?_⟩
      rw [h3]
      constructor
      · rintro (h | ⟨p, q, r⟩)
        · exact Or.inl h
        · exact Or.inr ⟨by omega, q, r⟩
      · rintro (h | ⟨p, q, r⟩)
        · exact Or.inl h
        · by_cases d : j = i
          · rw [d] at r; exact absurd r hb
          · exact Or.inr ⟨by omega, q, r⟩
    rw [e]
    by_cases c1 : nI i = nI x
    · rw [if_pos c1]
      have c1' : i = x := (nI_eq (by omega) (by omega)).mp c1
      exact no (fun h => h.1 c1'.symm)
    · rw [if_neg c1]
      by_cases c2 : f_X0_beats th pts (nI x) (nI i) = 0
      · rw [if_pos c2]
        exact no (fun h => h.2 c2)
      · rw [if_neg c2, wb1, (tb_bit i (by omega)).1, nI_or]
        have hbb : BB th pts x i := ⟨fun h => c1 (by rw [h]), c2⟩
        obtain ⟨a', h1, h2, h3⟩ := ih (i + 1) (a ||| 2 ^ i) (by omega) (or_256 ha (tb_bit i (by omega)).2.1) (fun j hj => bit_no (fun h => by
          rcases (or_bit _ _ _).mp h with h | h
          · rw [hz j (by omega)] at h; exact absurd h (by decide)
          · have := (pow_bit _ _).mp h; omega))
        refine ⟨a', h1, h2, fun j => ?_⟩
        rw [h3, or_bit, pow_bit]
        constructor
        · rintro ((h | h) | ⟨p, q, r⟩)
          · exact Or.inl h
          · exact Or.inr ⟨by omega, by omega, by rw [← h]; exact hbb⟩
          · exact Or.inr ⟨by omega, q, r⟩
        · rintro (h | ⟨p, q, r⟩)
          · exact Or.inl (Or.inl h)
          · by_cases d : i = j
            · exact Or.inl (Or.inr d)
            · exact Or.inr ⟨by omega, q, r⟩
theorem bb_all (th : Int32) (pts : Nat → Int32) {x : Nat} (hx : x < 8) : ∃ b, b < 256 ∧ f_X0_beatenBy th pts (nI x) = nI b ∧ ∀ j, b.testBit j = true ↔ (j < 8 ∧ BB th pts x j) := by
  obtain ⟨a, h1, h2, h3⟩ := bb_loop th pts hx 8 0 0 rfl (by decide) (fun j _ => Nat.zero_testBit j)
  refine ⟨a, h1, h2, fun j => ?_⟩
  rw [h3, Nat.zero_testBit]
  constructor
  · rintro (h | h)
    · exact absurd h (by decide)
    · exact h.2
  · intro h; exact Or.inr ⟨Nat.zero_le _, h⟩
theorem cb2_at (th : Int32) (pts : Nat → Int32) : ∀ (k i : Nat) (r : Nat → Int32) (q : Nat), lp_X0_canBeLeft_2 th pts k i r q = if i ≤ q ∧ q < i + k then f_X0_beatenBy th pts (nI q) else r q
  | 0, i, r, q => by rw [if_neg (by omega)]; rfl
  | k + 1, i, r, q => by
    show lp_X0_canBeLeft_2 th pts k (i + 1) (upd r i (f_X0_beatenBy th pts (nI i))) q = _
    rw [cb2_at th pts k (i + 1)]
    by_cases c : q = i
    · subst c; rw [if_neg (by omega), if_pos (by omega), upd_eq]
    · rw [upd_ne _ _ c]
      by_cases c2 : i + 1 ≤ q ∧ q < i + 1 + k
      · rw [if_pos c2, if_pos (by omega)]
      · rw [if_neg c2, if_neg (by omega)]
def ZB (z : Nat → Int32) (R : Nat → Nat → Prop) : Prop := ∀ q, q < 8 → ∃ b, b < 256 ∧ z q = nI b ∧ ∀ j, b.testBit j = true ↔ (j < 8 ∧ R q j)
def Snd (R : Nat → Nat → Prop) (a a' : Nat) : Prop := ∀ C : Nat → Prop, (∀ u v, u < 8 → v < 8 → C u → R u v → C v) → (∀ j, a.testBit j = true → C j) → ∀ j, a'.testBit j = true → C j
theorem cl45 {z : Nat → Int32} {R : Nat → Nat → Prop} (hZ : ZB z R) : ∀ (k i a : Nat), i + k = 8 → a < 256 →
    ∃ a', a' < 256 ∧ lp_X0_canBeLeft_45 z k i (nI a) = nI a' ∧ (∀ j, a.testBit j = true → a'.testBit j = true) ∧ (∀ q, i ≤ q → q < 8 → a.testBit q = true → ∀ j, j < 8 → R q j → a'.testBit j = true) ∧ Snd R a a' := by
  intro k
  induction k with
  | zero => intro i a hi ha; exact ⟨a, ha, rfl, fun j h => h, fun q h1 h2 => absurd h1 (by omega), fun C _ h => h⟩
  | succ k ih =>
    intro i a hi ha
    have e : lp_X0_canBeLeft_45 z (k + 1) i (nI a) = (if f_X8_hasBit (nI a) (nI i) = 0 then lp_X0_canBeLeft_45 z k (i + 1) (nI a ||| 0) else lp_X0_canBeLeft_45 z k (i + 1) (nI a ||| z i)) := rfl
    have t := (tb_hs a ha i (by omega)).2
    rw [e, or0]
    by_cases c : f_X8_hasBit (nI a) (nI i) = 0
    · rw [if_pos c]
      obtain ⟨a', h1, h2, h3, h4, h5⟩ := ih (i + 1) a (by omega) ha
      refine ⟨a', h1, h2, h3, fun q q1 q2 q3 => ?_, h5⟩
      by_cases d : q = i
      · rw [d, t.mp c] at q3; exact absurd q3 (by decide)
      · exact h4 q (by omega) q2 q3
    · rw [if_neg c]
      obtain ⟨b, b1, b2, b3⟩ := hZ i (by omega)
      rw [b2, nI_or]
      obtain ⟨a', h1, h2, h3, h4, h5⟩ := ih (i + 1) (a ||| b) (by omega) (or_256 ha b1)
      have hai : a.testBit i = true := by
        refine Classical.byContradiction fun hn => c (t.mpr (bit_no hn))
      refine ⟨a', h1, h2, fun j hj => h3 j ((or_bit _ _ _).mpr (Or.inl hj)), fun q q1 q2 q3 j j1 j2 => ?_, fun C hC hs => ?_⟩
      · by_cases d : q = i
        · rw [d] at j2
          exact h3 j ((or_bit _ _ _).mpr (Or.inr ((b3 j).mpr ⟨j1, j2⟩)))
        · exact h4 q (by omega) q2 ((or_bit _ _ _).mpr (Or.inl q3)) j j1 j2
      · refine h5 C hC (fun j hj => ?_)
        rcases (or_bit _ _ _).mp hj with h | h
        · exact hs j h
        · obtain ⟨j8, jr⟩ := (b3 j).mp h
          exact hC i j (by omega) j8 (hs i hai) jr
def pb (a j : Nat) : Nat := if a.testBit j = true then 1 else 0
def pcn (a : Nat) : Nat := pb a 0 + pb a 1 + pb a 2 + pb a 3 + pb a 4 + pb a 5 + pb a 6 + pb a 7
theorem pb_le (a j : Nat) : pb a j ≤ 1 := by unfold pb; split <;> omega
theorem pcn_le (a : Nat) : pcn a ≤ 8 := by
  have h := pb_le a
  have h0 := h 0
  have h1 := h 1
  have h2 := h 2
  have h3 := h 3
  have h4 := h 4
  have h5 := h 5
  have h6 := h 6
  have h7 := h 7
  unfold pcn
  omega
theorem pcn_lt {a a' : Nat} (ha : a < 256) (ha' : a' < 256) (hs : ∀ j, a.testBit j = true → a'.testBit j = true) (hne : a ≠ a') : pcn a < pcn a' := by
  obtain ⟨j, hj⟩ := Nat.exists_testBit_ne_of_ne hne
  have hj1 : a.testBit j = false := bit_no (fun h => hj (by rw [h, hs j h]))
  have hj2 : a'.testBit j = true := by
    refine Classical.byContradiction fun h => hj ?_
    rw [hj1, bit_no h]
  have j8 := lt8 ha' hj2
  have mono : ∀ i, pb a i ≤ pb a' i := fun i => by
    unfold pb
    by_cases c : a.testBit i = true
    · rw [if_pos c, if_pos (hs i c)]; exact Nat.le_refl _
    · rw [if_neg c]; exact Nat.zero_le _
  have s1 : pb a j = 0 := by unfold pb; rw [hj1]; rfl
  have s2 : pb a' j = 1 := by unfold pb; rw [hj2]; rfl
  have h0 := mono 0
  have h1 := mono 1
  have h2 := mono 2
  have h3 := mono 3
  have h4 := mono 4
  have h5 := mono 5
  have h6 := mono 6
  have h7 := mono 7
  have hc : j = 0 ∨ j = 1 ∨ j = 2 ∨ j = 3 ∨ j = 4 ∨ j = 5 ∨ j = 6 ∨ j = 7 := by omega
  unfold pcn
  rcases hc with rfl | rfl | rfl | rfl | rfl | rfl | rfl | rfl <;> omega
theorem cl_stay {z : Nat → Int32} {v : Int32} (h : lp_X0_canBeLeft_45 z 8 0 v = v) : ∀ (k i : Nat), lp_X0_canBeLeft_35 z k i v = v := by
  intro k
  induction k with
  | zero => intro i; rfl
  | succ k ih =>
    intro i
    show lp_X0_canBeLeft_35 z k (i + 1) (lp_X0_canBeLeft_45 z 8 0 v) = v
    rw [h]; exact ih (i + 1)
theorem cl35 {z : Nat → Int32} {R : Nat → Nat → Prop} (hZ : ZB z R) : ∀ (k i a : Nat), a < 256 → 9 ≤ pcn a + k →
    ∃ a', a' < 256 ∧ lp_X0_canBeLeft_35 z k i (nI a) = nI a' ∧ (∀ j, a.testBit j = true → a'.testBit j = true) ∧ (∀ q, q < 8 → a'.testBit q = true → ∀ j, j < 8 → R q j → a'.testBit j = true) ∧ Snd R a a' := by
  intro k
  induction k with
  | zero => intro i a ha h; have := pcn_le a; omega
  | succ k ih =>
    intro i a ha h
    obtain ⟨a1, h1, h2, h3, h4, h5⟩ := cl45 hZ 8 0 a rfl ha
    by_cases c : a = a1
    · rw [← c] at h2 h4
      refine ⟨a, ha, cl_stay h2 (k + 1) i, fun j h => h, fun q q1 q2 => h4 q (Nat.zero_le _) q1 q2, fun C _ h => h⟩
    · have hl := pcn_lt ha h1 h3 c
      obtain ⟨a', g1, g2, g3, g4, g5⟩ := ih (i + 1) a1 h1 (by omega)
      refine ⟨a', g1, ?_, fun j hj => g3 j (h3 j hj), g4, fun C hC hs => g5 C hC (h5 C hC hs)⟩
      show lp_X0_canBeLeft_35 z k (i + 1) (lp_X0_canBeLeft_45 z 8 0 (nI a)) = nI a'
      rw [h2]; exact g2
theorem tb_pc : ∀ t : Nat, t < 8 → pcn (2 ^ t) = 1 ∧ Nat.testBit 255 t = true := by decide +kernel
theorem left_iff {z : Nat → Int32} {R : Nat → Nat → Prop} (hZ : ZB z R) {t : Nat} (ht : t < 8) : lp_X0_canBeLeft_35 z 8 0 (f_X8_withBit 0 (nI t) 1) = 255 ↔ ARch R 255 t := by
  rw [(tb_bit t ht).2.2]
  obtain ⟨a, g1, g2, g3, g4, g5⟩ := cl35 hZ 8 0 (2 ^ t) (tb_bit t ht).2.1 (by rw [(tb_pc t ht).1]; omega)
  have hat : a.testBit t = true := g3 t ((pow_bit t t).mpr rfl)
  rw [g2]
  constructor
  · intro h C hC hcl y hy
    have ha : a = 255 := (nI_eq (b := 255) (by omega) (by omega)).mp h
    refine g5 C (fun u v hu hv => hcl u v (tb_pc u hu).2 (tb_pc v hv).2) (fun j hj => ?_) y (by rw [ha]; exact hy)
    rw [← (pow_bit t j).mp hj]; exact hC
  · intro h
    have hall := h (fun q => a.testBit q = true) hat (fun u v hu hv hau huv => g4 u (lt8 (by omega) hu) hau v (lt8 (by omega) hv) huv)
    have ha : a = 255 := by
      apply Nat.eq_of_testBit_eq
      intro i
      rcases Nat.lt_or_ge i 8 with c | c
      · rw [hall i (tb_pc i c).2, (tb_pc i c).2]
      · rw [bit_no (fun h => absurd (lt8 g1 h) (by omega)), bit_no (fun h => absurd (lt8 (by decide) h) (by omega))]
    rw [ha]; rfl
