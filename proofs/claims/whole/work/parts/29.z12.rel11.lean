def RV (th fr he wi oi ho : Int32) (pts trd now : Nat → Int32) : Prop :=
  (∀ q, q < 7 → (pts q = now q ∧ rng (now q) 8) ∧ (trd q = now (7 + q) ∧ rng (now (7 + q)) 10)) ∧ (fr = now 14 ∧ rng (now 14) 128) ∧ (he = now 15 ∧ rng (now 15) 256) ∧ (wi = now 16 ∧ rng (now 16) 8) ∧ (oi = now 17 ∧ rng (now 17) 10) ∧ (ho = now 18 ∧ rng (now 18) 100) ∧ rng th 128
def trn (p g : Nat) : Int32 := nI g - nI p + (8 : Int32) - (nI g - nI p + (8 : Int32)) / (8 : Int32) * (8 : Int32)
theorem tb_turn1 : ∀ p : Nat, p < 8 → ∀ g : Nat, g < 8 → (trn p g ≤ 0 ↔ nI p = nI g) := by decide +kernel
theorem tb_turn2 : ∀ p : Nat, p < 8 → ∀ g : Nat, g < 8 → if nI p = nI g then True else if (5 : Int32) ≤ trn p g then f_X7_nearer (nI p) (nI g) = nI p + (7 : Int32) - (nI p + (7 : Int32)) / (8 : Int32) * (8 : Int32) else f_X7_nearer (nI p) (nI g) = nI p + (1 : Int32) - (nI p + (1 : Int32)) / (8 : Int32) * (8 : Int32) := by decide +kernel
theorem tb_turn3 : ∀ p : Nat, p < 8 → ∀ g : Nat, g < 8 → ((f_X7_nearer (nI p) (nI g)).toNatClampNeg < 8 ∧ f_X7_nearer (nI p) (nI g) = nI (f_X7_nearer (nI p) (nI g)).toNatClampNeg) := by decide +kernel
theorem tb_turn (p : Nat) (hp : p < 8) (g : Nat) (hg : g < 8) : ((nI g - nI p + (8 : Int32) - (nI g - nI p + (8 : Int32)) / (8 : Int32) * (8 : Int32) ≤ 0 ↔ nI p = nI g) ∧ (¬ nI p = nI g → (5 : Int32) ≤ nI g - nI p + (8 : Int32) - (nI g - nI p + (8 : Int32)) / (8 : Int32) * (8 : Int32) → f_X7_nearer (nI p) (nI g) = nI p + (7 : Int32) - (nI p + (7 : Int32)) / (8 : Int32) * (8 : Int32)) ∧ (¬ nI p = nI g → ¬ (5 : Int32) ≤ nI g - nI p + (8 : Int32) - (nI g - nI p + (8 : Int32)) / (8 : Int32) * (8 : Int32) → f_X7_nearer (nI p) (nI g) = nI p + (1 : Int32) - (nI p + (1 : Int32)) / (8 : Int32) * (8 : Int32)) ∧ ((f_X7_nearer (nI p) (nI g)).toNatClampNeg < 8 ∧ f_X7_nearer (nI p) (nI g) = nI (f_X7_nearer (nI p) (nI g)).toNatClampNeg)) := by
  have t2 := tb_turn2 p hp g hg
  refine ⟨tb_turn1 p hp g hg, fun h1 h2 => ?_, fun h1 h2 => ?_, tb_turn3 p hp g hg⟩
  · rw [if_neg h1] at t2; unfold trn at t2; rw [if_pos h2] at t2; exact t2
  · rw [if_neg h1] at t2; unfold trn at t2; rw [if_neg h2] at t2; exact t2
def tdn (t : Nat) : Int32 := if (0 : Int32) < nI t - 1 then nI t - 1 else 0
def tup (t : Nat) : Int32 := if nI t + (1 : Int32) < 9 then nI t + 1 else 9
def tcl (x : Int32) : Int32 := if x ≤ 9 then (if 0 ≤ x then x else 0) else 9
theorem tb_tire1 : ∀ t : Nat, t < 10 → (tcl (nI t + (-1 : Int32)) = tdn t ∧ tcl (nI t + 1) = tup t) := by decide +kernel
theorem tb_tire2 : ∀ t : Nat, t < 10 → (((tdn t).toNatClampNeg < 10 ∧ tdn t = nI (tdn t).toNatClampNeg) ∧ ((tup t).toNatClampNeg < 10 ∧ tup t = nI (tup t).toNatClampNeg)) := by decide +kernel
theorem hb_has {x : Int32} (hx : rng x 128) {j : Nat} (hj : j < 7) : f_X8_hasBit x (nI j) = f_X9_has x (nI j) := by
  obtain ⟨a, ha, rfl⟩ := hx
  exact tb_has a (by omega) j (by omega)
theorem tv_s (th fr g : Int32) (k i : Nat) (r1 r2 : Nat → Int32) : lp_X7_turnVanes_2 th fr g (k + 1) i r1 r2 = (if f_X7_isThere th (nI i) = 0 then lp_X7_turnVanes_2 th fr g k (i + 1) r1 r2 else (if f_X8_hasBit fr (nI i) = 0 then lp_X7_turnVanes_2 th fr g k (i + 1) r1 (upd r2 i (if (0 : Int32) < r2 i - 1 then r2 i - 1 else 0)) else (if r1 i = g then lp_X7_turnVanes_2 th fr g k (i + 1) r1 (upd r2 i (if (0 : Int32) < r2 i - 1 then r2 i - 1 else 0)) else lp_X7_turnVanes_2 th fr g k (i + 1) (upd r1 i (f_X7_nearer (r1 i) g)) (upd r2 i (if r2 i + (1 : Int32) < 9 then r2 i + 1 else 9))))) := rfl
theorem ta_s (th : Int32) (k i : Nat) (r : Nat → Int32) (hi : i < 7) (p t f g : Int32) (hp : r i = p) (ht : r (7 + i) = t) (hf : r 14 = f) (hg : r 16 = g) : lp_X9_turnAll_2 th (k + 1) i r = (if f_X9_isThere th (nI i) = 0 then lp_X9_turnAll_2 th k (i + 1) (upd r (7 + i) t) else (if f_X9_has f (nI i) = 0 then lp_X9_turnAll_2 th k (i + 1) (upd r (7 + i) (tcl (t + (-1)))) else
    (if (g - p + (8 : Int32) - (g - p + (8 : Int32)) / (8 : Int32) * (8 : Int32)) ≤ 0 then lp_X9_turnAll_2 th k (i + 1) (upd r (7 + i) (tcl (t + (-1)))) else (if (5 : Int32) ≤ g - p + (8 : Int32) - (g - p + (8 : Int32)) / (8 : Int32) * (8 : Int32) then lp_X9_turnAll_2 th k (i + 1) (upd (upd r i (p + (7 : Int32) - (p + (7 : Int32)) / (8 : Int32) * (8 : Int32))) (7 + i) (tcl (t + 1))) else lp_X9_turnAll_2 th k (i + 1) (upd (upd r i (p + (1 : Int32) - (p + (1 : Int32)) / (8 : Int32) * (8 : Int32))) (7 + i) (tcl (t + 1))))))) := by
  subst hp; subst ht; subst hf; subst hg
  have e1 : ∀ x, upd r i x (7 + i) = r (7 + i) := fun x => upd_ne _ _ (by omega)
  have z : ∀ (x : Int32) (F : Int32 → (Nat → Int32)), (if x ≤ 9 then (if 0 ≤ x then F x else F 0) else F 9) = F (tcl x) := fun x F => by
    unfold tcl
    by_cases c : x ≤ 9
    · rw [if_pos c, if_pos c]
      by_cases d : 0 ≤ x
      · rw [if_pos d, if_pos d]
      · rw [if_neg d, if_neg d]
    · rw [if_neg c, if_neg c]
  have z1 := z (r (7 + i) + (-1)) (fun y => lp_X9_turnAll_2 th k (i + 1) (upd r (7 + i) y))
  have z2 := z (r (7 + i) + 1) (fun y => lp_X9_turnAll_2 th k (i + 1) (upd (upd r i (r i + (7 : Int32) - (r i + (7 : Int32)) / (8 : Int32) * (8 : Int32))) (7 + i) y))
  have z3 := z (r (7 + i) + 1) (fun y => lp_X9_turnAll_2 th k (i + 1) (upd (upd r i (r i + (1 : Int32) - (r i + (1 : Int32)) / (8 : Int32) * (8 : Int32))) (7 + i) y))
  rw [← z1, ← z2, ← z3]
  rw [lp_X9_turnAll_2, e1, e1]
theorem tv_all {th fr g : Int32} (ht : rng th 128) (hfr : rng fr 128) (hg : rng g 8) : ∀ (k i : Nat) (r1 r2 now : Nat → Int32), i + k = 7 → (∀ q, q < 7 → (r1 q = now q ∧ rng (now q) 8) ∧ (r2 q = now (7 + q) ∧ rng (now (7 + q)) 10)) → now 14 = fr → now 16 = g →
    (∀ q, q < 7 → ((lp_X7_turnVanes_2 th fr g k i r1 r2).1 q = lp_X9_turnAll_2 th k i now q ∧ rng (lp_X9_turnAll_2 th k i now q) 8) ∧ ((lp_X7_turnVanes_2 th fr g k i r1 r2).2 q = lp_X9_turnAll_2 th k i now (7 + q) ∧ rng (lp_X9_turnAll_2 th k i now (7 + q)) 10)) ∧ ∀ q, 14 ≤ q → lp_X9_turnAll_2 th k i now q = now q := by
  intro k
  induction k with
  | zero => intro i r1 r2 now hi h h14 h16; exact ⟨h, fun q _ => rfl⟩
  | succ k ih =>
    intro i r1 r2 now hi h h14 h16
    obtain ⟨⟨a1, a2⟩, ⟨a3, a4⟩⟩ := h i (by omega)
    obtain ⟨p, hp, ep⟩ := a2
    obtain ⟨t, htt, et⟩ := a4
    obtain ⟨gg, hgg, eg⟩ := id hg
    rw [tv_s, ta_s th k i now (by omega) (nI p) (nI t) fr (nI gg) ep et h14 (by rw [h16, eg]), there_eq ht, hb_has hfr (show i < 7 by omega), a1, a3, ep, et]
    obtain ⟨t1, t2, t3, t4⟩ := tb_turn p hp gg hgg
    obtain ⟨v1, v2⟩ := tb_tire1 t htt
    obtain ⟨u7, u8⟩ := tb_tire2 t htt
    rw [show (if (0 : Int32) < nI t - 1 then nI t - 1 else 0) = tdn t from rfl, show (if nI t + (1 : Int32) < 9 then nI t + 1 else 9) = tup t from rfl]
    have next : ∀ (R1 R2 N : Nat → Int32) (P T : Int32), rng P 8 → rng T 10 → (∀ q, R1 q = if q = i then P else r1 q) → (∀ q, R2 q = if q = i then T else r2 q) → (∀ q, N q = if q = i then P else if q = 7 + i then T else now q) →
        (∀ q, q < 7 → ((lp_X7_turnVanes_2 th fr g k (i + 1) R1 R2).1 q = lp_X9_turnAll_2 th k (i + 1) N q ∧ rng (lp_X9_turnAll_2 th k (i + 1) N q) 8) ∧ ((lp_X7_turnVanes_2 th fr g k (i + 1) R1 R2).2 q = lp_X9_turnAll_2 th k (i + 1) N (7 + q) ∧ rng (lp_X9_turnAll_2 th k (i + 1) N (7 + q)) 10)) ∧ ∀ q, 14 ≤ q → lp_X9_turnAll_2 th k (i + 1) N q = now q := fun R1 R2 N P T hP hT e1 e2 e3 => by
      obtain ⟨b1, b2⟩ := ih (i + 1) R1 R2 N (by omega) (fun q hq => by
        rw [e1, e2, e3, e3]
        by_cases c : q = i
        · rw [if_pos c, if_pos c, if_pos c, if_neg (show ¬ 7 + q = i by omega), if_pos (show 7 + q = 7 + i by omega)]
          exact ⟨⟨rfl, hP⟩, rfl, hT⟩
        · rw [if_neg c, if_neg c, if_neg c, if_neg (show ¬ q = 7 + i by omega), if_neg (show ¬ 7 + q = i by omega), if_neg (show ¬ 7 + q = 7 + i by omega)]
          exact h q hq) (by rw [e3, if_neg (by omega), if_neg (by omega)]; exact h14) (by rw [e3, if_neg (by omega), if_neg (by omega)]; exact h16)
      exact ⟨b1, fun q hq => by rw [b2 q hq, e3, if_neg (by omega), if_neg (by omega)]⟩
    have k1 : ∀ q, r1 q = if q = i then nI p else r1 q := fun q => by
      by_cases c : q = i
      · rw [if_pos c, c, a1, ep]
      · rw [if_neg c]
    have k2 : ∀ q, r2 q = if q = i then nI t else r2 q := fun q => by
      by_cases c : q = i
      · rw [if_pos c, c, a3, et]
      · rw [if_neg c]
    have k3 : ∀ (x : Int32) (q : Nat), upd now (7 + i) x q = if q = i then nI p else if q = 7 + i then x else now q := fun x q => by
      rw [upd_at]
      by_cases c : q = i
      · rw [if_pos c, if_neg (by omega), c, ep]
      · rw [if_neg c]
    have k4 : ∀ (x y : Int32) (q : Nat), upd (upd now i y) (7 + i) x q = if q = i then y else if q = 7 + i then x else now q := fun x y q => by
      rw [upd_at, upd_at]
      by_cases c : q = i
      · rw [if_pos c, if_neg (by omega), if_pos c]
      · rw [if_neg c, if_neg c]
    by_cases c1 : f_X9_isThere th (nI i) = 0
    · rw [if_pos c1, if_pos c1]
      exact next _ _ _ (nI p) (nI t) (rng_nI hp) (rng_nI htt) k1 k2 (k3 _)
    · rw [if_neg c1, if_neg c1]
      by_cases c2 : f_X9_has fr (nI i) = 0
      · rw [if_pos c2, if_pos c2, v1]
        exact next _ _ _ (nI p) _ (rng_nI hp) (rng_of u7) k1 (fun q => rfl) (k3 _)
      · rw [if_neg c2, if_neg c2, eg]
        by_cases c3 : nI p = nI gg
        · rw [if_pos c3, if_pos (t1.mpr c3), v1, ← eg]
          exact next _ _ _ (nI p) _ (rng_nI hp) (rng_of u7) k1 (fun q => rfl) (k3 _)
        · rw [if_neg c3, if_neg (fun h => c3 (t1.mp h)), v2]
          by_cases c4 : (5 : Int32) ≤ nI gg - nI p + (8 : Int32) - (nI gg - nI p + (8 : Int32)) / (8 : Int32) * (8 : Int32)
          · rw [if_pos c4, ← t2 c3 c4, ← eg]
            rw [← eg] at t4
            exact next _ _ _ _ _ (rng_of t4) (rng_of u8) (fun q => rfl) (fun q => rfl) (k4 _ _)
          · rw [if_neg c4, ← t3 c3 c4, ← eg]
            rw [← eg] at t4
            exact next _ _ _ _ _ (rng_of t4) (rng_of u8) (fun q => rfl) (fun q => rfl) (k4 _ _)
theorem rv_turn {th fr he wi oi ho : Int32} {pts trd now : Nat → Int32} (h : RV th fr he wi oi ho pts trd now) : RV th fr he wi oi ho (f_X7_turnVanes th fr pts trd wi).1 (f_X7_turnVanes th fr pts trd wi).2 (f_X9_turnAll th now) := by
  obtain ⟨h1, h2, h3, h4, h5, h6, h7⟩ := h
  obtain ⟨a, b⟩ := tv_all h7 (by rw [h2.1]; exact h2.2) (by rw [h4.1]; exact h4.2) 7 0 pts trd now rfl h1 h2.1.symm h4.1.symm
  unfold f_X9_turnAll
  refine ⟨a, ?_, ?_, ?_, ?_, ?_, h7⟩
  · rw [b 14 (by omega)]; exact h2
  · rw [b 15 (by omega)]; exact h3
  · rw [b 16 (by omega)]; exact h4
  · rw [b 17 (by omega)]; exact h5
  · rw [b 18 (by omega)]; exact h6
