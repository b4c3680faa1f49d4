def wtb (s : Nat) : Nat → Bool := fun u => s.testBit u
noncomputable def wok (N : Nat → Nat → Bool) (T Q : Nat → Bool) : Bool := @decide (∀ u : Nat, u < 7 → T u = true → ∀ v : Nat, v < 7 → N u v = true → T v = false ∧ Q v = false) (Classical.propDecidable _)
noncomputable def wsub (T U : Nat → Bool) : Bool := @decide (∀ u : Nat, u < 7 → T u = true → U u = true) (Classical.propDecidable _)
theorem wok_iff {N : Nat → Nat → Bool} {T Q : Nat → Bool} : wok N T Q = true ↔ (∀ u, u < 7 → T u = true → ∀ v, v < 7 → N u v = true → T v = false ∧ Q v = false) := by unfold wok; exact @decide_eq_true_iff _ (Classical.propDecidable _)
theorem wsub_iff {T U : Nat → Bool} : wsub T U = true ↔ (∀ u, u < 7 → T u = true → U u = true) := by unfold wsub; exact @decide_eq_true_iff _ (Classical.propDecidable _)
theorem wcp_iff {N : Nat → Nat → Bool} {p : Nat} {Q : Nat → Bool} : wcp N p Q = true ↔ (∀ v, v < 7 → N p v = true → Q v = false) := by unfold wcp; exact @decide_eq_true_iff _ (Classical.propDecidable _)
theorem wins_p (p : Nat) (T : Nat → Bool) : wins p T p = true := if_pos rfl
theorem wins_n {p u : Nat} (T : Nat → Bool) (h : u ≠ p) : wins p T u = T u := if_neg h
def NSym (N : Nat → Nat → Bool) : Prop := (∀ u v, u < 7 → v < 7 → N u v = true → N v u = true) ∧ ∀ u, u < 7 → N u u = false
theorem wins_cond {N : Nat → Nat → Bool} (hN : NSym N) {U T Q : Nat → Bool} {p : Nat} (hp : p < 7) (hT : T p = false) :
    (wsub (wins p T) U = true ∧ wok N (wins p T) Q = true) ↔ ((U p = true ∧ wcp N p Q = true) ∧ (wsub T U = true ∧ wok N T (wins p Q) = true)) := by
  rw [wsub_iff, wok_iff, wcp_iff, wsub_iff, wok_iff]
  constructor
  · rintro ⟨h1, h2⟩
    refine ⟨⟨h1 p hp (wins_p p T), fun v hv hn => (h2 p hp (wins_p p T) v hv hn).2⟩, fun u hu ht => ?_, fun u hu ht v hv hn => ?_⟩
    · have hne : u ≠ p := fun e => by rw [e, hT] at ht; exact absurd ht (by decide)
      exact h1 u hu (by rw [wins_n T hne]; exact ht)
    · have hne : u ≠ p := fun e => by rw [e, hT] at ht; exact absurd ht (by decide)
      have h3 := h2 u hu (by rw [wins_n T hne]; exact ht) v hv hn
      have hvp : v ≠ p := fun e => by rw [e, wins_p] at h3; exact absurd h3.1 (by decide)
      rw [wins_n T hvp] at h3
      rw [wins_n Q hvp]
      exact h3
  · rintro ⟨⟨h1, h2⟩, h3, h4⟩
    refine ⟨fun u hu ht => ?_, fun u hu ht v hv hn => ?_⟩
    · by_cases d : u = p
      · rw [d]; exact h1
      · rw [wins_n T d] at ht; exact h3 u hu ht
    · by_cases d : u = p
      · rw [d] at hn
        have hvp : v ≠ p := fun e => by rw [e, hN.2 p hp] at hn; exact absurd hn (by decide)
        refine ⟨?_, h2 v hv hn⟩
        rw [wins_n T hvp]
        cases e : T v with
        | false => rfl
        | true =>
          have := (h4 v hv e p hp (hN.1 p v hp hv hn)).2
          rw [wins_p] at this
          exact absurd this (by decide)
      · rw [wins_n T d] at ht
        have h5 := h4 u hu ht v hv hn
        have hvp : v ≠ p := fun e => by rw [e, wins_p] at h5; exact absurd h5.2 (by decide)
        rw [wins_n Q hvp] at h5
        rw [wins_n T hvp]
        exact h5
theorem wsm_evod (g : Nat → Nat) : ∀ m : Nat, wsm (2 * m) g = wsm m (fun t => g (2 * t)) + wsm m (fun t => g (2 * t + 1)) := by
  intro m
  induction m with
  | zero => rfl
  | succ m ih =>
    show wsm (2 * m) g + g (2 * m) + g (2 * m + 1) = wsm m (fun t => g (2 * t)) + g (2 * m) + (wsm m (fun t => g (2 * t + 1)) + g (2 * m + 1))
    rw [ih]; omega
theorem wtb_mul (p t u : Nat) : wtb (2 ^ p * t) u = (decide (p ≤ u) && t.testBit (u - p)) := Nat.testBit_two_pow_mul
theorem wtb_odd (p t : Nat) : wtb (2 ^ p * (2 * t + 1)) = wins p (wtb (2 ^ (p + 1) * t)) := by
  funext u
  rw [wtb_mul]
  by_cases c : u = p
  · rw [c, wins_p, Nat.sub_self, Nat.testBit_zero, decide_eq_true (Nat.le_refl p), decide_eq_true (show (2 * t + 1) % 2 = 1 by omega)]; rfl
  · rw [wins_n _ c, wtb_mul]
    by_cases d : p ≤ u
    · rw [decide_eq_true d, decide_eq_true (show p + 1 ≤ u by omega), show u - p = (u - (p + 1)) + 1 by omega, Nat.testBit_succ, show (2 * t + 1) / 2 = t by omega]
    · rw [decide_eq_false d, decide_eq_false (show ¬ p + 1 ≤ u by omega)]; rfl
theorem wnum (N : Nat → Nat → Bool) (hN : NSym N) (U : Nat → Bool) : ∀ (k p : Nat) (Q : Nat → Bool) (f : (Nat → Bool) → Nat), p + k = 7 →
    wsm (2 ^ k) (fun t => if wsub (wtb (2 ^ p * t)) U = true ∧ wok N (wtb (2 ^ p * t)) Q = true then f (wtb (2 ^ p * t)) else 0) = WS N U k p Q f := by
  intro k
  induction k with
  | zero =>
    intro p Q f hp
    show 0 + _ = f wemp
    have e : wtb (2 ^ p * 0) = wemp := by funext u; rw [Nat.mul_zero]; exact Nat.zero_testBit u
    have h1 : wsub wemp U = true := wsub_iff.mpr (fun u _ h => absurd h (show ¬ false = true by decide))
    have h2 : wok N wemp Q = true := wok_iff.mpr (fun u _ h => absurd h (show ¬ false = true by decide))
    dsimp only
    rw [e, if_pos ⟨h1, h2⟩, Nat.zero_add]
  | succ k ih =>
    intro p Q f hp
    rw [Nat.pow_succ, Nat.mul_comm (2 ^ k) 2, wsm_evod, ws_s]
    have ev : ∀ t, 2 ^ p * (2 * t) = 2 ^ (p + 1) * t := fun t => by rw [Nat.pow_succ, Nat.mul_assoc]
    congr 1
    · rw [← ih (p + 1) Q f (by omega)]
      refine wsm_congr fun t _ => ?_
      rw [ev]
    · have pt : ∀ t, (if wsub (wtb (2 ^ p * (2 * t + 1))) U = true ∧ wok N (wtb (2 ^ p * (2 * t + 1))) Q = true then f (wtb (2 ^ p * (2 * t + 1))) else 0) = (if U p = true ∧ wcp N p Q = true then (if wsub (wtb (2 ^ (p + 1) * t)) U = true ∧ wok N (wtb (2 ^ (p + 1) * t)) (wins p Q) = true then f (wins p (wtb (2 ^ (p + 1) * t))) else 0) else 0) := fun t => by
        have hT : wtb (2 ^ (p + 1) * t) p = false := by
          rw [wtb_mul, decide_eq_false (by omega)]; rfl
        have hc := wins_cond hN (U := U) (Q := Q) (show p < 7 by omega) hT
        rw [wtb_odd]
        by_cases d1 : U p = true ∧ wcp N p Q = true
        · rw [if_pos d1]
          by_cases d2 : wsub (wtb (2 ^ (p + 1) * t)) U = true ∧ wok N (wtb (2 ^ (p + 1) * t)) (wins p Q) = true
          · rw [if_pos d2, if_pos (hc.mpr ⟨d1, d2⟩)]
          · rw [if_neg d2, if_neg (fun h => d2 (hc.mp h).2)]
        · rw [if_neg d1, if_neg (fun h => d1 (hc.mp h).1)]
      by_cases d1 : U p = true ∧ wcp N p Q = true
      · rw [if_pos d1, ← ih (p + 1) (wins p Q) (fun T => f (wins p T)) (by omega)]
        refine wsm_congr fun t _ => ?_
        rw [pt, if_pos d1]
      · rw [if_neg d1]
        rw [wsm_congr (h := fun _ => 0) (fun t _ => by rw [pt, if_neg d1])]
        exact wsm_zero _
