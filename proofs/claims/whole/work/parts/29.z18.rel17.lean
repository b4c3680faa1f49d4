theorem pa_mono {n U : Nat} {pad K P N : Nat → Int32} : ∀ (f v u : Nat), PA n U pad K P N f v u → PA n U pad K P N (f + 1) v u := by
  intro f
  induction f with
  | zero => intro v u h; exact Or.inl h
  | succ f ih =>
    intro v u h
    rcases h with h | ⟨h1, h2, v', h3, h4⟩
    · exact Or.inl h
    · exact Or.inr ⟨h1, h2, v', h3, ih _ _ h4⟩
theorem add_act {u : Nat} (hu : u < 60) (r2 r3 r4 : Nat → Int32) (k p m : Int32) : f_X3_addAct (nI u) r2 r3 r4 k p m = (nI (u + 1), upd r2 u k, upd r3 u p, upd r4 u m) := by
  unfold f_X3_addAct
  rw [if_neg (show ¬ (60 : Int32) ≤ nI u from nI_ge (b := 60) hu (by decide)), ← nI_succ, nI_clamp (show u < 2 ^ 31 by omega)]
theorem way_rng {x : Int32} (h : ¬ f_X8_isWay x = 0) : rng x 8 := by
  rw [way_in] at h
  obtain ⟨j, hj, rfl⟩ := in_of (n := 7) (by decide) h
  exact rng_nI (by omega)
theorem par_rng {x : Int32} (h : ¬ f_X8_isParish x = 0) : rng x 7 := by
  rw [par_in] at h
  obtain ⟨j, hj, rfl⟩ := in_of (n := 6) (by decide) h
  exact rng_nI (by omega)
theorem kind_pact {pad : Nat → Int32} {v : Nat} (h46 : ¬ pad v = 46) (hh : ¬ f_X3_isHead (pad v) = 0) (hk : ¬ f_X3_kindOf (pad v) (pad (v + 1)) = -6) : PAct pad v (f_X3_kindOf (pad v) (pad (v + 1))) (pad v - 65) (pad (v + 1) - 48) (v + 2) := by
  refine Or.inr ⟨h46, rfl, rfl, rfl, ?_⟩
  unfold f_X3_kindOf at hk ⊢
  by_cases c1 : pad v = 119
  · rw [if_pos c1] at hk ⊢
    by_cases c2 : f_X8_isWay (pad (v + 1) - 48) = 0
    · rw [if_pos c2] at hk; exact absurd rfl hk
    · rw [if_neg c2]; exact Or.inl ⟨c1, rfl, way_rng c2⟩
  · rw [if_neg c1] at hk ⊢
    by_cases c3 : pad v = 118
    · rw [if_pos c3] at hk ⊢
      by_cases c2 : f_X8_isWay (pad (v + 1) - 48) = 0
      · rw [if_pos c2] at hk; exact absurd rfl hk
      · rw [if_neg c2]; exact Or.inr (Or.inl ⟨c1, c3, rfl, way_rng c2⟩)
    · rw [if_neg c3] at hk ⊢
      have hp : ¬ f_X8_isParish (pad v - 65) = 0 := fun e => by
        unfold f_X3_isHead at hh
        rw [if_pos e, if_neg c1, if_neg c3] at hh
        exact hh rfl
      refine Or.inr (Or.inr ⟨c1, c3, par_rng hp, ?_⟩)
      by_cases c4 : pad (v + 1) = 42
      · rw [if_pos c4]; exact Or.inl ⟨c4, rfl⟩
      · rw [if_neg c4] at hk ⊢
        by_cases c5 : pad (v + 1) = 35
        · rw [if_pos c5]; exact Or.inr (Or.inl ⟨c4, c5, rfl⟩)
        · rw [if_neg c5] at hk ⊢
          by_cases c2 : f_X8_isWay (pad (v + 1) - 48) = 0
          · rw [if_pos c2] at hk; exact absurd rfl hk
          · rw [if_neg c2]; exact Or.inr (Or.inr ⟨c4, c5, rfl, way_rng c2⟩)
theorem rd_z2 (n : Nat) (sg : Nat → Int32) (i : Nat) (u : Int32) (r2 r3 r4 : Nat → Int32) : lp_X3_read_9 n sg 0 i u r2 r3 r4 0 = (-6, u, r2, r3, r4) := by
  rw [lp_X3_read_9, if_pos rfl]
def RD (n : Nat) (pad : Nat → Int32) (k i u : Nat) (r2 r3 r4 : Nat → Int32) (R : Int32 × Int32 × (Nat → Int32) × (Nat → Int32) × (Nat → Int32)) : Prop :=
  R.1 = -6 → ∃ U, R.2.1 = nI U ∧ u ≤ U ∧ U ≤ u + k ∧ (∀ q, q < u → R.2.2.1 q = r2 q ∧ R.2.2.2.1 q = r3 q ∧ R.2.2.2.2 q = r4 q) ∧ PA n U pad R.2.2.1 R.2.2.2.1 R.2.2.2.2 k i u
theorem read_pa (n : Nat) (sg pad : Nat → Int32) (hn : n ≤ 60) (hp : ∀ q, q < n → sg q = pad q ∧ ∃ j : Nat, 33 ≤ j ∧ j ≤ 126 ∧ pad q = nI j) : ∀ (b k i u : Nat) (r2 r3 r4 : Nat → Int32), k ≤ b → i + k = n → u ≤ i → RD n pad k i u r2 r3 r4 (lp_X3_read_9 n sg k i (nI u) r2 r3 r4 0) := by
  have step : ∀ (k k' i i' u : Nat) (r2 r3 r4 : Nat → Int32) (x y z : Int32) (R : Int32 × Int32 × (Nat → Int32) × (Nat → Int32) × (Nat → Int32)), i < n → k' < k → PAct pad i x y z i' → (∀ f, k' ≤ f → ∀ U, PA n U pad R.2.2.1 R.2.2.2.1 R.2.2.2.2 k' i' (u + 1) → PA n U pad R.2.2.1 R.2.2.2.1 R.2.2.2.2 f i' (u + 1)) →
      RD n pad k' i' (u + 1) (upd r2 u x) (upd r3 u y) (upd r4 u z) R → RD n pad k i u r2 r3 r4 R := by
    intro k k' i i' u r2 r3 r4 x y z R hi hk ha hm h h6
    obtain ⟨U, e1, e2, e3, e4, e5⟩ := h h6
    refine ⟨U, e1, by omega, by omega, fun q hq => ?_, ?_⟩
    · obtain ⟨a, b, c⟩ := e4 q (by omega)
      rw [upd_ne _ _ (by omega)] at a b c
      exact ⟨a, b, c⟩
    · obtain ⟨k, rfl⟩ : ∃ w, k = w + 1 := ⟨k - 1, by omega⟩
      obtain ⟨a, b, c⟩ := e4 u (by omega)
      rw [upd_eq] at a b c
      exact Or.inr ⟨hi, by omega, i', by rw [a, b, c]; exact ha, hm k (by omega) U e5⟩
  have mono : ∀ (d f v u U : Nat) (K P N : Nat → Int32), PA n U pad K P N f v u → PA n U pad K P N (f + d) v u := by
    intro d
    induction d with
    | zero => intro f v u U K P N h; exact h
    | succ d ih => intro f v u U K P N h; exact pa_mono _ _ _ (ih f v u U K P N h)
  have mono' : ∀ (f f' v u U : Nat) (K P N : Nat → Int32), f ≤ f' → PA n U pad K P N f v u → PA n U pad K P N f' v u := fun f f' v u U K P N hf h => by
    have := mono (f' - f) f v u U K P N h
    rw [show f + (f' - f) = f' by omega] at this
    exact this
  intro b
  induction b with
  | zero =>
    intro k i u r2 r3 r4 hk hi hu
    have : k = 0 := by omega
    subst this
    rw [rd_z2]
    exact fun _ => ⟨u, rfl, Nat.le_refl _, by omega, fun q _ => ⟨rfl, rfl, rfl⟩, by omega, rfl⟩
  | succ b ih =>
    intro k i u r2 r3 r4 hk hi hu
    cases k with
    | zero =>
      rw [rd_z2]
      exact fun _ => ⟨u, rfl, Nat.le_refl _, by omega, fun q _ => ⟨rfl, rfl, rfl⟩, by omega, rfl⟩
    | succ k =>
      obtain ⟨es, j, j1, j2, ej⟩ := hp i (by omega)
      rw [rd_s, if_pos rfl, es]
      by_cases c1 : pad i = 46
      · rw [if_pos c1, add_act (by omega)]
        dsimp only
        exact step (k + 1) k i (i + 1) u r2 r3 r4 5 0 0 _ (by omega) (by omega) (Or.inl ⟨c1, rfl, rfl⟩) (fun f hf U h => mono' _ _ _ _ _ _ _ _ hf h) (ih k (i + 1) (u + 1) _ _ _ (by omega) (by omega) (by omega))
      · rw [if_neg c1]
        by_cases c2 : f_X3_isHead (pad i) = 0
        · rw [if_pos c2]
          intro h6
          have h6' : nI i = -6 := h6
          exact absurd (show nI i < 0 by rw [h6']; decide) (nI_pos (by omega))
        · rw [if_neg c2]
          have hne : ¬ pad i = 0 := by rw [ej]; exact nI_ne0 (by omega) (by omega)
          cases k with
          | zero =>
            intro h6
            rw [rd_z, if_neg hne] at h6
            exact absurd (show nI n < 0 by rw [h6]; decide) (nI_pos (by omega))
          | succ k =>
            obtain ⟨es2, -⟩ := hp (i + 1) (by omega)
            rw [rd_s, if_neg hne, es2]
            by_cases c3 : f_X3_kindOf (pad i) (pad (i + 1)) = -6
            · rw [if_pos c3]
              intro h6
              have h6' : nI (i + 1) = -6 := h6
              exact absurd (show nI (i + 1) < 0 by rw [h6']; decide) (nI_pos (by omega))
            · rw [if_neg c3, add_act (by omega)]
              dsimp only
              exact step (k + 1 + 1) k i (i + 2) u r2 r3 r4 _ _ _ _ (by omega) (by omega) (kind_pact c1 c2 c3) (fun f hf U h => mono' _ _ _ _ _ _ _ _ hf h) (ih k (i + 2) (u + 1) _ _ _ (by omega) (by omega) (by omega))
