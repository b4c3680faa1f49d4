theorem lt8 {m i : Nat} (hm : m < 256) (h : m.testBit i = true) : i < 8 := by
  rcases Nat.lt_or_ge i 8 with c | c
  · exact c
  · have : m < 2 ^ i := Nat.lt_of_lt_of_le (show m < 2 ^ 8 from hm) (Nat.pow_le_pow_right (by decide) c)
    rw [Nat.testBit_lt_two_pow this] at h
    exact absurd h (by decide)
def clr (m j : Nat) : Nat := if m.testBit j then m - 2 ^ j else m
theorem tb_clr : ∀ m : Nat, m < 256 → ∀ j : Nat, j < 8 → ∀ i : Nat, i < 8 → (clr m j).testBit i = (m.testBit i && !(decide (i = j))) := by decide +kernel
theorem clr_le (m j : Nat) : clr m j ≤ m := by
  unfold clr
  split
  · exact Nat.sub_le _ _
  · exact Nat.le_refl _
theorem tb_clr1 : ∀ m : Nat, m < 256 → ∀ j : Nat, j < 8 → m.testBit j = true → clr m j < m := by decide +kernel
theorem clr_bit {m j i : Nat} (hm : m < 256) (hj : j < 8) : (clr m j).testBit i = true ↔ (m.testBit i = true ∧ i ≠ j) := by
  rcases Nat.lt_or_ge i 8 with c | c
  · rw [tb_clr m hm j hj i c]
    simp
  · constructor
    · intro h; exact absurd (lt8 (Nat.lt_of_le_of_lt (clr_le m j) hm) h) (by omega)
    · intro h; exact absurd (lt8 hm h.1) (by omega)
def ARch (B : Nat → Nat → Prop) (m x : Nat) : Prop := ∀ C : Nat → Prop, C x → (∀ u v, m.testBit u = true → m.testBit v = true → C u → B u v → C v) → ∀ y, m.testBit y = true → C y
def Tour (B : Nat → Nat → Prop) : Prop := ∀ x y : Nat, x < 8 → y < 8 → x ≠ y → ((B x y ∨ B y x) ∧ ¬ (B x y ∧ B y x))
theorem arch_up {B : Nat → Nat → Prop} {m z w : Nat} (hm : m < 256) (hz : m.testBit z = true) (ha : ARch B (clr m z) w) (C : Nat → Prop) (hw : C w) (hc : ∀ u v, m.testBit u = true → m.testBit v = true → C u → B u v → C v) : ∀ y, m.testBit y = true → y ≠ z → C y := by
  have hz8 := lt8 hm hz
  have h1 := ha C hw (fun u v hu hv => hc u v ((clr_bit hm hz8).mp hu).1 ((clr_bit hm hz8).mp hv).1)
  exact fun y hy hne => h1 y ((clr_bit hm hz8).mpr ⟨hy, hne⟩)
theorem king {B : Nat → Nat → Prop} (hB : Tour B) : ∀ n m : Nat, m < n → m < 256 → m ≠ 0 → ∃ y, m.testBit y = true ∧ ARch B m y := by
  intro n
  induction n with
  | zero => intro m h; exact absurd h (by omega)
  | succ n ih =>
    intro m hmn hm h0
    obtain ⟨z, hz⟩ := Nat.exists_testBit_of_ne_zero h0
    have hz8 := lt8 hm hz
    have hlt := tb_clr1 m hm z hz8 hz
    by_cases c : clr m z = 0
    · refine ⟨z, hz, fun C hC _ y hy => ?_⟩
      by_cases d : y = z
      · rw [d]; exact hC
      · have := (clr_bit (i := y) hm hz8).mpr ⟨hy, d⟩
        rw [c, Nat.zero_testBit] at this
        exact absurd this (by decide)
    · obtain ⟨y, hy, ha⟩ := ih (clr m z) (by omega) (by omega) c
      obtain ⟨hy1, hyz⟩ := (clr_bit hm hz8).mp hy
      have hy8 := lt8 hm hy1
      rcases (hB y z hy8 hz8 hyz).1 with b | b
      · refine ⟨y, hy1, fun C hC hcl q hq => ?_⟩
        by_cases d : q = z
        · rw [d]; exact hcl y z hy1 hz hC b
        · exact arch_up hm hz ha C hC hcl q hq d
      · refine ⟨z, hz, fun C hC hcl q hq => ?_⟩
        by_cases d : q = z
        · rw [d]; exact hC
        · exact arch_up hm hz ha C (hcl z y hz hy1 hC b) hcl q hq d
def LL (B : Nat → Nat → Prop) (m j : Nat) : Prop := m.testBit j = true ∧ ARch B m j
theorem ll_step {B : Nat → Nat → Prop} (hB : Tour B) {m : Nat} (hm : m < 256) (j : Nat) : LL B m j ↔ ((clr m j = 0 ∧ m.testBit j = true) ∨ ∃ l x, m.testBit l = true ∧ LL B (clr m l) x ∧ ((B x l ∧ j = x) ∨ (¬ B x l ∧ j = l))) := by
  constructor
  · rintro ⟨hj, ha⟩
    have hj8 := lt8 hm hj
    by_cases c : clr m j = 0
    · exact Or.inl ⟨c, hj⟩
    · right
      have hlt := tb_clr1 m hm j hj8 hj
      obtain ⟨y, hy, hay⟩ := king hB (clr m j + 1) (clr m j) (by omega) (by omega) c
      have key : ∃ w, (clr m j).testBit w = true ∧ B j w ∧ ARch B (clr m j) w := by
        refine Classical.byContradiction fun hno => ?_
        have hall := ha (fun q => ¬ ((clr m j).testBit q = true ∧ ARch B (clr m j) q)) (fun h => ((clr_bit hm hj8).mp h.1).2 rfl) (fun u v hu hv hCu huv hv2 => ?_) y ((clr_bit hm hj8).mp hy).1
        · exact hall ⟨hy, hay⟩
        · by_cases d : u = j
          · rw [d] at huv
            exact hno ⟨v, hv2.1, huv, hv2.2⟩
          · have hu' := (clr_bit hm hj8).mpr ⟨hu, d⟩
            refine hCu ⟨hu', fun C hC hcl => ?_⟩
            exact hv2.2 C (hcl u v hu' hv2.1 hC huv) hcl
      obtain ⟨w, hw, hjw, haw⟩ := key
      obtain ⟨hw1, hwj⟩ := (clr_bit hm hj8).mp hw
      refine ⟨j, w, hj, ⟨hw, haw⟩, Or.inr ⟨fun hwj' => ?_, rfl⟩⟩
      exact (hB j w hj8 (lt8 hm hw1) (Ne.symm hwj)).2 ⟨hjw, hwj'⟩
  · rintro (⟨c, hj⟩ | ⟨l, x, hl, ⟨hx, hax⟩, h⟩)
    · have hj8 := lt8 hm hj
      refine ⟨hj, fun C hC _ y hy => ?_⟩
      by_cases d : y = j
      · rw [d]; exact hC
      · have := (clr_bit (i := y) hm hj8).mpr ⟨hy, d⟩
        rw [c, Nat.zero_testBit] at this
        exact absurd this (by decide)
    · have hl8 := lt8 hm hl
      obtain ⟨hx1, hxl⟩ := (clr_bit hm hl8).mp hx
      rcases h with ⟨hb, rfl⟩ | ⟨hb, rfl⟩
      · refine ⟨hx1, fun C hC hcl q hq => ?_⟩
        by_cases d : q = l
        · rw [d]; exact hcl j l hx1 hl hC hb
        · exact arch_up hm hl hax C hC hcl q hq d
      · have hb' : B j x := by
          rcases (hB x j (lt8 hm hx1) hl8 hxl).1 with b | b
          · exact absurd b hb
          · exact b
        refine ⟨hl, fun C hC hcl q hq => ?_⟩
        by_cases d : q = j
        · rw [d]; exact hC
        · exact arch_up hm hl hax C (hcl j x hl hx1 hC hb') hcl q hq d
