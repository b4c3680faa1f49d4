def gwE (th : Int32) (n : Nat) (pad : Nat → Int32) (k : Nat) (a ha ht : Int32) (A : Int32 × (Nat → Int32)) (v' : Nat) : Int32 × Int32 × Int32 × Int32 × Int32 × (Nat → Int32) :=
  if A.1 ≤ 0 then lp_X9_goWeeks_11 th n pad k A.1 (a + 1) ha ht A.2 v' else (a, ha, ht, A.1, a, A.2)
def gwT (th : Int32) (n : Nat) (pad : Nat → Int32) (k : Nat) (a ha ht : Int32) (now : Nat → Int32) (v : Nat) (A : Int32 × (Nat → Int32)) : Int32 × Int32 × Int32 × Int32 × Int32 × (Nat → Int32) :=
  if 0 ≤ ha then gwE th n pad k a ha ht A (v + 2) else if A.1 = 0 then (if A.2 15 &&& (now 15 ^^^ (-1 : Int32)) = 0 then gwE th n pad k a ha ht A (v + 2) else gwE th n pad k a a (pad (v + 1) - 48) A (v + 2)) else gwE th n pad k a ha ht A (v + 2)
theorem gw_s (th : Int32) (n : Nat) (pad : Nat → Int32) (k : Nat) (r a ha ht : Int32) (now : Nat → Int32) (v : Nat) : lp_X9_goWeeks_11 th n pad (k + 1) r a ha ht now v =
    (if nI n ≤ nI v then (-6, ha, ht, r, a, now) else (if pad v = 46 then gwE th n pad k a ha ht (f_X9_endHour th now) (v + 1) else (if pad v = 119 then gwT th n pad k a ha ht now v (f_X9_blow now (pad (v + 1) - 48)) else (if pad v = 118 then gwT th n pad k a ha ht now v (f_X9_vote th now (pad (v + 1) - 48)) else (if pad (v + 1) = 42 then gwT th n pad k a ha ht now v (f_X9_oil th now (pad v - 65)) else (if pad (v + 1) = 35 then gwT th n pad k a ha ht now v (f_X9_wire th now (pad v - 65)) else gwT th n pad k a ha ht now v (f_X9_hand th now (pad v - 65) (pad (v + 1) - 48)))))))) := rfl
def PAct (pad : Nat → Int32) (v : Nat) (k p m : Int32) (v' : Nat) : Prop :=
  (pad v = 46 ∧ k = 5 ∧ v' = v + 1) ∨ (¬ pad v = 46 ∧ v' = v + 2 ∧ p = pad v - 65 ∧ m = pad (v + 1) - 48 ∧
    ((pad v = 119 ∧ k = 3 ∧ rng m 8) ∨ (¬ pad v = 119 ∧ pad v = 118 ∧ k = 4 ∧ rng m 8) ∨ (¬ pad v = 119 ∧ ¬ pad v = 118 ∧ rng p 7 ∧ ((pad (v + 1) = 42 ∧ k = 0) ∨ (¬ pad (v + 1) = 42 ∧ pad (v + 1) = 35 ∧ k = 1) ∨ (¬ pad (v + 1) = 42 ∧ ¬ pad (v + 1) = 35 ∧ k = 2 ∧ rng m 8)))))
theorem pact_ok {pad : Nat → Int32} {v : Nat} {k p m : Int32} {v' : Nat} (h : PAct pad v k p m v') : okAct k p m := by
  rcases h with ⟨_, h, _⟩ | ⟨_, _, _, _, h⟩
  · exact Or.inr (Or.inr (Or.inr h))
  · rcases h with ⟨_, h, r⟩ | ⟨_, _, h, r⟩ | ⟨_, _, r, h⟩
    · exact Or.inr (Or.inr (Or.inl ⟨Or.inl h, r⟩))
    · exact Or.inr (Or.inr (Or.inl ⟨Or.inr h, r⟩))
    · rcases h with ⟨_, h⟩ | ⟨_, _, h⟩ | ⟨_, _, h, r2⟩
      · exact Or.inl ⟨Or.inl h, r⟩
      · exact Or.inl ⟨Or.inr h, r⟩
      · exact Or.inr (Or.inl ⟨h, r, r2⟩)
theorem a9_0 (th : Int32) (now : Nat → Int32) (p m : Int32) : act9 th now 0 p m = f_X9_oil th now p := rfl
theorem a9_1 (th : Int32) (now : Nat → Int32) (p m : Int32) : act9 th now 1 p m = f_X9_wire th now p := rfl
theorem a9_2 (th : Int32) (now : Nat → Int32) (p m : Int32) : act9 th now 2 p m = f_X9_hand th now p m := rfl
theorem a9_3 (th : Int32) (now : Nat → Int32) (p m : Int32) : act9 th now 3 p m = f_X9_blow now m := rfl
theorem a9_4 (th : Int32) (now : Nat → Int32) (p m : Int32) : act9 th now 4 p m = f_X9_vote th now m := rfl
theorem a9_5 (th : Int32) (now : Nat → Int32) (p m : Int32) : act9 th now 5 p m = f_X9_endHour th now := rfl
theorem gw_act {pad : Nat → Int32} {v : Nat} {k p m : Int32} {v' : Nat} (h : PAct pad v k p m v') (th : Int32) (n : Nat) (f : Nat) (r a ha ht : Int32) (now : Nat → Int32) (hv : v < n) (hn : n < 2 ^ 31) :
    lp_X9_goWeeks_11 th n pad (f + 1) r a ha ht now v = (if k = 5 then gwE th n pad f a ha ht (act9 th now k p m) v' else (if 0 ≤ ha then gwE th n pad f a ha ht (act9 th now k p m) v' else if (act9 th now k p m).1 = 0 then (if (act9 th now k p m).2 15 &&& (now 15 ^^^ (-1 : Int32)) = 0 then gwE th n pad f a ha ht (act9 th now k p m) v' else gwE th n pad f a a m (act9 th now k p m) v') else gwE th n pad f a ha ht (act9 th now k p m) v')) := by
  rw [gw_s, if_neg (nI_ge hv hn)]
  rcases h with ⟨e1, rfl, rfl⟩ | ⟨e1, rfl, rfl, rfl, h⟩
  · rw [if_pos e1, if_pos rfl, a9_5]
  · rw [if_neg e1]
    rcases h with ⟨e2, rfl, _⟩ | ⟨e2, e3, rfl, _⟩ | ⟨e2, e3, _, h⟩
    · rw [if_pos e2, if_neg (show ¬ (3 : Int32) = 5 by decide), a9_3]; rfl
    · rw [if_neg e2, if_pos e3, if_neg (show ¬ (4 : Int32) = 5 by decide), a9_4]; rfl
    · rw [if_neg e2, if_neg e3]
      rcases h with ⟨e4, rfl⟩ | ⟨e4, e5, rfl⟩ | ⟨e4, e5, rfl, _⟩
      · rw [if_pos e4, if_neg (show ¬ (0 : Int32) = 5 by decide), a9_0]; rfl
      · rw [if_neg e4, if_pos e5, if_neg (show ¬ (1 : Int32) = 5 by decide), a9_1]; rfl
      · rw [if_neg e4, if_neg e5, if_neg (show ¬ (2 : Int32) = 5 by decide), a9_2]; rfl
theorem try_no {acts hA hT th fr he wi oi ho : Int32} {pts trd : Nat → Int32} {k p m : Int32} (h : ¬ f_X7_reasonAgainst th fr wi oi ho pts k p m = 0) : f_X6_tryAct acts hA hT th fr he wi oi ho pts trd k p m = (f_X7_reasonAgainst th fr wi oi ho pts k p m, acts, hA, hT, fr, he, wi, oi, ho, pts, trd) := by
  unfold f_X6_tryAct
  rw [if_neg h]
def heldA (hA acts he he' : Int32) : Int32 := if hA = -6 then (if he' &&& (he ^^^ (-1 : Int32)) = 0 then hA else acts) else hA
def heldT (hA hT m he he' : Int32) : Int32 := if hA = -6 then (if he' &&& (he ^^^ (-1 : Int32)) = 0 then hT else m) else hT
theorem try_yes {acts hA hT th fr he wi oi ho : Int32} {pts trd : Nat → Int32} {k p m : Int32} (h : f_X7_reasonAgainst th fr wi oi ho pts k p m = 0) : f_X6_tryAct acts hA hT th fr he wi oi ho pts trd k p m = (0, acts + 1, heldA hA acts he (f_X7_carryOut th fr he wi oi ho pts trd k p m).2.1, heldT hA hT m he (f_X7_carryOut th fr he wi oi ho pts trd k p m).2.1, (f_X7_carryOut th fr he wi oi ho pts trd k p m).1, (f_X7_carryOut th fr he wi oi ho pts trd k p m).2.1, (f_X7_carryOut th fr he wi oi ho pts trd k p m).2.2.1, (f_X7_carryOut th fr he wi oi ho pts trd k p m).2.2.2.1, (f_X7_carryOut th fr he wi oi ho pts trd k p m).2.2.2.2.1, (f_X7_carryOut th fr he wi oi ho pts trd k p m).2.2.2.2.2.1, (f_X7_carryOut th fr he wi oi ho pts trd k p m).2.2.2.2.2.2) := by
  unfold f_X6_tryAct heldA heldT
  rw [if_pos h]
  by_cases c : hA = -6
  · rw [if_pos c, if_pos c, if_pos c]
    by_cases c2 : (f_X7_carryOut th fr he wi oi ho pts trd k p m).2.1 &&& (he ^^^ (-1 : Int32)) = 0
    · rw [if_pos c2, if_pos c2, if_pos c2]
    · rw [if_neg c2, if_neg c2, if_neg c2]
  · rw [if_neg c, if_neg c, if_neg c]
