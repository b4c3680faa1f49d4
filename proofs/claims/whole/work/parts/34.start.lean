set_option maxHeartbeats 4000000 in
set_option maxRecDepth 100000 in
theorem whole_start {p : Program} {e : Env} {s : State} {m : MethodId} {below : List Frame} {meth : Method} {c : Code} (l : Launch) (hflags : l.flags = flags0) {b L : Nat} {xs : Nat → Int32} (hL : L ≤ 320) (C0 : lw_At p s m meth c b L xs) : W p l e room_1 s m #[Value.ref b] below meth c s.heap [] 0 0 (lw_Z below #[Value.ref b] s) (entryFrame m ([Value.ref b] : List Value).toArray 4) := by
  obtain ⟨hx, hb, hr, hml, hown, hts0, hX, hbl, hlocks, hgv⟩ := id C0
  have hts : ∀ w ∈ wsL_law, w.before #[Value.ref b] s = true := fun w h => hts0 w (wsL_law_in w h)
  have hA : ∀ q : Nat, s.heap.size ≤ q → (fun q : Nat => s.heap.size ≤ q) q := fun _ h => h
  have hbA : ¬ (fun q : Nat => s.heap.size ≤ q) b := Nat.not_le.mpr hbl
  obtain ⟨c0, iS0, hKn0⟩ := u_known (C := RX0) (T := TX0) (N := 2) (n := 2) hts0 inX0 (hts0 (.instantiable RX0 2) (by decide +kernel))
  obtain ⟨c1, iS1, hKn1⟩ := u_known (C := RX1) (T := TX1) (N := 3) (n := 3) hts0 inX1 (hts0 (.instantiable RX1 3) (by decide +kernel))
  obtain ⟨c2, iS2, hKn2⟩ := u_known (C := RX2) (T := TX2) (N := 3) (n := 3) hts0 inX2 (hts0 (.instantiable RX2 3) (by decide +kernel))
  obtain ⟨c3, iS3, hKn3⟩ := u_known (C := RX3) (T := TX3) (N := 6) (n := 6) hts0 inX3 (hts0 (.instantiable RX3 6) (by decide +kernel))
  obtain ⟨c4, iS4, hKn4⟩ := u_known (C := RX4) (T := TX4) (N := 1) (n := 1) hts0 inX4 (hts0 (.instantiable RX4 1) (by decide +kernel))
  obtain ⟨c5, iS5, hKn5⟩ := u_known (C := RX5) (T := TX5) (N := 2) (n := 2) hts0 inX5 (hts0 (.instantiable RX5 2) (by decide +kernel))
  obtain ⟨c6, iS6, hKn6⟩ := u_known (C := RX6) (T := TX6) (N := 4) (n := 4) hts0 inX6 (hts0 (.instantiable RX6 4) (by decide +kernel))
  obtain ⟨c7, iS7, hKn7⟩ := u_known (C := RX7) (T := TX7) (N := 12) (n := 12) hts0 inX7 (hts0 (.instantiable RX7 12) (by decide +kernel))
  obtain ⟨c8, iS8, hKn8⟩ := u_known (C := RX8) (T := TX8) (N := 11) (n := 11) hts0 inX8 (hts0 (.instantiable RX8 11) (by decide +kernel))
  obtain ⟨c9, iS9, hKn9⟩ := u_known (C := RX9) (T := TX9) (N := 19) (n := 19) hts0 inX9 (hts0 (.instantiable RX9 19) (by decide +kernel))
  obtain ⟨cI, kAI, cmI, f1I, f2I, f3I⟩ := Cond.arrayClass_spec (hts0 (.arrayClass .int) (by decide +kernel))
  obtain ⟨cJ, kAJ, cmJ, f1J, f2J, f3J⟩ := Cond.arrayClass_spec (hts0 (.arrayClass .long) (by decide +kernel))
  obtain ⟨cZ, kAZ, cmZ, f1Z, f2Z, f3Z⟩ := Cond.arrayClass_spec (hts0 (.arrayClass .boolean) (by decide +kernel))
  obtain ⟨dC, dI, hKc⟩ : ∃ (dC : Nat → ClassId) (dI : Nat → Nat → Nat), ∀ (k : Nat) (q : vw_C), vwCl[k]? = some q → u_Kn s q.1 q.2.1 q.2.2 (dC k) (dI k) := by
    refine ⟨fun k => if k = 0 then c0 else if k = 1 then c1 else if k = 2 then c2 else if k = 3 then c3 else if k = 4 then c4 else if k = 5 then c5 else if k = 6 then c6 else if k = 7 then c7 else if k = 8 then c8 else c9, fun k => if k = 0 then iS0 else if k = 1 then iS1 else if k = 2 then iS2 else if k = 3 then iS3 else if k = 4 then iS4 else if k = 5 then iS5 else if k = 6 then iS6 else if k = 7 then iS7 else if k = 8 then iS8 else iS9, ?_⟩
    intro k q hq
    match k, hq with
    | 0, hq => cases hq; exact hKn0
    | 1, hq => cases hq; exact hKn1
    | 2, hq => cases hq; exact hKn2
    | 3, hq => cases hq; exact hKn3
    | 4, hq => cases hq; exact hKn4
    | 5, hq => cases hq; exact hKn5
    | 6, hq => cases hq; exact hKn6
    | 7, hq => cases hq; exact hKn7
    | 8, hq => cases hq; exact hKn8
    | 9, hq => cases hq; exact hKn9
    | k + 10, hq => simp [vwCl] at hq
  have hKv : va_K (dC, dI) vwCl [(cI, .int), (cJ, .long), (cZ, .boolean)] s := by
    refine ⟨hKc, fun k q h => ?_⟩
    match k, h with
    | 0, h => cases h; exact ⟨fun n z => ⟨fun k h => (by cases h), kAI, f2I, cmI, f3I⟩, f1I⟩
    | 1, h => cases h; exact ⟨fun n z => ⟨fun k h => (by cases h), kAJ, f2J, cmJ, f3J⟩, f1J⟩
    | 2, h => cases h; exact ⟨fun n z => ⟨fun k h => (by cases h), kAZ, f2Z, cmZ, f3Z⟩, f1Z⟩
    | k + 3, h => simp at h
  have hN : ∀ w ∈ gN, va_Nw w s := fun w hw => va_Nw.of (nestW_tab (gN_nest w hw)) (hts0 w (gN_in w hw))
  have hK : GK (dC, dI) cI cJ cZ s := ⟨hKv, hN⟩
  have LC0 : LC p s m c b L xs (dC, dI) cI cJ cZ := ⟨hx, hb, hml, hown, hts, hX, hbl, hK, hL⟩
  have hS : va_S (fun q : Nat => s.heap.size ≤ q) s.heap s.heap [] := va_S.rf
  have hP : va_P (dC, dI) vwCl [] s.heap := fun k q h => by simp at h
  have hD : va_D (fun q : Nat => s.heap.size ≤ q) [] := ⟨fun i j p q h => by simp at h, fun k q h => by simp at h⟩
  have hl := lv_entry ([.ref b]) (n := 4) (Nat.le_of_ble_eq_true rfl)
  rw [lg_entry_eq]
  generalize (lg_sl ([.ref b]) ++ List.replicate (4 - (lg_sl ([.ref b])).length) Slot.unset).toArray = ls at hl ⊢
  have hl : lv_has ls 4 [(0, .ref b)] := hl
  refine va_new (ci := 8) (fs := [.null, .null, .null, .int 0, .null, .null, .null, .null, .null, .null, .null]) (C := RX8) (T := TX8) (N := 11) hx hb hts0 inX8 tyX8 tyX8_ok hown (hts (.classLink RL 7 RX8) (by decide +kernel)) (hts (.instantiable RX8 11) (by decide +kernel)) (hts (.initialized RX8) (by decide +kernel)) hK.1 hP hD hS hA rfl (fun j hj => by rcases (show j = 0 ∨ j = 1 ∨ j = 2 ∨ j = 3 ∨ j = 4 ∨ j = 5 ∨ j = 6 ∨ j = 7 ∨ j = 8 ∨ j = 9 ∨ j = 10 by omega) with rfl | rfl | rfl | rfl | rfl | rfl | rfl | rfl | rfl | rfl | rfl <;> rfl) (Nat.le_of_ble_eq_true rfl) (Nat.le_of_ble_eq_true rfl) dL_law_0 (fun x H hP hD hS => ?_)
  have hP : va_P (dC, dI) vwCl [(x, .inr (8, [.null, .null, .null, .int 0, .null, .null, .null, .null, .null, .null, .null]))] H := hP
  have hD : va_D (fun q : Nat => s.heap.size ≤ q) [(x, .inr (8, [.null, .null, .null, .int 0, .null, .null, .null, .null, .null, .null, .null]))] := hD
  refine lv_dup hx hb dL_law_3 rfl ?_
  refine in_callI (k := 0) ⟨hx, hb, hml, hown, hts⟩ hK hP hD hS hA (c_X8_init l (dC, dI) cI cJ cZ x H.size) rfl (cwI 0 hts gL_law_X8_init rfl rfl rfl (hts (.initialized RX8) (by decide +kernel)) (hts (.methodLink RL 9 yX8_init) (by decide +kernel)) (hts (.instanceMethod yX8_init) (by decide +kernel)) rfl hd_X8_init ⟨(Nat.le_of_ble_eq_true rfl), (Nat.le_of_ble_eq_true rfl)⟩) hl.1 rfl (Nat.le_of_ble_eq_true rfl) dL_law_4 (Nat.le_of_ble_eq_true rfl) (Nat.le_of_ble_eq_true rfl) (fun u t H1 locs ht hB hk1 hFc hS => ?_)
  obtain ⟨uq1, uq2, uq3, uq4, uq5, uq6, uq7, uq8, uq9, uq10, uq11, uq12, uq13, uq14, uq15, uq16, uq17, uq18, uq19, uq20, uq21, uq22, uq23, uq24, uq25, uq26, uq27, uq28, uq29, uq30, uq31, uq32, uq33, hP1, hD1⟩ := hB
  rw [ht] at hP1
  obtain ⟨hP, hD⟩ := join_last (w1 := []) hP hD hk1 hFc hP1 hD1
  generalize H1 = H at hP hS ⊢
  have hP : va_P (dC, dI) vwCl [(x, .inr (8, [.ref uq1, .ref uq5, .ref uq9, .int 0, .ref uq13, .ref uq18, .ref uq23, .ref uq26, .ref uq28, .ref uq30, .ref uq32])), (uq1, .inr (7, [.ref uq2, .ref uq3, .ref uq4, .int 0, .int 0, .int 0, .int 0, .int (5 : Int32), .int 0, .int 0, .int 0, .int 0])), (uq2, .inl (cI, 7, .inl (fun _ => (0 : Int32)))), (uq3, .inl (cI, 7, .inl (fun _ => (0 : Int32)))), (uq4, .inl (cI, 7, .inl (fun _ => (0 : Int32)))), (uq5, .inr (7, [.ref uq6, .ref uq7, .ref uq8, .int 0, .int 0, .int 0, .int 0, .int (5 : Int32), .int 0, .int 0, .int 0, .int 0])), (uq6, .inl (cI, 7, .inl (fun _ => (0 : Int32)))), (uq7, .inl (cI, 7, .inl (fun _ => (0 : Int32)))), (uq8, .inl (cI, 7, .inl (fun _ => (0 : Int32)))), (uq9, .inr (7, [.ref uq10, .ref uq11, .ref uq12, .int 0, .int 0, .int 0, .int 0, .int (5 : Int32), .int 0, .int 0, .int 0, .int 0])), (uq10, .inl (cI, 7, .inl (fun _ => (0 : Int32)))), (uq11, .inl (cI, 7, .inl (fun _ => (0 : Int32)))), (uq12, .inl (cI, 7, .inl (fun _ => (0 : Int32)))), (uq13, .inr (3, [.ref uq14, .int 0, .ref uq15, .ref uq16, .ref uq17, .int 0])), (uq14, .inl (cI, 60, .inl (fun _ => (0 : Int32)))), (uq15, .inl (cI, 60, .inl (fun _ => (0 : Int32)))), (uq16, .inl (cI, 60, .inl (fun _ => (0 : Int32)))), (uq17, .inl (cI, 60, .inl (fun _ => (0 : Int32)))), (uq18, .inr (6, [.ref uq19, .int 0, .int 0, .int 0])), (uq19, .inr (7, [.ref uq20, .ref uq21, .ref uq22, .int 0, .int 0, .int 0, .int 0, .int (5 : Int32), .int 0, .int 0, .int 0, .int 0])), (uq20, .inl (cI, 7, .inl (fun _ => (0 : Int32)))), (uq21, .inl (cI, 7, .inl (fun _ => (0 : Int32)))), (uq22, .inl (cI, 7, .inl (fun _ => (0 : Int32)))), (uq23, .inr (0, [.ref uq24, .ref uq25])), (uq24, .inl (cI, 8, .inl (fun _ => (0 : Int32)))), (uq25, .inl (cI, 8, .inl (fun _ => (0 : Int32)))), (uq26, .inr (4, [.ref uq27])), (uq27, .inl (cI, 8, .inl (fun _ => (0 : Int32)))), (uq28, .inr (2, [.ref uq29, .int 0, .int 0])), (uq29, .inl (cI, 8, .inl (fun _ => (0 : Int32)))), (uq30, .inr (5, [.ref uq31, .int 0])), (uq31, .inl (cI, 201, .inl (fun _ => (0 : Int32)))), (uq32, .inr (1, [.ref uq33, .long 0, .long 0])), (uq33, .inl (cJ, 9, .inr (.inl (fun _ => (0 : Int64)))))] H := hP
  have hD : va_D (fun q : Nat => s.heap.size ≤ q) [(x, .inr (8, [.ref uq1, .ref uq5, .ref uq9, .int 0, .ref uq13, .ref uq18, .ref uq23, .ref uq26, .ref uq28, .ref uq30, .ref uq32])), (uq1, .inr (7, [.ref uq2, .ref uq3, .ref uq4, .int 0, .int 0, .int 0, .int 0, .int (5 : Int32), .int 0, .int 0, .int 0, .int 0])), (uq2, .inl (cI, 7, .inl (fun _ => (0 : Int32)))), (uq3, .inl (cI, 7, .inl (fun _ => (0 : Int32)))), (uq4, .inl (cI, 7, .inl (fun _ => (0 : Int32)))), (uq5, .inr (7, [.ref uq6, .ref uq7, .ref uq8, .int 0, .int 0, .int 0, .int 0, .int (5 : Int32), .int 0, .int 0, .int 0, .int 0])), (uq6, .inl (cI, 7, .inl (fun _ => (0 : Int32)))), (uq7, .inl (cI, 7, .inl (fun _ => (0 : Int32)))), (uq8, .inl (cI, 7, .inl (fun _ => (0 : Int32)))), (uq9, .inr (7, [.ref uq10, .ref uq11, .ref uq12, .int 0, .int 0, .int 0, .int 0, .int (5 : Int32), .int 0, .int 0, .int 0, .int 0])), (uq10, .inl (cI, 7, .inl (fun _ => (0 : Int32)))), (uq11, .inl (cI, 7, .inl (fun _ => (0 : Int32)))), (uq12, .inl (cI, 7, .inl (fun _ => (0 : Int32)))), (uq13, .inr (3, [.ref uq14, .int 0, .ref uq15, .ref uq16, .ref uq17, .int 0])), (uq14, .inl (cI, 60, .inl (fun _ => (0 : Int32)))), (uq15, .inl (cI, 60, .inl (fun _ => (0 : Int32)))), (uq16, .inl (cI, 60, .inl (fun _ => (0 : Int32)))), (uq17, .inl (cI, 60, .inl (fun _ => (0 : Int32)))), (uq18, .inr (6, [.ref uq19, .int 0, .int 0, .int 0])), (uq19, .inr (7, [.ref uq20, .ref uq21, .ref uq22, .int 0, .int 0, .int 0, .int 0, .int (5 : Int32), .int 0, .int 0, .int 0, .int 0])), (uq20, .inl (cI, 7, .inl (fun _ => (0 : Int32)))), (uq21, .inl (cI, 7, .inl (fun _ => (0 : Int32)))), (uq22, .inl (cI, 7, .inl (fun _ => (0 : Int32)))), (uq23, .inr (0, [.ref uq24, .ref uq25])), (uq24, .inl (cI, 8, .inl (fun _ => (0 : Int32)))), (uq25, .inl (cI, 8, .inl (fun _ => (0 : Int32)))), (uq26, .inr (4, [.ref uq27])), (uq27, .inl (cI, 8, .inl (fun _ => (0 : Int32)))), (uq28, .inr (2, [.ref uq29, .int 0, .int 0])), (uq29, .inl (cI, 8, .inl (fun _ => (0 : Int32)))), (uq30, .inr (5, [.ref uq31, .int 0])), (uq31, .inl (cI, 201, .inl (fun _ => (0 : Int32)))), (uq32, .inr (1, [.ref uq33, .long 0, .long 0])), (uq33, .inl (cJ, 9, .inr (.inl (fun _ => (0 : Int64)))))] := hD
  refine lv_astore_n (lv' := [(1, .ref x), (0, .ref b)]) hx hb dL_law_7 rfl hl (by decide) rfl (fun ls hl => ?_)
  refine va_new (ci := 9) (fs := [.null, .null, .int 0, .null, .int 0, .null, .int 0, .null, .int 0, .int 0, .int 0, .int 0, .null, .null, .null, .null, .null, .null, .null]) (C := RX9) (T := TX9) (N := 19) hx hb hts0 inX9 tyX9 tyX9_ok hown (hts (.classLink RL 10 RX9) (by decide +kernel)) (hts (.instantiable RX9 19) (by decide +kernel)) (hts (.initialized RX9) (by decide +kernel)) hK.1 hP hD hS hA rfl (fun j hj => by rcases (show j = 0 ∨ j = 1 ∨ j = 2 ∨ j = 3 ∨ j = 4 ∨ j = 5 ∨ j = 6 ∨ j = 7 ∨ j = 8 ∨ j = 9 ∨ j = 10 ∨ j = 11 ∨ j = 12 ∨ j = 13 ∨ j = 14 ∨ j = 15 ∨ j = 16 ∨ j = 17 ∨ j = 18 by omega) with rfl | rfl | rfl | rfl | rfl | rfl | rfl | rfl | rfl | rfl | rfl | rfl | rfl | rfl | rfl | rfl | rfl | rfl | rfl <;> rfl) (Nat.le_of_ble_eq_true rfl) (Nat.le_of_ble_eq_true rfl) dL_law_8 (fun mo H hP hD hS => ?_)
  refine lv_dup hx hb dL_law_11 rfl ?_
  refine in_callI (k := 34) ⟨hx, hb, hml, hown, hts⟩ hK hP hD hS hA (c_X9_init l (dC, dI) cI cJ cZ mo H.size) rfl (cwI 0 hts gL_law_X9_init rfl rfl rfl (hts (.initialized RX9) (by decide +kernel)) (hts (.methodLink RL 12 yX9_init) (by decide +kernel)) (hts (.instanceMethod yX9_init) (by decide +kernel)) rfl hd_X9_init ⟨(Nat.le_of_ble_eq_true rfl), (Nat.le_of_ble_eq_true rfl)⟩) hl.1 rfl (Nat.le_of_ble_eq_true rfl) dL_law_12 (Nat.le_of_ble_eq_true rfl) (Nat.le_of_ble_eq_true rfl) (fun u t H1 locs ht hB hk1 hFc hS => ?_)
  obtain ⟨wq1, wq2, wq3, wq4, wq5, wq6, wq7, wq8, wq9, wq10, wq11, wq12, hP1, hD1⟩ := hB
  rw [ht] at hP1
  obtain ⟨hP, hD⟩ := join_last hP hD hk1 hFc hP1 hD1
  generalize H1 = H at hP hS ⊢
  have hP : va_P (dC, dI) vwCl [(bX cI cJ cZ x uq1 uq5 uq9 uq13 uq18 uq23 uq26 uq28 uq30 uq32 0), (bW cI cJ cZ uq1 uq2 uq3 uq4 uq2 uq3 uq4 0 0 0 0 (5 : Int32) 0 0 0 0 (fun _ => (0 : Int32)) (fun _ => (0 : Int32)) (fun _ => (0 : Int32))), (bW cI cJ cZ uq5 uq6 uq7 uq8 uq6 uq7 uq8 0 0 0 0 (5 : Int32) 0 0 0 0 (fun _ => (0 : Int32)) (fun _ => (0 : Int32)) (fun _ => (0 : Int32))), (bW cI cJ cZ uq9 uq10 uq11 uq12 uq10 uq11 uq12 0 0 0 0 (5 : Int32) 0 0 0 0 (fun _ => (0 : Int32)) (fun _ => (0 : Int32)) (fun _ => (0 : Int32))), (bPD cI cJ cZ uq13 uq14 uq15 uq16 uq17 uq14 uq15 uq16 uq17 0 0 (fun _ => (0 : Int32)) (fun _ => (0 : Int32)) (fun _ => (0 : Int32)) (fun _ => (0 : Int32))), (bWK cI cJ cZ uq18 uq19 0 0 0), (bW cI cJ cZ uq19 uq20 uq21 uq22 uq20 uq21 uq22 0 0 0 0 (5 : Int32) 0 0 0 0 (fun _ => (0 : Int32)) (fun _ => (0 : Int32)) (fun _ => (0 : Int32))), (bAG cI cJ cZ uq23 uq24 uq25 uq24 uq25 (fun _ => (0 : Int32)) (fun _ => (0 : Int32))), (bPP cI cJ cZ uq26 uq27 uq27 (fun _ => (0 : Int32))), (bGS cI cJ cZ uq28 uq29 uq29 0 0 (fun _ => (0 : Int32))), (bSQ cI cJ cZ uq30 uq31 uq31 0 (fun _ => (0 : Int32))), (bCH cI cJ cZ uq32 uq33 uq33 0 0 (fun _ => (0 : Int64))), (bMO cI cJ cZ mo wq1 wq2 wq3 wq4 wq5 wq6 wq7 wq8 wq9 wq10 wq11 wq12 wq1 wq2 wq3 wq4 wq5 wq6 wq7 wq8 wq9 wq10 wq11 wq12 0 0 0 0 0 0 0 (upd (fun _ => (0 : Int32)) 17 (5 : Int32)) (fun _ => (0 : Int32)) (fun _ => (0 : Int32)) (fun _ => (0 : Int32)) (fun _ => (0 : Int32)) (fun _ => (0 : Int32)) (fun _ => (0 : Int32)) (fun _ => (0 : Int32)) (fun _ => (0 : Int32)) (fun _ => (0 : Int64)) (fun _ => (0 : Int32)) (fun _ => (0 : Int32)))].flatten H := hP
  have hD : va_D (fun q : Nat => s.heap.size ≤ q) [(bX cI cJ cZ x uq1 uq5 uq9 uq13 uq18 uq23 uq26 uq28 uq30 uq32 0), (bW cI cJ cZ uq1 uq2 uq3 uq4 uq2 uq3 uq4 0 0 0 0 (5 : Int32) 0 0 0 0 (fun _ => (0 : Int32)) (fun _ => (0 : Int32)) (fun _ => (0 : Int32))), (bW cI cJ cZ uq5 uq6 uq7 uq8 uq6 uq7 uq8 0 0 0 0 (5 : Int32) 0 0 0 0 (fun _ => (0 : Int32)) (fun _ => (0 : Int32)) (fun _ => (0 : Int32))), (bW cI cJ cZ uq9 uq10 uq11 uq12 uq10 uq11 uq12 0 0 0 0 (5 : Int32) 0 0 0 0 (fun _ => (0 : Int32)) (fun _ => (0 : Int32)) (fun _ => (0 : Int32))), (bPD cI cJ cZ uq13 uq14 uq15 uq16 uq17 uq14 uq15 uq16 uq17 0 0 (fun _ => (0 : Int32)) (fun _ => (0 : Int32)) (fun _ => (0 : Int32)) (fun _ => (0 : Int32))), (bWK cI cJ cZ uq18 uq19 0 0 0), (bW cI cJ cZ uq19 uq20 uq21 uq22 uq20 uq21 uq22 0 0 0 0 (5 : Int32) 0 0 0 0 (fun _ => (0 : Int32)) (fun _ => (0 : Int32)) (fun _ => (0 : Int32))), (bAG cI cJ cZ uq23 uq24 uq25 uq24 uq25 (fun _ => (0 : Int32)) (fun _ => (0 : Int32))), (bPP cI cJ cZ uq26 uq27 uq27 (fun _ => (0 : Int32))), (bGS cI cJ cZ uq28 uq29 uq29 0 0 (fun _ => (0 : Int32))), (bSQ cI cJ cZ uq30 uq31 uq31 0 (fun _ => (0 : Int32))), (bCH cI cJ cZ uq32 uq33 uq33 0 0 (fun _ => (0 : Int64))), (bMO cI cJ cZ mo wq1 wq2 wq3 wq4 wq5 wq6 wq7 wq8 wq9 wq10 wq11 wq12 wq1 wq2 wq3 wq4 wq5 wq6 wq7 wq8 wq9 wq10 wq11 wq12 0 0 0 0 0 0 0 (upd (fun _ => (0 : Int32)) 17 (5 : Int32)) (fun _ => (0 : Int32)) (fun _ => (0 : Int32)) (fun _ => (0 : Int32)) (fun _ => (0 : Int32)) (fun _ => (0 : Int32)) (fun _ => (0 : Int32)) (fun _ => (0 : Int32)) (fun _ => (0 : Int32)) (fun _ => (0 : Int64)) (fun _ => (0 : Int32)) (fun _ => (0 : Int32)))].flatten := hD
  refine lv_astore_n (lv' := [(2, .ref mo), (1, .ref x), (0, .ref b)]) hx hb dL_law_15 rfl hl (by decide) rfl (fun ls hl => ?_)
  refine lv_iconst (v := (0 : Int32)) hx hb dL_law_16 (by decide) ?_
  refine lv_istore_n (lv' := [(3, .int (0 : Int32)), (2, .ref mo), (1, .ref x), (0, .ref b)]) hx hb dL_law_17 rfl hl (by decide) rfl (fun ls hl => ?_)
  exact law_loop l LC0 hr hlocks (L + 1) 0 (Nat.zero_le L) (by omega) _ _ _ _ _ _ _ _ _ _ _ _ _ _ _ _ _ _ _ _ _ _ _ _ _ _ _ _ _ _ _ _ _ _ _ _ _ _ _ _ _ _ _ _ _ _ _ _ _ _ _ _ _ _ _ _ _ _ 0 _ _ _ _ _ _ _ _ _ _ _ _ _ _ _ _ _ _ _ _ _ _ _ _ _ _ _ _ _ _ _ _ _ _ _ _ _ _ 0 _ _ _ _ _ _ _ _ _ _ 0 _ 0 _ _ _ _ _ _ _ _ _ _ _ _ _ _ _ _ _ _ _ _ _ _ _ _ H _ ls lr_init hP hD hS hl
set_option maxHeartbeats 4000000 in
theorem lw_walk (l : Launch) (hflags : l.flags = flags0) (b : Addr) (xs : List Int32) : MetFree l x (headSpec (Jvm.Cond.code x code maxLocals ret :: tables_1) room_1) (lw_P b xs) (fun _ _ _ _ _ => True) lw_Q := by
  refine MetFree.of_bodyS (code := code) (maxLocals := maxLocals) (ret := ret) (by decide) ?_ ?_
  · intro args s m h hn
    obtain ⟨meth, c, h1, h2, h3, h4, h5, h6, -, -⟩ := Cond.code_spec hn (atoms_spec (ws := Jvm.Cond.code x code maxLocals ret :: tables_1) h _ List.mem_cons_self)
    exact ⟨meth, c, h1, h2, h3, h4, h5, h6⟩
  · intro p e s m args below meth c s₁ B hml0 hP _
    obtain ⟨rfl, hx, hbd, hgv⟩ := hP
    obtain ⟨scr, harrAt, hlist, hof, hsmall⟩ := hx
    obtain ⟨hcb, hkn, -, -⟩ := State.arrayAt?_spec harrAt
    have hown : s.vm.findClass R_law = some m.cls := findClass_of_methodNamed B.named
    have hts0 : ∀ c ∈ (Jvm.Cond.code x code maxLocals ret :: tables_1), c.before #[Value.ref b] s = true := atoms_spec (ws := Jvm.Cond.code x code maxLocals ret :: tables_1) B.pre
    have hts : ∀ w ∈ lw_tbl, w.before #[Value.ref b] s = true := k2_hts_sels lw_privs (fun w hw => hts0 w (List.mem_cons_of_mem _ hw)) lw_privs_ok
    have hml : c.maxLocals = 4 := B.maxLocals_eq (hts0 _ List.mem_cons_self)
    have X₀ : Stand p l e room_1 s m #[Value.ref b] below meth c s₁ [] 0 0 := Stand.of_body B
    have hh0 : s₁.heap = s.heap := by rw [B.state]; rfl
    have hsz : scr.slots.size = xs.length := by rw [← Array.length_toList, hlist, List.length_map]
    have hval : ∀ j : Nat, j < xs.length → scr.slots[j]? = some (.int (xs.getD j 0)) := fun j hj => by
      rw [← Array.getElem?_toList, hlist]
      simp [hj]
    have hbl : b < s.heap.size := (Array.getElem?_eq_some_iff.mp hcb).1
    have hX : va_X b xs.length (fun j => xs.getD j 0) s s.heap := ⟨scr, hcb, hof, hkn, hsz, hval⟩
    have K : W p l e room_1 s m #[Value.ref b] below meth c s₁.heap [] 0 0 (lw_Z below #[Value.ref b] s) (entryFrame m ([Value.ref b] : List Value).toArray 4) := by
      rw [hh0]
      exact whole_start l hflags hbd ⟨B.exec, B.bytes, B.returns, hml, hown, hts, hX, hbl, B.notSynchronized, hgv⟩
    obtain ⟨t, a1, o, b1, b2, b3⟩ := K s₁ rfl X₀
    exact ⟨t, o, a1, b1, b2, b3⟩
theorem lw_pre_spec {args : Array Value} {s : State} (h : (Jvm.Cond.and given_1 narrow_1).before args s = true) (hr : rest_1_c.before args s = true) : ∃ (b : Addr) (xs : List Int32), lw_P b xs args s := by
  have hs := flat_of_before _ h
  have hq := flat_of_before _ hr
  have hc : (Cond.count 1).before args s = true := hs _ (by decide +kernel)
  have harr : (Cond.arrayOf (.arg 0) .int).before args s = true := hs _ (by decide +kernel)
  have hle : (Cond.le (.length (.arg 0)) (.int 320)).before args s = true := hs _ (by decide +kernel)
  have hlen : (Cond.isInt (.length (.arg 0))).before args s = true := hq _ (by decide +kernel)
  have hall : (Cond.all (.arg 0) (.isInt (.elem (.arg 0) (.index 0)))).before args s = true := hq _ (by decide +kernel)
  obtain ⟨b, xs, hb, hx⟩ := State.ints_of_pre rfl harr hlen hall
  have hsm : xs.length < 2 ^ 31 := hx.choose_spec.2.2.2
  have hev : (Term.length (.arg 0)).eval args s none [] s = some (.int xs.length.toInt32) := hx.length_eval hb
  have hv := Cond.le_ints hev (show (Term.int 320).eval args s none [] s = some (.int 320) from rfl)
  have hd : xs.length.toInt32 ≤ 320 := by
    simpa [Cond.before, Cond.holds, hv] using hle
  have hN : xs.length ≤ 320 := (Int32.ofNat_le_ofNat hsm (by decide)).mp (show Int32.ofNat xs.length ≤ Int32.ofNat 320 from hd)
  exact ⟨b, xs, Cond.one_arg hc (show args[0]? = some (.ref b) from hb), hx, hN, h⟩
theorem lw_comes (l : Launch) (hflags : l.flags = flags0) : Comes l x (Jvm.Cond.code x code maxLocals ret :: tables_1) room_1 (fun tb e args s => Calls_1 tb e args s ∧ rest_1 tb e args s ∧ Pre_1 tb e args s)
    (fun _ _ args s o t => lw_Q args s o t) := by
  intro p e ha hc hk s m args below hf hfit hheap happ hpre
  obtain ⟨b, xs, hP⟩ := lw_pre_spec hpre.2.2 hpre.2.1
  obtain ⟨k, o, h1, h2, h3, hQ⟩ := lw_walk l hflags b xs p e ha hc hk s m args below hf ((Spec.applies_iff_loose hf).mp happ).1 hP trivial
  exact ⟨k, o, h1, h2, h3, hQ⟩
theorem lw_frame {s t : State} {o : Outcome} {args : Array Value} (h : Framed s o t [] 600000 7302249) :
    Framed s o t (fieldLocs frame_1_writes args s ++ arrayLocs frame_1_arrays args s ++ staticLocs frame_1_statics s) 600000 7302249 := h
theorem lw_limb (L : Cond) (hL : ∀ (args : Array Value) (s t : State), L.after args s (.returned (some (.int 1))) t = true) :
    ArmFor flags0 classFile x code maxLocals ret World_1 tables_1 room_1 Calls_1 rest_1 Pre_1
      (fun tb e a s o t => postC L tb e a s o t ∧ Framed s o t (fieldLocs frame_1_writes a s ++ arrayLocs frame_1_arrays a s ++ staticLocs frame_1_statics s) 600000 7302249) := by
  intro l hflags _ _ p e ha hc hk s m args below hf hfit hheap happ hpre
  obtain ⟨k, o, h1, h2, h3, rfl, hF⟩ := lw_comes l hflags p e ha hc hk s m args below hf hfit hheap happ hpre
  exact ⟨k, _, h1, h2, h3, hL args s _, lw_frame hF⟩
theorem i_vc : Claimed_1_1 ∧ Claimed_1_2 := ⟨lw_limb limb_1_1 (fun args s t => by simp [limb_1_1, Cond.after, Cond.holds, Cond.value]), lw_limb limb_1_2 (fun args s t => Cond.after_iff.mpr (by
  first | (rw [show limb_1_2 = Cond.eq .result (.int 1) from rfl, Cond.eq_ints (x := 1) (y := 1) rfl rfl]; simp; done) | (simp [limb_1_2, Cond.value, Term.eval]; done)))⟩
