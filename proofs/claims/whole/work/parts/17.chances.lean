theorem lg_ne {x y : Int64} (h : ¬ lg_cmp x y = 0) : ¬ x = y := by
  intro e
  apply h
  subst e
  unfold lg_cmp
  rw [if_neg (by rw [gt_iff_lt]; exact Int64.lt_irrefl), if_pos rfl]

def lp_X1_commonDivisor_9 : Nat → Nat → Int64 → Int64 → Int64 × Int64
  | 0, _, v4_9, v6_9 => (v4_9, v6_9)
  | k9 + 1, i9, v4_9, v6_9 => (if ((lg_cmp v6_9 (0 : Int64)) = 0) then (v4_9, v6_9) else (lp_X1_commonDivisor_9 k9 (i9 + 1) v6_9 (v4_9 - v4_9 / v6_9 * v6_9)))
def f_X1_commonDivisor (xa : Int64) (xb : Int64) : Int64 :=
  (lp_X1_commonDivisor_9 1000 0 xa xb).1
set_option maxHeartbeats 4000000 in
set_option maxRecDepth 100000 in
theorem c_X1_commonDivisor (l : Launch) (D : va_G) (cI cJ cZ : ClassId) (xa : Int64) (xb : Int64) : RO l yX1_commonDivisor wsX1_commonDivisor ({ frames := 0, cells := 0, slots := 0, locals := 0 }) [.long xa, .long xb] D cI cJ cZ [] (.long (f_X1_commonDivisor xa xb)) := by
  obtain ⟨R, hR⟩ : ∃ R, (f_X1_commonDivisor xa xb) = R := ⟨_, rfl⟩
  rw [hR]
  refine ro_start (cc := cX1_commonDivisor) (maxL := 11) (ret := (some .long)) (by decide) rfl (Nat.le_of_ble_eq_true rfl) ?_
  intro p e s m args below meth c hx hb hr hml hown hts hlocks hP hK ls hl
  have hown : s.vm.findClass RX1 = some m.cls := hown
  have hl : lv_has ls 11 [(0, .long xa), (2, .long xb)] := hl
  rw [f_X1_commonDivisor] at hR
  refine lv_lload_n hx hb dX1_commonDivisor_0 rfl (lv_at hl 0 rfl) ?_
  refine lv_lstore (lv' := [(4, .long xa), (0, .long xa), (2, .long xb)]) hx hb dX1_commonDivisor_1 hl (by decide) rfl (fun ls hl => ?_)
  refine lv_lload_n hx hb dX1_commonDivisor_3 rfl (lv_at hl 2 rfl) ?_
  refine lv_lstore (lv' := [(6, .long xb), (4, .long xa), (0, .long xa), (2, .long xb)]) hx hb dX1_commonDivisor_4 hl (by decide) rfl (fun ls hl => ?_)
  refine lv_iconst (v := (0 : Int32)) hx hb dX1_commonDivisor_6 (by decide) ?_
  refine lv_istore (lv' := [(8, .int (0 : Int32)), (6, .long xb), (4, .long xa), (0, .long xa), (2, .long xb)]) hx hb dX1_commonDivisor_7 hl (by decide) rfl (fun ls hl => ?_)
  obtain ⟨F9_1, hF9_1⟩ : ∃ x, (lp_X1_commonDivisor_9 1000 0 xa xb) = x := ⟨_, rfl⟩
  try rw [hF9_1] at hR
  have hexit9 : ∀ (ls : Array Slot), lv_has ls 11 [(6, .long F9_1.2), (4, .long F9_1.1), (0, .long xa), (2, .long xb)] → W p l e ({ frames := 0, cells := 0, slots := 0, locals := 0 }) s m args below meth c s.heap [] 0 0 (MQ below (ro_Q (.long R)) args s 0 0 (fun _ => False)) (F0 m 45 ls []) := by
    intro ls hl
    refine lv_lload hx hb dX1_commonDivisor_45 (lv_at hl 1 rfl) ?_
    subst hR
    exact ro_lret hx hb hr hlocks dX1_commonDivisor_47
  have hloop9 : ∀ (k9 i9 : Nat) (v4_9 : Int64) (v6_9 : Int64), i9 + k9 = 1000 → ∀ (ls : Array Slot), lv_has ls 11 [(8, .int (nI i9)), (6, .long v6_9), (4, .long v4_9), (0, .long xa), (2, .long xb)] → lp_X1_commonDivisor_9 k9 i9 v4_9 v6_9 = F9_1 → W p l e ({ frames := 0, cells := 0, slots := 0, locals := 0 }) s m args below meth c s.heap [] 0 0 (MQ below (ro_Q (.long R)) args s 0 0 (fun _ => False)) (F0 m 9 ls []) := by
    intro k9
    induction k9 with
    | zero =>
      intro i9 v4_9 v6_9 h9  ls hl hR
      obtain rfl : 1000 = i9 := by omega
      rw [lp_X1_commonDivisor_9] at hR
      refine lv_iload hx hb dX1_commonDivisor_9 (lv_at hl 0 rfl) ?_
      refine lv_sipush (v := (1000 : Int32)) hx hb dX1_commonDivisor_11 (by decide +kernel) ?_
      refine lv_icmp_ge (tgt := 45) hx hb dX1_commonDivisor_14 (by decide) (fun _ => ?_) (fun h => absurd (cle_t (a := 1000) (b := 1000) rfl rfl (by omega) (by omega)) h)
      subst hR
      exact hexit9 _ (lv_sub hl [1, 2, 3, 4] rfl)
    | succ k9 ih9 =>
      intro i9 v4_9 v6_9 h9  ls hl hR
      rw [lp_X1_commonDivisor_9] at hR
      refine lv_iload hx hb dX1_commonDivisor_9 (lv_at hl 0 rfl) ?_
      refine lv_sipush (v := (1000 : Int32)) hx hb dX1_commonDivisor_11 (by decide +kernel) ?_
      refine lv_icmp_ge (tgt := 45) hx hb dX1_commonDivisor_14 (by decide) (fun h => absurd h (cle_f (a := 1000) (b := i9) rfl rfl (by omega) (by omega))) (fun _ => ?_)
      refine lv_lload hx hb dX1_commonDivisor_17 (lv_at hl 1 rfl) ?_
      refine lv_lconst (v := (0 : Int64)) hx hb dX1_commonDivisor_19 (by decide) ?_
      refine W.lcmp hx hb dX1_commonDivisor_20 ?_
      refine lv_if_eq (tgt := 45) hx hb dX1_commonDivisor_21 (by decide) (fun c21 => ?_) (fun c21 => ?_)
      · rw [if_pos c21] at hR
        subst hR
        exact hexit9 _ (lv_sub hl [1, 2, 3, 4] rfl)
      · rw [if_neg c21] at hR
        refine lv_lload hx hb dX1_commonDivisor_24 (lv_at hl 2 rfl) ?_
        refine lv_lload hx hb dX1_commonDivisor_26 (lv_at hl 1 rfl) ?_
        refine lv_lrem hx hb dX1_commonDivisor_28 (lg_ne c21) ?_
        refine lv_lstore (lv' := [(9, .long (v4_9 - v4_9 / v6_9 * v6_9)), (8, .int (nI i9)), (6, .long v6_9), (4, .long v4_9), (0, .long xa), (2, .long xb)]) hx hb dX1_commonDivisor_29 hl (by decide) rfl (fun ls hl => ?_)
        refine lv_lload hx hb dX1_commonDivisor_31 (lv_at hl 2 rfl) ?_
        refine lv_lstore (lv' := [(4, .long v6_9), (9, .long (v4_9 - v4_9 / v6_9 * v6_9)), (8, .int (nI i9)), (6, .long v6_9), (0, .long xa), (2, .long xb)]) hx hb dX1_commonDivisor_33 hl (by decide) rfl (fun ls hl => ?_)
        refine lv_lload hx hb dX1_commonDivisor_35 (lv_at hl 1 rfl) ?_
        refine lv_lstore (lv' := [(6, .long (v4_9 - v4_9 / v6_9 * v6_9)), (4, .long v6_9), (9, .long (v4_9 - v4_9 / v6_9 * v6_9)), (8, .int (nI i9)), (0, .long xa), (2, .long xb)]) hx hb dX1_commonDivisor_37 hl (by decide) rfl (fun ls hl => ?_)
        refine lv_iinc (v := (nI (i9 + 1))) (lv' := [(8, .int (nI (i9 + 1))), (6, .long (v4_9 - v4_9 / v6_9 * v6_9)), (4, .long v6_9), (9, .long (v4_9 - v4_9 / v6_9 * v6_9)), (0, .long xa), (2, .long xb)]) hx hb dX1_commonDivisor_39 hl (k := 3) rfl (by exact nI_add i9 1) (by decide) rfl (fun ls hl => ?_)
        refine lv_goto (tgt := 9) hx hb dX1_commonDivisor_42 (by decide) ?_
        exact ih9 _ _ _ (by omega) _ (lv_sub hl [0, 1, 2, 4, 5] rfl) hR
  exact hloop9 1000 0 _ _ (by omega) _ hl hF9_1


theorem in_X1_countHours_X1 : ∀ w ∈ u_ws RX1 TX1 3, w ∈ wsX1_countHours := by decide +kernel
def lp_X1_countHours_14 : Nat → Nat → (Nat → Int64) → (Nat → Int64)
  | 0, _, r1_14 => r1_14
  | k14 + 1, i14, r1_14 => (lp_X1_countHours_14 k14 (i14 + 1) (vp_updL r1_14 i14 (0 : Int64)))
def lp_X1_countHours_59 (xm : Nat) : Nat → (Nat → Int64) → (Nat → Int64)
  | 0, r1_59 => r1_59
  | k59 + 1, r1_59 => (lp_X1_countHours_59 xm k59 (vp_updL r1_59 (k59 + 1) ((((nI (k59 + 1)).toInt64) * (r1_59 (k59 + 1))) + (((((nI xm) - (nI (k59 + 1))) + (1 : Int32)).toInt64) * (r1_59 ((k59 + 1) - 1))))))
def lp_X1_countHours_50 (xm : Nat) : Nat → Nat → Int64 → (Nat → Int64) → Int64 × (Nat → Int64)
  | 0, _, u0_2_50, r1_50 => (u0_2_50, r1_50)
  | k50 + 1, i50, u0_2_50, r1_50 => (lp_X1_countHours_50 xm k50 (i50 + 1) (u0_2_50 * ((nI xm).toInt64)) (vp_updL (lp_X1_countHours_59 xm xm r1_50) 0 (0 : Int64)))
def f_X1_countHours (ch_courses : Nat → Int64) (xm : Nat) (xn : Nat) : Int64 × Int64 × (Nat → Int64) :=
  (((lp_X1_countHours_50 xm xn 0 (1 : Int64) (vp_updL (lp_X1_countHours_14 9 0 ch_courses) 0 (1 : Int64))).2 xm), (lp_X1_countHours_50 xm xn 0 (1 : Int64) (vp_updL (lp_X1_countHours_14 9 0 ch_courses) 0 (1 : Int64))).1, (lp_X1_countHours_50 xm xn 0 (1 : Int64) (vp_updL (lp_X1_countHours_14 9 0 ch_courses) 0 (1 : Int64))).2)
set_option maxHeartbeats 4000000 in
set_option maxRecDepth 100000 in
theorem c_X1_countHours (l : Launch) (D : va_G) (cI cJ cZ : ClassId) (ch : Nat) (ch_courses_a : Nat) (ch_upper : Int64) (ch_lower : Int64) (ch_courses : Nat → Int64) (xm : Nat) (xn : Nat) (hm1 : 1 ≤ xm) (hm8 : xm ≤ 8) (hn16 : xn ≤ 16) : RW l yX1_countHours wsX1_countHours ({ frames := 1, cells := 0, slots := 0, locals := 21 }) [.ref ch, .int (nI xm), .int (nI xn)] D cI cJ cZ [(ch, .inr (1, [.ref ch_courses_a, .long ch_upper, .long ch_lower])), (ch_courses_a, .inl (cJ, 9, .inr (.inl ch_courses)))] none [(ch, .inr (1, [.ref ch_courses_a, .long ((f_X1_countHours ch_courses xm xn).1), .long ((f_X1_countHours ch_courses xm xn).2.1)])), (ch_courses_a, .inl (cJ, 9, .inr (.inl ((f_X1_countHours ch_courses xm xn).2.2))))] := by
  obtain ⟨R0, R1, R2, hR⟩ := prodE3 (f_X1_countHours ch_courses xm xn)
  rw [hR]
  dsimp only
  refine rw_start (cc := cX1_countHours) (maxL := 6) (ret := none) (by decide) rfl (Nat.le_of_ble_eq_true rfl) ?_
  intro p e s m args below meth c hx hb hr hml hown hts hlocks hP hD hS hK ls hl
  have hown : s.vm.findClass RX1 = some m.cls := hown
  have hl : lv_has ls 6 [(0, .ref ch), (1, .int (nI xm)), (2, .int (nI xn))] := hl
  have hq0 := hts (.methodLink RX1 15 Lib.Math.min.name) (by decide +kernel)
  have hq1 := hts (.static Lib.Math.min.name) (by decide +kernel)
  have hq2 := hts (.initialized "java/lang/Math") (by decide +kernel)
  have hq3 := hts (.code Lib.Math.min.name Lib.Math.min.code 2 (some .int)) (by decide +kernel)
  have hq4 := hts (.methodLink RX1 21 Lib.Math.max.name) (by decide +kernel)
  have hq5 := hts (.static Lib.Math.max.name) (by decide +kernel)
  have hq6 := hts (.code Lib.Math.max.name Lib.Math.max.code 2 (some .int)) (by decide +kernel)
  have hq7 := hts (.fieldLink RX1 9 "StuckVanes$Chances" "courses" "[J") (by decide +kernel)
  have hq8 := hts (.fieldLink RX1 24 "StuckVanes$Chances" "lower" "J") (by decide +kernel)
  have hq9 := hts (.fieldLink RX1 28 "StuckVanes$Chances" "upper" "J") (by decide +kernel)
  rw [f_X1_countHours] at hR
  refine lv_iconst (v := (0 : Int32)) hx hb dX1_countHours_0 (by decide) ?_
  refine lv_iload_n hx hb dX1_countHours_1 rfl (lv_at hl 1 rfl) ?_
  refine lv_bipush (v := (8 : Int32)) hx hb dX1_countHours_2 (by decide +kernel) ?_
  refine va_mmin (rest := [.int (0 : Int32)]) hx hb (hml.trans hl.1.symm) hown hq0 hq1 hq2 hq3 (Nat.le_of_ble_eq_true rfl) (Nat.le_of_ble_eq_true rfl) (Nat.zero_le _) (Nat.zero_le _) dX1_countHours_4 ?_
  rw [show (if (8 : Int32) < (nI xm) then (8 : Int32) else (nI xm)) = (nI xm) from if_neg (clt_f (a := 8) (b := xm) rfl rfl (by omega) (by omega))]
  refine va_mmax (rest := []) hx hb (hml.trans hl.1.symm) hown hq4 hq5 hq2 hq6 (Nat.le_of_ble_eq_true rfl) (Nat.le_of_ble_eq_true rfl) (Nat.zero_le _) (Nat.zero_le _) dX1_countHours_7 ?_
  rw [show (if (0 : Int32) < (nI xm) then (nI xm) else (0 : Int32)) = (nI xm) from if_pos (clt_t (a := 0) (b := xm) rfl rfl (by omega) (by omega))]
  refine lv_istore_n (lv' := [(3, .int (nI xm)), (0, .ref ch), (1, .int (nI xm)), (2, .int (nI xn))]) hx hb dX1_countHours_10 rfl hl (by decide) rfl (fun ls hl => ?_)
  refine lv_iconst (v := (0 : Int32)) hx hb dX1_countHours_11 (by decide) ?_
  refine lv_istore (lv' := [(4, .int (0 : Int32)), (3, .int (nI xm)), (0, .ref ch), (1, .int (nI xm)), (2, .int (nI xn))]) hx hb dX1_countHours_12 hl (by decide) rfl (fun ls hl => ?_)
  obtain ⟨F14_1, hF14_1⟩ : ∃ x, (lp_X1_countHours_14 9 0 ch_courses) = x := ⟨_, rfl⟩
  try rw [hF14_1] at hR
  have hexit14 : ∀ (H : Heap) (locs : List Loc), va_P D vwCl [(ch, .inr (1, [.ref ch_courses_a, .long ch_upper, .long ch_lower])), (ch_courses_a, .inl (cJ, 9, .inr (.inl F14_1)))] H → va_D (va_In [(ch, .inr (1, [.ref ch_courses_a, .long ch_upper, .long ch_lower])), (ch_courses_a, .inl (cJ, 9, .inr (.inl ch_courses)))]) [(ch, .inr (1, [.ref ch_courses_a, .long ch_upper, .long ch_lower])), (ch_courses_a, .inl (cJ, 9, .inr (.inl F14_1)))] → va_S (va_In [(ch, .inr (1, [.ref ch_courses_a, .long ch_upper, .long ch_lower])), (ch_courses_a, .inl (cJ, 9, .inr (.inl ch_courses)))]) s.heap H locs → ∀ (ls : Array Slot), lv_has ls 6 [(3, .int (nI xm)), (0, .ref ch), (1, .int (nI xm)), (2, .int (nI xn))] → W p l e ({ frames := 1, cells := 0, slots := 0, locals := 21 }) s m args below meth c H locs 0 0 (MQ below (rw_Q D none [(ch, .inr (1, [.ref ch_courses_a, .long ch_upper, .long ch_lower])), (ch_courses_a, .inl (cJ, 9, .inr (.inl ch_courses)))] [(ch, .inr (1, [.ref ch_courses_a, .long R0, .long R1])), (ch_courses_a, .inl (cJ, 9, .inr (.inl R2)))]) args s 0 0 (va_In [(ch, .inr (1, [.ref ch_courses_a, .long ch_upper, .long ch_lower])), (ch_courses_a, .inl (cJ, 9, .inr (.inl ch_courses)))])) (F0 m 35 ls []) := by
    intro H locs hP hD hS ls hl
    refine lv_aload_n hx hb dX1_countHours_35 rfl (lv_at hl 1 rfl) ?_
    refine va_get (D := D) (ci := 1) (v := .ref ch_courses_a) (C := RX1) (T := TX1) (N := 3) hx hb hts in_X1_countHours_X1 hown hK.1 hP 0 rfl rfl 0 (by decide) hq7 (fun _ h9 => h9) rfl dX1_countHours_36 ?_
    refine lv_iconst (v := (0 : Int32)) hx hb dX1_countHours_39 (by decide) ?_
    refine lv_lconst (v := (1 : Int64)) hx hb dX1_countHours_40 (by decide) ?_
    refine la_st hx hb hK hP hD hS 1 rfl (i := 0) (by omega) (by decide) dX1_countHours_41 (fun H locs hP hD hS => ?_)
    have hP : va_P D vwCl [(ch, .inr (1, [.ref ch_courses_a, .long ch_upper, .long ch_lower])), (ch_courses_a, .inl (cJ, 9, .inr (.inl (vp_updL F14_1 0 (1 : Int64)))))] H := hP
    have hD : va_D _ [(ch, .inr (1, [.ref ch_courses_a, .long ch_upper, .long ch_lower])), (ch_courses_a, .inl (cJ, 9, .inr (.inl (vp_updL F14_1 0 (1 : Int64)))))] := hD
    refine lv_aload_n hx hb dX1_countHours_42 rfl (lv_at hl 1 rfl) ?_
    refine lv_lconst (v := (1 : Int64)) hx hb dX1_countHours_43 (by decide) ?_
    refine va_put (D := D) (ci := 1) (v := .long (1 : Int64)) (ty := .long) (C := RX1) (T := TX1) (N := 3) hx hb hts in_X1_countHours_X1 tyX1 tyX1_ok nmX1 hown hK.1 hP hD hS 0 rfl rfl 2 (by decide) hq8 (fun _ h9 => h9) rfl (by decide +kernel) rfl rfl (Nat.le_of_ble_eq_true rfl) dX1_countHours_44 (fun H locs hP hD hS => ?_)
    have hP : va_P D vwCl [(ch, .inr (1, [.ref ch_courses_a, .long ch_upper, .long (1 : Int64)])), (ch_courses_a, .inl (cJ, 9, .inr (.inl (vp_updL F14_1 0 (1 : Int64)))))] H := hP
    have hD : va_D _ [(ch, .inr (1, [.ref ch_courses_a, .long ch_upper, .long (1 : Int64)])), (ch_courses_a, .inl (cJ, 9, .inr (.inl (vp_updL F14_1 0 (1 : Int64)))))] := hD
    refine lv_iconst (v := (0 : Int32)) hx hb dX1_countHours_47 (by decide) ?_
    refine lv_istore (lv' := [(4, .int (0 : Int32)), (3, .int (nI xm)), (0, .ref ch), (1, .int (nI xm)), (2, .int (nI xn))]) hx hb dX1_countHours_48 hl (by decide) rfl (fun ls hl => ?_)
    obtain ⟨F50_2, hF50_2⟩ : ∃ x, (lp_X1_countHours_50 xm xn 0 (1 : Int64) (vp_updL F14_1 0 (1 : Int64))) = x := ⟨_, rfl⟩
    try rw [hF50_2] at hR
    have hexit50 : ∀ (H : Heap) (locs : List Loc), va_P D vwCl [(ch, .inr (1, [.ref ch_courses_a, .long ch_upper, .long F50_2.1])), (ch_courses_a, .inl (cJ, 9, .inr (.inl F50_2.2)))] H → va_D (va_In [(ch, .inr (1, [.ref ch_courses_a, .long ch_upper, .long ch_lower])), (ch_courses_a, .inl (cJ, 9, .inr (.inl ch_courses)))]) [(ch, .inr (1, [.ref ch_courses_a, .long ch_upper, .long F50_2.1])), (ch_courses_a, .inl (cJ, 9, .inr (.inl F50_2.2)))] → va_S (va_In [(ch, .inr (1, [.ref ch_courses_a, .long ch_upper, .long ch_lower])), (ch_courses_a, .inl (cJ, 9, .inr (.inl ch_courses)))]) s.heap H locs → ∀ (ls : Array Slot), lv_has ls 6 [(3, .int (nI xm)), (0, .ref ch), (1, .int (nI xm)), (2, .int (nI xn))] → W p l e ({ frames := 1, cells := 0, slots := 0, locals := 21 }) s m args below meth c H locs 0 0 (MQ below (rw_Q D none [(ch, .inr (1, [.ref ch_courses_a, .long ch_upper, .long ch_lower])), (ch_courses_a, .inl (cJ, 9, .inr (.inl ch_courses)))] [(ch, .inr (1, [.ref ch_courses_a, .long R0, .long R1])), (ch_courses_a, .inl (cJ, 9, .inr (.inl R2)))]) args s 0 0 (va_In [(ch, .inr (1, [.ref ch_courses_a, .long ch_upper, .long ch_lower])), (ch_courses_a, .inl (cJ, 9, .inr (.inl ch_courses)))])) (F0 m 130 ls []) := by
      intro H locs hP hD hS ls hl
      refine lv_aload_n hx hb dX1_countHours_130 rfl (lv_at hl 1 rfl) ?_
      refine lv_aload_n hx hb dX1_countHours_131 rfl (lv_at hl 1 rfl) ?_
      refine va_get (D := D) (ci := 1) (v := .ref ch_courses_a) (C := RX1) (T := TX1) (N := 3) hx hb hts in_X1_countHours_X1 hown hK.1 hP 0 rfl rfl 0 (by decide) hq7 (fun _ h9 => h9) rfl dX1_countHours_132 ?_
      refine lv_iload_n hx hb dX1_countHours_135 rfl (lv_at hl 0 rfl) ?_
      refine la_ld hx hb hK hP 1 rfl (i := xm) (by omega) (by decide) dX1_countHours_136 ?_
      refine va_put (D := D) (ci := 1) (v := .long (F50_2.2 xm)) (ty := .long) (C := RX1) (T := TX1) (N := 3) hx hb hts in_X1_countHours_X1 tyX1 tyX1_ok nmX1 hown hK.1 hP hD hS 0 rfl rfl 1 (by decide) hq9 (fun _ h9 => h9) rfl (by decide +kernel) rfl rfl (Nat.le_of_ble_eq_true rfl) dX1_countHours_137 (fun H locs hP hD hS => ?_)
      have hP : va_P D vwCl [(ch, .inr (1, [.ref ch_courses_a, .long (F50_2.2 xm), .long F50_2.1])), (ch_courses_a, .inl (cJ, 9, .inr (.inl F50_2.2)))] H := hP
      have hD : va_D _ [(ch, .inr (1, [.ref ch_courses_a, .long (F50_2.2 xm), .long F50_2.1])), (ch_courses_a, .inl (cJ, 9, .inr (.inl F50_2.2)))] := hD
      obtain ⟨rfl, rfl, rfl⟩ := prodI3 hR
      exact rw_vret hx hb hr hlocks hP hS dX1_countHours_140
    have hloop50 : ∀ (k50 i50 : Nat) (u0_2_50 : Int64) (r1_50 : Nat → Int64), i50 + k50 = xn → ∀ (H : Heap) (locs : List Loc), va_P D vwCl [(ch, .inr (1, [.ref ch_courses_a, .long ch_upper, .long u0_2_50])), (ch_courses_a, .inl (cJ, 9, .inr (.inl r1_50)))] H → va_D (va_In [(ch, .inr (1, [.ref ch_courses_a, .long ch_upper, .long ch_lower])), (ch_courses_a, .inl (cJ, 9, .inr (.inl ch_courses)))]) [(ch, .inr (1, [.ref ch_courses_a, .long ch_upper, .long u0_2_50])), (ch_courses_a, .inl (cJ, 9, .inr (.inl r1_50)))] → va_S (va_In [(ch, .inr (1, [.ref ch_courses_a, .long ch_upper, .long ch_lower])), (ch_courses_a, .inl (cJ, 9, .inr (.inl ch_courses)))]) s.heap H locs → ∀ (ls : Array Slot), lv_has ls 6 [(4, .int (nI i50)), (3, .int (nI xm)), (0, .ref ch), (1, .int (nI xm)), (2, .int (nI xn))] → lp_X1_countHours_50 xm k50 i50 u0_2_50 r1_50 = F50_2 → W p l e ({ frames := 1, cells := 0, slots := 0, locals := 21 }) s m args below meth c H locs 0 0 (MQ below (rw_Q D none [(ch, .inr (1, [.ref ch_courses_a, .long ch_upper, .long ch_lower])), (ch_courses_a, .inl (cJ, 9, .inr (.inl ch_courses)))] [(ch, .inr (1, [.ref ch_courses_a, .long R0, .long R1])), (ch_courses_a, .inl (cJ, 9, .inr (.inl R2)))]) args s 0 0 (va_In [(ch, .inr (1, [.ref ch_courses_a, .long ch_upper, .long ch_lower])), (ch_courses_a, .inl (cJ, 9, .inr (.inl ch_courses)))])) (F0 m 50 ls []) := by
      intro k50
      induction k50 with
      | zero =>
        intro i50 u0_2_50 r1_50 h50  H locs hP hD hS ls hl hR
        obtain rfl : xn = i50 := by omega
        rw [lp_X1_countHours_50] at hR
        refine lv_iload hx hb dX1_countHours_50 (lv_at hl 0 rfl) ?_
        refine lv_iload_n hx hb dX1_countHours_52 rfl (lv_at hl 4 rfl) ?_
        refine lv_icmp_ge (tgt := 130) hx hb dX1_countHours_53 (by decide) (fun _ => ?_) (fun h => absurd (cle_t (a := xn) (b := xn) rfl rfl (by omega) (by omega)) h)
        subst hR
        exact hexit50 _ _ hP hD hS _ (lv_sub hl [1, 2, 3, 4] rfl)
      | succ k50 ih50 =>
        intro i50 u0_2_50 r1_50 h50  H locs hP hD hS ls hl hR
        rw [lp_X1_countHours_50] at hR
        refine lv_iload hx hb dX1_countHours_50 (lv_at hl 0 rfl) ?_
        refine lv_iload_n hx hb dX1_countHours_52 rfl (lv_at hl 4 rfl) ?_
        refine lv_icmp_ge (tgt := 130) hx hb dX1_countHours_53 (by decide) (fun h => absurd h (cle_f (a := xn) (b := i50) rfl rfl (by omega) (by omega))) (fun _ => ?_)
        refine lv_iload_n hx hb dX1_countHours_56 rfl (lv_at hl 1 rfl) ?_
        refine lv_istore (lv' := [(5, .int (nI xm)), (4, .int (nI i50)), (3, .int (nI xm)), (0, .ref ch), (1, .int (nI xm)), (2, .int (nI xn))]) hx hb dX1_countHours_57 hl (by decide) rfl (fun ls hl => ?_)
        obtain ⟨F59_3, hF59_3⟩ : ∃ x, (lp_X1_countHours_59 xm xm r1_50) = x := ⟨_, rfl⟩
        try rw [hF59_3] at hR
        have hexit59 : ∀ (H : Heap) (locs : List Loc), va_P D vwCl [(ch, .inr (1, [.ref ch_courses_a, .long ch_upper, .long u0_2_50])), (ch_courses_a, .inl (cJ, 9, .inr (.inl F59_3)))] H → va_D (va_In [(ch, .inr (1, [.ref ch_courses_a, .long ch_upper, .long ch_lower])), (ch_courses_a, .inl (cJ, 9, .inr (.inl ch_courses)))]) [(ch, .inr (1, [.ref ch_courses_a, .long ch_upper, .long u0_2_50])), (ch_courses_a, .inl (cJ, 9, .inr (.inl F59_3)))] → va_S (va_In [(ch, .inr (1, [.ref ch_courses_a, .long ch_upper, .long ch_lower])), (ch_courses_a, .inl (cJ, 9, .inr (.inl ch_courses)))]) s.heap H locs → ∀ (ls : Array Slot), lv_has ls 6 [(4, .int (nI i50)), (3, .int (nI xm)), (0, .ref ch), (1, .int (nI xm)), (2, .int (nI xn))] → W p l e ({ frames := 1, cells := 0, slots := 0, locals := 21 }) s m args below meth c H locs 0 0 (MQ below (rw_Q D none [(ch, .inr (1, [.ref ch_courses_a, .long ch_upper, .long ch_lower])), (ch_courses_a, .inl (cJ, 9, .inr (.inl ch_courses)))] [(ch, .inr (1, [.ref ch_courses_a, .long R0, .long R1])), (ch_courses_a, .inl (cJ, 9, .inr (.inl R2)))]) args s 0 0 (va_In [(ch, .inr (1, [.ref ch_courses_a, .long ch_upper, .long ch_lower])), (ch_courses_a, .inl (cJ, 9, .inr (.inl ch_courses)))])) (F0 m 106 ls []) := by
          intro H locs hP hD hS ls hl
          refine lv_aload_n hx hb dX1_countHours_106 rfl (lv_at hl 2 rfl) ?_
          refine va_get (D := D) (ci := 1) (v := .ref ch_courses_a) (C := RX1) (T := TX1) (N := 3) hx hb hts in_X1_countHours_X1 hown hK.1 hP 0 rfl rfl 0 (by decide) hq7 (fun _ h9 => h9) rfl dX1_countHours_107 ?_
          refine lv_iconst (v := (0 : Int32)) hx hb dX1_countHours_110 (by decide) ?_
          refine lv_lconst (v := (0 : Int64)) hx hb dX1_countHours_111 (by decide) ?_
          refine la_st hx hb hK hP hD hS 1 rfl (i := 0) (by omega) (by decide) dX1_countHours_112 (fun H locs hP hD hS => ?_)
          have hP : va_P D vwCl [(ch, .inr (1, [.ref ch_courses_a, .long ch_upper, .long u0_2_50])), (ch_courses_a, .inl (cJ, 9, .inr (.inl (vp_updL F59_3 0 (0 : Int64)))))] H := hP
          have hD : va_D _ [(ch, .inr (1, [.ref ch_courses_a, .long ch_upper, .long u0_2_50])), (ch_courses_a, .inl (cJ, 9, .inr (.inl (vp_updL F59_3 0 (0 : Int64)))))] := hD
          refine lv_aload_n hx hb dX1_countHours_113 rfl (lv_at hl 2 rfl) ?_
          refine lv_dup hx hb dX1_countHours_114 rfl ?_
          refine va_get (D := D) (ci := 1) (v := .long u0_2_50) (C := RX1) (T := TX1) (N := 3) hx hb hts in_X1_countHours_X1 hown hK.1 hP 0 rfl rfl 2 (by decide) hq8 (fun _ h9 => h9) rfl dX1_countHours_115 ?_
          refine lv_iload_n hx hb dX1_countHours_118 rfl (lv_at hl 1 rfl) ?_
          refine lv_i2l (v := ((nI xm).toInt64)) hx hb dX1_countHours_119 rfl ?_
          refine lv_lmul hx hb dX1_countHours_120 ?_
          refine va_put (D := D) (ci := 1) (v := .long (u0_2_50 * ((nI xm).toInt64))) (ty := .long) (C := RX1) (T := TX1) (N := 3) hx hb hts in_X1_countHours_X1 tyX1 tyX1_ok nmX1 hown hK.1 hP hD hS 0 rfl rfl 2 (by decide) hq8 (fun _ h9 => h9) rfl (by decide +kernel) rfl rfl (Nat.le_of_ble_eq_true rfl) dX1_countHours_121 (fun H locs hP hD hS => ?_)
          have hP : va_P D vwCl [(ch, .inr (1, [.ref ch_courses_a, .long ch_upper, .long (u0_2_50 * ((nI xm).toInt64))])), (ch_courses_a, .inl (cJ, 9, .inr (.inl (vp_updL F59_3 0 (0 : Int64)))))] H := hP
          have hD : va_D _ [(ch, .inr (1, [.ref ch_courses_a, .long ch_upper, .long (u0_2_50 * ((nI xm).toInt64))])), (ch_courses_a, .inl (cJ, 9, .inr (.inl (vp_updL F59_3 0 (0 : Int64)))))] := hD
          refine lv_iinc (v := (nI (i50 + 1))) (lv' := [(4, .int (nI (i50 + 1))), (3, .int (nI xm)), (0, .ref ch), (1, .int (nI xm)), (2, .int (nI xn))]) hx hb dX1_countHours_124 hl (k := 0) rfl (by exact nI_add i50 1) (by decide) rfl (fun ls hl => ?_)
          refine lv_goto (tgt := 50) hx hb dX1_countHours_127 (by decide) ?_
          exact ih50 _ _ _ (by omega) _ _ hP hD hS _ (lv_sub hl [0, 1, 2, 3, 4] rfl) hR
        have hloop59 : ∀ (k59 : Nat) (r1_59 : Nat → Int64), k59 ≤ xm → ∀ (H : Heap) (locs : List Loc), va_P D vwCl [(ch, .inr (1, [.ref ch_courses_a, .long ch_upper, .long u0_2_50])), (ch_courses_a, .inl (cJ, 9, .inr (.inl r1_59)))] H → va_D (va_In [(ch, .inr (1, [.ref ch_courses_a, .long ch_upper, .long ch_lower])), (ch_courses_a, .inl (cJ, 9, .inr (.inl ch_courses)))]) [(ch, .inr (1, [.ref ch_courses_a, .long ch_upper, .long u0_2_50])), (ch_courses_a, .inl (cJ, 9, .inr (.inl r1_59)))] → va_S (va_In [(ch, .inr (1, [.ref ch_courses_a, .long ch_upper, .long ch_lower])), (ch_courses_a, .inl (cJ, 9, .inr (.inl ch_courses)))]) s.heap H locs → ∀ (ls : Array Slot), lv_has ls 6 [(5, .int (nI k59)), (4, .int (nI i50)), (3, .int (nI xm)), (0, .ref ch), (1, .int (nI xm)), (2, .int (nI xn))] → lp_X1_countHours_59 xm k59 r1_59 = F59_3 → W p l e ({ frames := 1, cells := 0, slots := 0, locals := 21 }) s m args below meth c H locs 0 0 (MQ below (rw_Q D none [(ch, .inr (1, [.ref ch_courses_a, .long ch_upper, .long ch_lower])), (ch_courses_a, .inl (cJ, 9, .inr (.inl ch_courses)))] [(ch, .inr (1, [.ref ch_courses_a, .long R0, .long R1])), (ch_courses_a, .inl (cJ, 9, .inr (.inl R2)))]) args s 0 0 (va_In [(ch, .inr (1, [.ref ch_courses_a, .long ch_upper, .long ch_lower])), (ch_courses_a, .inl (cJ, 9, .inr (.inl ch_courses)))])) (F0 m 59 ls []) := by
          intro k59
          induction k59 with
          | zero =>
            intro r1_59 h59  H locs hP hD hS ls hl hR
            rw [lp_X1_countHours_59] at hR
            refine lv_iload hx hb dX1_countHours_59 (lv_at hl 0 rfl) ?_
            refine lv_if_le (tgt := 106) hx hb dX1_countHours_61 (by decide) (fun _ => ?_) (fun h => absurd (cle_t (a := 0) (b := 0) rfl rfl (by omega) (by omega)) h)
            subst hR
            exact hexit59 _ _ hP hD hS _ (lv_sub hl [1, 2, 3, 4, 5] rfl)
          | succ k59 ih59 =>
            intro r1_59 h59  H locs hP hD hS ls hl hR
            rw [lp_X1_countHours_59] at hR
            refine lv_iload hx hb dX1_countHours_59 (lv_at hl 0 rfl) ?_
            refine lv_if_le (tgt := 106) hx hb dX1_countHours_61 (by decide) (fun h => absurd h (cle_f (a := (k59 + 1)) (b := 0) rfl rfl (by omega) (by omega))) (fun _ => ?_)
            refine lv_aload_n hx hb dX1_countHours_64 rfl (lv_at hl 3 rfl) ?_
            refine va_get (D := D) (ci := 1) (v := .ref ch_courses_a) (C := RX1) (T := TX1) (N := 3) hx hb hts in_X1_countHours_X1 hown hK.1 hP 0 rfl rfl 0 (by decide) hq7 (fun _ h9 => h9) rfl dX1_countHours_65 ?_
            refine lv_iload hx hb dX1_countHours_68 (lv_at hl 0 rfl) ?_
            refine lv_iload hx hb dX1_countHours_70 (lv_at hl 0 rfl) ?_
            refine lv_i2l (v := ((nI (k59 + 1)).toInt64)) hx hb dX1_countHours_72 rfl ?_
            refine lv_aload_n hx hb dX1_countHours_73 rfl (lv_at hl 3 rfl) ?_
            refine va_get (D := D) (ci := 1) (v := .ref ch_courses_a) (C := RX1) (T := TX1) (N := 3) hx hb hts in_X1_countHours_X1 hown hK.1 hP 0 rfl rfl 0 (by decide) hq7 (fun _ h9 => h9) rfl dX1_countHours_74 ?_
            refine lv_iload hx hb dX1_countHours_77 (lv_at hl 0 rfl) ?_
            refine la_ld hx hb hK hP 1 rfl (i := (k59 + 1)) (by omega) (by decide) dX1_countHours_79 ?_
            refine lv_lmul hx hb dX1_countHours_80 ?_
            refine lv_iload_n hx hb dX1_countHours_81 rfl (lv_at hl 2 rfl) ?_
            refine lv_iload hx hb dX1_countHours_82 (lv_at hl 0 rfl) ?_
            refine lv_isub hx hb dX1_countHours_84 ?_
            refine lv_iconst (v := (1 : Int32)) hx hb dX1_countHours_85 (by decide) ?_
            refine lv_iadd hx hb dX1_countHours_86 ?_
            refine lv_i2l (v := ((((nI xm) - (nI (k59 + 1))) + (1 : Int32)).toInt64)) hx hb dX1_countHours_87 rfl ?_
            refine lv_aload_n hx hb dX1_countHours_88 rfl (lv_at hl 3 rfl) ?_
            refine va_get (D := D) (ci := 1) (v := .ref ch_courses_a) (C := RX1) (T := TX1) (N := 3) hx hb hts in_X1_countHours_X1 hown hK.1 hP 0 rfl rfl 0 (by decide) hq7 (fun _ h9 => h9) rfl dX1_countHours_89 ?_
            refine lv_iload hx hb dX1_countHours_92 (lv_at hl 0 rfl) ?_
            refine lv_iconst (v := (1 : Int32)) hx hb dX1_countHours_94 (by decide) ?_
            refine lv_isub hx hb dX1_countHours_95 ?_
            rw [show ((nI (k59 + 1)) - (1 : Int32)) = (nI ((k59 + 1) - 1)) from pk_sub (a := (k59 + 1)) (b := 1) (by omega)]
            refine la_ld hx hb hK hP 1 rfl (i := ((k59 + 1) - 1)) (by omega) (by decide) dX1_countHours_96 ?_
            refine lv_lmul hx hb dX1_countHours_97 ?_
            refine lv_ladd hx hb dX1_countHours_98 ?_
            refine la_st hx hb hK hP hD hS 1 rfl (i := (k59 + 1)) (by omega) (by decide) dX1_countHours_99 (fun H locs hP hD hS => ?_)
            have hP : va_P D vwCl [(ch, .inr (1, [.ref ch_courses_a, .long ch_upper, .long u0_2_50])), (ch_courses_a, .inl (cJ, 9, .inr (.inl (vp_updL r1_59 (k59 + 1) ((((nI (k59 + 1)).toInt64) * (r1_59 (k59 + 1))) + (((((nI xm) - (nI (k59 + 1))) + (1 : Int32)).toInt64) * (r1_59 ((k59 + 1) - 1))))))))] H := hP
            have hD : va_D _ [(ch, .inr (1, [.ref ch_courses_a, .long ch_upper, .long u0_2_50])), (ch_courses_a, .inl (cJ, 9, .inr (.inl (vp_updL r1_59 (k59 + 1) ((((nI (k59 + 1)).toInt64) * (r1_59 (k59 + 1))) + (((((nI xm) - (nI (k59 + 1))) + (1 : Int32)).toInt64) * (r1_59 ((k59 + 1) - 1))))))))] := hD
            refine lv_iinc (v := (nI k59)) (lv' := [(5, .int (nI k59)), (4, .int (nI i50)), (3, .int (nI xm)), (0, .ref ch), (1, .int (nI xm)), (2, .int (nI xn))]) hx hb dX1_countHours_100 hl (k := 0) rfl (iinc_pred k59) (by decide) rfl (fun ls hl => ?_)
            refine lv_goto (tgt := 59) hx hb dX1_countHours_103 (by decide) ?_
            exact ih59 _ (by omega) _ _ hP hD hS _ (lv_sub hl [0, 1, 2, 3, 4, 5] rfl) hR
        exact hloop59 xm _ (Nat.le_refl _) _ _ hP hD hS _ hl hF59_3
    exact hloop50 xn 0 _ _ (by omega) _ _ hP hD hS _ hl hF50_2
  have hloop14 : ∀ (k14 i14 : Nat) (r1_14 : Nat → Int64), i14 + k14 = 9 → ∀ (H : Heap) (locs : List Loc), va_P D vwCl [(ch, .inr (1, [.ref ch_courses_a, .long ch_upper, .long ch_lower])), (ch_courses_a, .inl (cJ, 9, .inr (.inl r1_14)))] H → va_D (va_In [(ch, .inr (1, [.ref ch_courses_a, .long ch_upper, .long ch_lower])), (ch_courses_a, .inl (cJ, 9, .inr (.inl ch_courses)))]) [(ch, .inr (1, [.ref ch_courses_a, .long ch_upper, .long ch_lower])), (ch_courses_a, .inl (cJ, 9, .inr (.inl r1_14)))] → va_S (va_In [(ch, .inr (1, [.ref ch_courses_a, .long ch_upper, .long ch_lower])), (ch_courses_a, .inl (cJ, 9, .inr (.inl ch_courses)))]) s.heap H locs → ∀ (ls : Array Slot), lv_has ls 6 [(4, .int (nI i14)), (3, .int (nI xm)), (0, .ref ch), (1, .int (nI xm)), (2, .int (nI xn))] → lp_X1_countHours_14 k14 i14 r1_14 = F14_1 → W p l e ({ frames := 1, cells := 0, slots := 0, locals := 21 }) s m args below meth c H locs 0 0 (MQ below (rw_Q D none [(ch, .inr (1, [.ref ch_courses_a, .long ch_upper, .long ch_lower])), (ch_courses_a, .inl (cJ, 9, .inr (.inl ch_courses)))] [(ch, .inr (1, [.ref ch_courses_a, .long R0, .long R1])), (ch_courses_a, .inl (cJ, 9, .inr (.inl R2)))]) args s 0 0 (va_In [(ch, .inr (1, [.ref ch_courses_a, .long ch_upper, .long ch_lower])), (ch_courses_a, .inl (cJ, 9, .inr (.inl ch_courses)))])) (F0 m 14 ls []) := by
    intro k14
    induction k14 with
    | zero =>
      intro i14 r1_14 h14  H locs hP hD hS ls hl hR
      obtain rfl : 9 = i14 := by omega
      rw [lp_X1_countHours_14] at hR
      refine lv_iload hx hb dX1_countHours_14 (lv_at hl 0 rfl) ?_
      refine lv_bipush (v := (8 : Int32)) hx hb dX1_countHours_16 (by decide +kernel) ?_
      refine lv_icmp_gt (tgt := 35) hx hb dX1_countHours_18 (by decide) (fun _ => ?_) (fun h => absurd (clt_t (a := 8) (b := 9) rfl rfl (by omega) (by omega)) h)
      subst hR
      exact hexit14 _ _ hP hD hS _ (lv_sub hl [1, 2, 3, 4] rfl)
    | succ k14 ih14 =>
      intro i14 r1_14 h14  H locs hP hD hS ls hl hR
      rw [lp_X1_countHours_14] at hR
      refine lv_iload hx hb dX1_countHours_14 (lv_at hl 0 rfl) ?_
      refine lv_bipush (v := (8 : Int32)) hx hb dX1_countHours_16 (by decide +kernel) ?_
      refine lv_icmp_gt (tgt := 35) hx hb dX1_countHours_18 (by decide) (fun h => absurd h (clt_f (a := 8) (b := i14) rfl rfl (by omega) (by omega))) (fun _ => ?_)
      refine lv_aload_n hx hb dX1_countHours_21 rfl (lv_at hl 2 rfl) ?_
      refine va_get (D := D) (ci := 1) (v := .ref ch_courses_a) (C := RX1) (T := TX1) (N := 3) hx hb hts in_X1_countHours_X1 hown hK.1 hP 0 rfl rfl 0 (by decide) hq7 (fun _ h9 => h9) rfl dX1_countHours_22 ?_
      refine lv_iload hx hb dX1_countHours_25 (lv_at hl 0 rfl) ?_
      refine lv_lconst (v := (0 : Int64)) hx hb dX1_countHours_27 (by decide) ?_
      refine la_st hx hb hK hP hD hS 1 rfl (i := i14) (by omega) (by decide) dX1_countHours_28 (fun H locs hP hD hS => ?_)
      have hP : va_P D vwCl [(ch, .inr (1, [.ref ch_courses_a, .long ch_upper, .long ch_lower])), (ch_courses_a, .inl (cJ, 9, .inr (.inl (vp_updL r1_14 i14 (0 : Int64)))))] H := hP
      have hD : va_D _ [(ch, .inr (1, [.ref ch_courses_a, .long ch_upper, .long ch_lower])), (ch_courses_a, .inl (cJ, 9, .inr (.inl (vp_updL r1_14 i14 (0 : Int64)))))] := hD
      refine lv_iinc (v := (nI (i14 + 1))) (lv' := [(4, .int (nI (i14 + 1))), (3, .int (nI xm)), (0, .ref ch), (1, .int (nI xm)), (2, .int (nI xn))]) hx hb dX1_countHours_29 hl (k := 0) rfl (by exact nI_add i14 1) (by decide) rfl (fun ls hl => ?_)
      refine lv_goto (tgt := 14) hx hb dX1_countHours_32 (by decide) ?_
      exact ih14 _ _ (by omega) _ _ hP hD hS _ (lv_sub hl [0, 1, 2, 3, 4] rfl) hR
  exact hloop14 9 0 _ (by omega) _ _ hP hD hS _ hl hF14_1


theorem in_X1_countMean_X1 : ∀ w ∈ u_ws RX1 TX1 3, w ∈ wsX1_countMean := by decide +kernel
def lp_X1_countMean_14 (xm : Nat) : Nat → Nat → Int64 → Int64
  | 0, _, u0_1_14 => u0_1_14
  | k14 + 1, i14, u0_1_14 => (lp_X1_countMean_14 xm k14 (i14 + 1) (u0_1_14 + (((nI xm) * ((840 : Int32) / (nI i14))).toInt64)))
def f_X1_countMean (xm : Nat) : Int64 × Int64 :=
  ((lp_X1_countMean_14 xm ((xm + 1) - 1) 1 (0 : Int64)), (840 : Int64))
set_option maxHeartbeats 4000000 in
set_option maxRecDepth 100000 in
theorem c_X1_countMean (l : Launch) (D : va_G) (cI cJ cZ : ClassId) (ch : Nat) (ch_courses_a : Nat) (ch_upper : Int64) (ch_lower : Int64) (xm : Nat) (hm1 : 1 ≤ xm) (hm8 : xm ≤ 8) : RW l yX1_countMean wsX1_countMean ({ frames := 0, cells := 0, slots := 0, locals := 0 }) [.ref ch, .int (nI xm)] D cI cJ cZ [(ch, .inr (1, [.ref ch_courses_a, .long ch_upper, .long ch_lower]))] none [(ch, .inr (1, [.ref ch_courses_a, .long ((f_X1_countMean xm).1), .long ((f_X1_countMean xm).2)]))] := by
  obtain ⟨R0, R1, hR⟩ := prodE2 (f_X1_countMean xm)
  rw [hR]
  dsimp only
  refine rw_start (cc := cX1_countMean) (maxL := 3) (ret := none) (by decide) rfl (Nat.le_of_ble_eq_true rfl) ?_
  intro p e s m args below meth c hx hb hr hml hown hts hlocks hP hD hS hK ls hl
  have hown : s.vm.findClass RX1 = some m.cls := hown
  have hl : lv_has ls 3 [(0, .ref ch), (1, .int (nI xm))] := hl
  have hq0 := hts (.fieldLink RX1 28 "StuckVanes$Chances" "upper" "J") (by decide +kernel)
  have hq1 := hts (.constantLong RX1 31 (840)) (by decide +kernel)
  have hq2 := hts (.fieldLink RX1 24 "StuckVanes$Chances" "lower" "J") (by decide +kernel)
  rw [f_X1_countMean] at hR
  refine lv_aload_n hx hb dX1_countMean_0 rfl (lv_at hl 0 rfl) ?_
  refine lv_lconst (v := (0 : Int64)) hx hb dX1_countMean_1 (by decide) ?_
  refine va_put (D := D) (ci := 1) (v := .long (0 : Int64)) (ty := .long) (C := RX1) (T := TX1) (N := 3) hx hb hts in_X1_countMean_X1 tyX1 tyX1_ok nmX1 hown hK.1 hP hD hS 0 rfl rfl 1 (by decide) hq0 (fun _ h9 => h9) rfl (by decide +kernel) rfl rfl (Nat.le_of_ble_eq_true rfl) dX1_countMean_2 (fun H locs hP hD hS => ?_)
  have hP : va_P D vwCl [(ch, .inr (1, [.ref ch_courses_a, .long (0 : Int64), .long ch_lower]))] H := hP
  have hD : va_D _ [(ch, .inr (1, [.ref ch_courses_a, .long (0 : Int64), .long ch_lower]))] := hD
  refine lv_aload_n hx hb dX1_countMean_5 rfl (lv_at hl 0 rfl) ?_
  refine lv_ldc2 (v := (840 : Int64)) hx hb hown hq1 dX1_countMean_6 ?_
  refine va_put (D := D) (ci := 1) (v := .long (840 : Int64)) (ty := .long) (C := RX1) (T := TX1) (N := 3) hx hb hts in_X1_countMean_X1 tyX1 tyX1_ok nmX1 hown hK.1 hP hD hS 0 rfl rfl 2 (by decide) hq2 (fun _ h9 => h9) rfl (by decide +kernel) rfl rfl (Nat.le_of_ble_eq_true rfl) dX1_countMean_9 (fun H locs hP hD hS => ?_)
  have hP : va_P D vwCl [(ch, .inr (1, [.ref ch_courses_a, .long (0 : Int64), .long (840 : Int64)]))] H := hP
  have hD : va_D _ [(ch, .inr (1, [.ref ch_courses_a, .long (0 : Int64), .long (840 : Int64)]))] := hD
  refine lv_iconst (v := (1 : Int32)) hx hb dX1_countMean_12 (by decide) ?_
  refine lv_istore_n (lv' := [(2, .int (1 : Int32)), (0, .ref ch), (1, .int (nI xm))]) hx hb dX1_countMean_13 rfl hl (by decide) rfl (fun ls hl => ?_)
  obtain ⟨F14_1, hF14_1⟩ : ∃ x, (lp_X1_countMean_14 xm ((xm + 1) - 1) 1 (0 : Int64)) = x := ⟨_, rfl⟩
  try rw [hF14_1] at hR
  have hexit14 : ∀ (H : Heap) (locs : List Loc), va_P D vwCl [(ch, .inr (1, [.ref ch_courses_a, .long F14_1, .long (840 : Int64)]))] H → va_D (va_In [(ch, .inr (1, [.ref ch_courses_a, .long ch_upper, .long ch_lower]))]) [(ch, .inr (1, [.ref ch_courses_a, .long F14_1, .long (840 : Int64)]))] → va_S (va_In [(ch, .inr (1, [.ref ch_courses_a, .long ch_upper, .long ch_lower]))]) s.heap H locs → ∀ (ls : Array Slot), lv_has ls 3 [(0, .ref ch), (1, .int (nI xm))] → W p l e ({ frames := 0, cells := 0, slots := 0, locals := 0 }) s m args below meth c H locs 0 0 (MQ below (rw_Q D none [(ch, .inr (1, [.ref ch_courses_a, .long ch_upper, .long ch_lower]))] [(ch, .inr (1, [.ref ch_courses_a, .long R0, .long R1]))]) args s 0 0 (va_In [(ch, .inr (1, [.ref ch_courses_a, .long ch_upper, .long ch_lower]))])) (F0 m 42 ls []) := by
    intro H locs hP hD hS ls hl
    obtain ⟨rfl, rfl⟩ := prodI2 hR
    exact rw_vret hx hb hr hlocks hP hS dX1_countMean_42
  have hloop14 : ∀ (k14 i14 : Nat) (u0_1_14 : Int64), i14 + k14 = (xm + 1) → 1 ≤ i14 → ∀ (H : Heap) (locs : List Loc), va_P D vwCl [(ch, .inr (1, [.ref ch_courses_a, .long u0_1_14, .long (840 : Int64)]))] H → va_D (va_In [(ch, .inr (1, [.ref ch_courses_a, .long ch_upper, .long ch_lower]))]) [(ch, .inr (1, [.ref ch_courses_a, .long u0_1_14, .long (840 : Int64)]))] → va_S (va_In [(ch, .inr (1, [.ref ch_courses_a, .long ch_upper, .long ch_lower]))]) s.heap H locs → ∀ (ls : Array Slot), lv_has ls 3 [(2, .int (nI i14)), (0, .ref ch), (1, .int (nI xm))] → lp_X1_countMean_14 xm k14 i14 u0_1_14 = F14_1 → W p l e ({ frames := 0, cells := 0, slots := 0, locals := 0 }) s m args below meth c H locs 0 0 (MQ below (rw_Q D none [(ch, .inr (1, [.ref ch_courses_a, .long ch_upper, .long ch_lower]))] [(ch, .inr (1, [.ref ch_courses_a, .long R0, .long R1]))]) args s 0 0 (va_In [(ch, .inr (1, [.ref ch_courses_a, .long ch_upper, .long ch_lower]))])) (F0 m 14 ls []) := by
    intro k14
    induction k14 with
    | zero =>
      intro i14 u0_1_14 h14 hs14  H locs hP hD hS ls hl hR
      obtain rfl : (xm + 1) = i14 := by omega
      rw [lp_X1_countMean_14] at hR
      refine lv_iload_n hx hb dX1_countMean_14 rfl (lv_at hl 0 rfl) ?_
      refine lv_iload_n hx hb dX1_countMean_15 rfl (lv_at hl 2 rfl) ?_
      refine lv_icmp_gt (tgt := 42) hx hb dX1_countMean_16 (by decide) (fun _ => ?_) (fun h => absurd (clt_t (a := xm) (b := (xm + 1)) rfl rfl (by omega) (by omega)) h)
      subst hR
      exact hexit14 _ _ hP hD hS _ (lv_sub hl [1, 2] rfl)
    | succ k14 ih14 =>
      intro i14 u0_1_14 h14 hs14  H locs hP hD hS ls hl hR
      rw [lp_X1_countMean_14] at hR
      refine lv_iload_n hx hb dX1_countMean_14 rfl (lv_at hl 0 rfl) ?_
      refine lv_iload_n hx hb dX1_countMean_15 rfl (lv_at hl 2 rfl) ?_
      refine lv_icmp_gt (tgt := 42) hx hb dX1_countMean_16 (by decide) (fun h => absurd h (clt_f (a := xm) (b := i14) rfl rfl (by omega) (by omega))) (fun _ => ?_)
      refine lv_aload_n hx hb dX1_countMean_19 rfl (lv_at hl 1 rfl) ?_
      refine lv_dup hx hb dX1_countMean_20 rfl ?_
      refine va_get (D := D) (ci := 1) (v := .long u0_1_14) (C := RX1) (T := TX1) (N := 3) hx hb hts in_X1_countMean_X1 hown hK.1 hP 0 rfl rfl 1 (by decide) hq0 (fun _ h9 => h9) rfl dX1_countMean_21 ?_
      refine lv_iload_n hx hb dX1_countMean_24 rfl (lv_at hl 2 rfl) ?_
      refine lv_sipush (v := (840 : Int32)) hx hb dX1_countMean_25 (by decide +kernel) ?_
      refine lv_iload_n hx hb dX1_countMean_28 rfl (lv_at hl 0 rfl) ?_
      refine lv_idiv hx hb dX1_countMean_29 (nI_ne0 (by omega) (by omega)) ?_
      refine lv_imul hx hb dX1_countMean_30 ?_
      refine lv_i2l (v := (((nI xm) * ((840 : Int32) / (nI i14))).toInt64)) hx hb dX1_countMean_31 rfl ?_
      refine lv_ladd hx hb dX1_countMean_32 ?_
      refine va_put (D := D) (ci := 1) (v := .long (u0_1_14 + (((nI xm) * ((840 : Int32) / (nI i14))).toInt64))) (ty := .long) (C := RX1) (T := TX1) (N := 3) hx hb hts in_X1_countMean_X1 tyX1 tyX1_ok nmX1 hown hK.1 hP hD hS 0 rfl rfl 1 (by decide) hq0 (fun _ h9 => h9) rfl (by decide +kernel) rfl rfl (Nat.le_of_ble_eq_true rfl) dX1_countMean_33 (fun H locs hP hD hS => ?_)
      have hP : va_P D vwCl [(ch, .inr (1, [.ref ch_courses_a, .long (u0_1_14 + (((nI xm) * ((840 : Int32) / (nI i14))).toInt64)), .long (840 : Int64)]))] H := hP
      have hD : va_D _ [(ch, .inr (1, [.ref ch_courses_a, .long (u0_1_14 + (((nI xm) * ((840 : Int32) / (nI i14))).toInt64)), .long (840 : Int64)]))] := hD
      refine lv_iinc (v := (nI (i14 + 1))) (lv' := [(2, .int (nI (i14 + 1))), (0, .ref ch), (1, .int (nI xm))]) hx hb dX1_countMean_36 hl (k := 0) rfl (by exact nI_add i14 1) (by decide) rfl (fun ls hl => ?_)
      refine lv_goto (tgt := 14) hx hb dX1_countMean_39 (by decide) ?_
      exact ih14 _ _ (by omega) (by omega) _ _ hP hD hS _ (lv_sub hl [0, 1, 2] rfl) hR
  exact hloop14 ((xm + 1) - 1) 1 _ (by omega) (Nat.le_refl _) _ _ hP hD hS _ hl hF14_1


theorem in_X1_inLowestTerms_X1 : ∀ w ∈ u_ws RX1 TX1 3, w ∈ wsX1_inLowestTerms := by decide +kernel
theorem hd_X1_commonDivisor : yX1_commonDivisor.cls ≠ "java/lang/invoke/MethodHandle" ∧ yX1_commonDivisor.cls ≠ "java/lang/invoke/VarHandle" ∧ (parseMethodDescriptor yX1_commonDivisor.desc).map (fun d => d.parameters.length) = some 2 := by decide +kernel
def f_X1_inLowestTerms (ch_upper : Int64) (ch_lower : Int64) (xq : Int32) : Int64 :=
  (if ((lg_cmp (f_X1_commonDivisor ch_upper ch_lower) (0 : Int64)) = 0) then (-1000000000000000000 : Int64) else (if (xq = 0) then (ch_upper / (f_X1_commonDivisor ch_upper ch_lower)) else (ch_lower / (f_X1_commonDivisor ch_upper ch_lower))))
set_option maxHeartbeats 4000000 in
set_option maxRecDepth 100000 in
theorem c_X1_inLowestTerms (l : Launch) (D : va_G) (cI cJ cZ : ClassId) (ch : Nat) (ch_courses_a : Nat) (ch_upper : Int64) (ch_lower : Int64) (xq : Int32) : RO l yX1_inLowestTerms wsX1_inLowestTerms ({ frames := 1, cells := 0, slots := 0, locals := 30 }) [.ref ch, .int xq] D cI cJ cZ [(ch, .inr (1, [.ref ch_courses_a, .long ch_upper, .long ch_lower]))] (.long (f_X1_inLowestTerms ch_upper ch_lower xq)) := by
  obtain ⟨R, hR⟩ : ∃ R, (f_X1_inLowestTerms ch_upper ch_lower xq) = R := ⟨_, rfl⟩
  rw [hR]
  refine ro_start (cc := cX1_inLowestTerms) (maxL := 4) (ret := (some .long)) (by decide) rfl (Nat.le_of_ble_eq_true rfl) ?_
  intro p e s m args below meth c hx hb hr hml hown hts hlocks hP hK ls hl
  have hown : s.vm.findClass RX1 = some m.cls := hown
  have hl : lv_has ls 4 [(0, .ref ch), (1, .int xq)] := hl
  have hq0 := hts (.fieldLink RX1 28 "StuckVanes$Chances" "upper" "J") (by decide +kernel)
  have hq1 := hts (.fieldLink RX1 24 "StuckVanes$Chances" "lower" "J") (by decide +kernel)
  have hq2 := hts (.constantLong RX1 37 (-1000000000000000000)) (by decide +kernel)
  rw [f_X1_inLowestTerms] at hR
  refine lv_aload_n hx hb dX1_inLowestTerms_0 rfl (lv_at hl 0 rfl) ?_
  refine va_get (D := D) (ci := 1) (v := .long ch_upper) (C := RX1) (T := TX1) (N := 3) hx hb hts in_X1_inLowestTerms_X1 hown hK.1 hP 0 rfl rfl 1 (by decide) hq0 (fun _ h9 => h9) rfl dX1_inLowestTerms_1 ?_
  refine lv_aload_n hx hb dX1_inLowestTerms_4 rfl (lv_at hl 0 rfl) ?_
  refine va_get (D := D) (ci := 1) (v := .long ch_lower) (C := RX1) (T := TX1) (N := 3) hx hb hts in_X1_inLowestTerms_X1 hown hK.1 hP 0 rfl rfl 2 (by decide) hq1 (fun _ h9 => h9) rfl dX1_inLowestTerms_5 ?_
  refine ro_S (As := [.long ch_upper, .long ch_lower]) (rest := []) ⟨hx, hb, hml, hown, hts⟩ hK (c_X1_commonDivisor l D cI cJ cZ ch_upper ch_lower) va_P_nil (va_cwS 2 hts gX1_inLowestTerms_X1_commonDivisor rfl rfl rfl hd_X1_commonDivisor ⟨(Nat.le_of_ble_eq_true rfl), (Nat.le_of_ble_eq_true rfl)⟩) rfl hl.1 rfl (Nat.le_of_ble_eq_true rfl) dX1_inLowestTerms_8 (Nat.zero_le _) (Nat.zero_le _) ?_
  refine lv_lstore_n (lv' := [(2, .long (f_X1_commonDivisor ch_upper ch_lower)), (0, .ref ch), (1, .int xq)]) hx hb dX1_inLowestTerms_11 rfl hl (by decide) rfl (fun ls hl => ?_)
  refine lv_lload_n hx hb dX1_inLowestTerms_12 rfl (lv_at hl 0 rfl) ?_
  refine lv_lconst (v := (0 : Int64)) hx hb dX1_inLowestTerms_13 (by decide) ?_
  refine W.lcmp hx hb dX1_inLowestTerms_14 ?_
  refine lv_if_ne (tgt := 22) hx hb dX1_inLowestTerms_15 (by decide) (fun c15 => ?_) (fun c15 => ?_)
  · rw [if_neg c15] at hR
    refine lv_iload_n hx hb dX1_inLowestTerms_22 rfl (lv_at hl 2 rfl) ?_
    refine lv_if_ne (tgt := 35) hx hb dX1_inLowestTerms_23 (by decide) (fun c23 => ?_) (fun c23 => ?_)
    · rw [if_neg c23] at hR
      refine lv_aload_n hx hb dX1_inLowestTerms_35 rfl (lv_at hl 1 rfl) ?_
      refine va_get (D := D) (ci := 1) (v := .long ch_lower) (C := RX1) (T := TX1) (N := 3) hx hb hts in_X1_inLowestTerms_X1 hown hK.1 hP 0 rfl rfl 2 (by decide) hq1 (fun _ h9 => h9) rfl dX1_inLowestTerms_36 ?_
      refine lv_lload_n hx hb dX1_inLowestTerms_39 rfl (lv_at hl 0 rfl) ?_
      refine lv_ldiv hx hb dX1_inLowestTerms_40 (lg_ne c15) ?_
      subst hR
      exact ro_lret hx hb hr hlocks dX1_inLowestTerms_41
    · rw [if_pos c23] at hR
      refine lv_aload_n hx hb dX1_inLowestTerms_26 rfl (lv_at hl 1 rfl) ?_
      refine va_get (D := D) (ci := 1) (v := .long ch_upper) (C := RX1) (T := TX1) (N := 3) hx hb hts in_X1_inLowestTerms_X1 hown hK.1 hP 0 rfl rfl 1 (by decide) hq0 (fun _ h9 => h9) rfl dX1_inLowestTerms_27 ?_
      refine lv_lload_n hx hb dX1_inLowestTerms_30 rfl (lv_at hl 0 rfl) ?_
      refine lv_ldiv hx hb dX1_inLowestTerms_31 (lg_ne c15) ?_
      refine lv_goto (tgt := 41) hx hb dX1_inLowestTerms_32 (by decide) ?_
      subst hR
      exact ro_lret hx hb hr hlocks dX1_inLowestTerms_41
  · rw [if_pos c15] at hR
    refine lv_ldc2 (v := (-1000000000000000000 : Int64)) hx hb hown hq2 dX1_inLowestTerms_18 ?_
    subst hR
    exact ro_lret hx hb hr hlocks dX1_inLowestTerms_21

