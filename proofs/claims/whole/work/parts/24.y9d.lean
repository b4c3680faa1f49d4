theorem in_X9_isFit_X9 : ∀ w ∈ u_ws RX9 TX9 19, w ∈ wsX9_isFit := by decide +kernel
theorem hd_X9_saysYes : yX9_saysYes.cls ≠ "java/lang/invoke/MethodHandle" ∧ yX9_saysYes.cls ≠ "java/lang/invoke/VarHandle" ∧ (parseMethodDescriptor yX9_saysYes.desc).map (fun d => d.parameters.length) = some 2 := by decide +kernel
def lp_X9_isFit_16 (mo_sight : Nat → Int32) (xc : Int32) : Nat → Nat → Int32 → Int32
  | 0, _, v2_16 => v2_16
  | k16 + 1, i16, v2_16 => (if (v2_16 = 0) then v2_16 else (if ((mo_sight ((2 * i16) + 1)) = (1 : Int32)) then (if ((f_X9_saysYes xc (mo_sight (2 * i16))) = (1 : Int32)) then (lp_X9_isFit_16 mo_sight xc k16 (i16 + 1) (1 : Int32)) else (lp_X9_isFit_16 mo_sight xc k16 (i16 + 1) (0 : Int32))) else (if ((f_X9_saysYes xc (mo_sight (2 * i16))) = (0 : Int32)) then (lp_X9_isFit_16 mo_sight xc k16 (i16 + 1) (1 : Int32)) else (lp_X9_isFit_16 mo_sight xc k16 (i16 + 1) (0 : Int32)))))
def f_X9_isFit (mo_sights : Nat) (mo_sight : Nat → Int32) (xc : Int32) : Int32 :=
  (if ((4 : Int32) ≤ (xc - xc / (10 : Int32) * (10 : Int32))) then (lp_X9_isFit_16 mo_sight xc mo_sights 0 (0 : Int32)) else (lp_X9_isFit_16 mo_sight xc mo_sights 0 (1 : Int32)))
set_option maxHeartbeats 4000000 in
set_option maxRecDepth 100000 in
theorem c_X9_isFit (l : Launch) (D : va_G) (cI cJ cZ : ClassId) (mo : Nat) (mo_book_a : Nat) (mo_now_a : Nat) (mo_there : Int32) (mo_beside_a : Nat) (mo_sights : Nat) (mo_sight_a : Nat) (mo_signs : Int32) (mo_pad_a : Nat) (mo_heldAt : Int32) (mo_heldThing : Int32) (mo_reason : Int32) (mo_acts : Int32) (mo_lefts_a : Nat) (mo_inWays_a : Nat) (mo_more_a : Nat) (mo_wins_a : Nat) (mo_been_a : Nat) (mo_image_a : Nat) (mo_isKept_a : Nat) (mo_sight : Nat → Int32) (xc : Int32) (hsi : mo_sights ≤ 8) : RO l yX9_isFit wsX9_isFit ({ frames := 2, cells := 0, slots := 0, locals := 43 }) [.ref mo, .int xc] D cI cJ cZ [(mo, .inr (9, [.ref mo_book_a, .ref mo_now_a, .int mo_there, .ref mo_beside_a, .int (nI mo_sights), .ref mo_sight_a, .int mo_signs, .ref mo_pad_a, .int mo_heldAt, .int mo_heldThing, .int mo_reason, .int mo_acts, .ref mo_lefts_a, .ref mo_inWays_a, .ref mo_more_a, .ref mo_wins_a, .ref mo_been_a, .ref mo_image_a, .ref mo_isKept_a])), (mo_sight_a, .inl (cI, 16, .inl mo_sight))] (.int (f_X9_isFit mo_sights mo_sight xc)) := by
  obtain ⟨R, hR⟩ : ∃ R, (f_X9_isFit mo_sights mo_sight xc) = R := ⟨_, rfl⟩
  rw [hR]
  refine ro_start (cc := cX9_isFit) (maxL := 4) (ret := (some .boolean)) (by decide) rfl (Nat.le_of_ble_eq_true rfl) ?_
  intro p e s m args below meth c hx hb hr hml hown hts hlocks hP hK ls hl
  have hown : s.vm.findClass RX9 = some m.cls := hown
  have hl : lv_has ls 4 [(0, .ref mo), (1, .int xc)] := hl
  have hq0 := hts (.fieldLink RX9 136 "StuckVanesModel" "sights" "I") (by decide +kernel)
  have hq1 := hts (.fieldLink RX9 19 "StuckVanesModel" "sight" "[I") (by decide +kernel)
  rw [f_X9_isFit] at hR
  refine lv_iload_n hx hb dX9_isFit_0 rfl (lv_at hl 1 rfl) ?_
  refine lv_bipush (v := (10 : Int32)) hx hb dX9_isFit_1 (by decide +kernel) ?_
  refine lv_irem hx hb dX9_isFit_3 (by decide) ?_
  refine lv_iconst (v := (4 : Int32)) hx hb dX9_isFit_4 (by decide) ?_
  refine lv_icmp_ge (tgt := 12) hx hb dX9_isFit_5 (by decide) (fun c5 => ?_) (fun c5 => ?_)
  · rw [if_pos c5] at hR
    refine lv_iconst (v := (0 : Int32)) hx hb dX9_isFit_12 (by decide) ?_
    refine lv_istore_n (lv' := [(2, .int (0 : Int32)), (0, .ref mo), (1, .int xc)]) hx hb dX9_isFit_13 rfl hl (by decide) rfl (fun ls hl => ?_)
    refine lv_iconst (v := (0 : Int32)) hx hb dX9_isFit_14 (by decide) ?_
    refine lv_istore_n (lv' := [(3, .int (0 : Int32)), (2, .int (0 : Int32)), (0, .ref mo), (1, .int xc)]) hx hb dX9_isFit_15 rfl hl (by decide) rfl (fun ls hl => ?_)
    have hloop16 : ∀ (k16 i16 : Nat) (v2_16 : Int32), i16 + k16 = mo_sights → v2_16 = 0 ∨ v2_16 = 1 → ∀ (ls : Array Slot), lv_has ls 4 [(3, .int (nI i16)), (2, .int v2_16), (0, .ref mo), (1, .int xc)] → lp_X9_isFit_16 mo_sight xc k16 i16 v2_16 = R → W p l e ({ frames := 2, cells := 0, slots := 0, locals := 43 }) s m args below meth c s.heap [] 0 0 (MQ below (ro_Q (.int R)) args s 0 0 (fun _ => False)) (F0 m 16 ls []) := by
      intro k16
      induction k16 with
      | zero =>
        intro i16 v2_16 h16 h01 ls hl hR
        obtain rfl : mo_sights = i16 := by omega
        rw [lp_X9_isFit_16] at hR
        refine lv_iload_n hx hb dX9_isFit_16 rfl (lv_at hl 0 rfl) ?_
        refine lv_aload_n hx hb dX9_isFit_17 rfl (lv_at hl 2 rfl) ?_
        refine va_get (D := D) (ci := 9) (v := .int (nI mo_sights)) (C := RX9) (T := TX9) (N := 19) hx hb hts in_X9_isFit_X9 hown hK.1 hP 0 rfl rfl 4 (by decide) hq0 (fun _ h9 => h9) rfl dX9_isFit_18 ?_
        refine lv_icmp_ge (tgt := 74) hx hb dX9_isFit_21 (by decide) (fun _ => ?_) (fun h => absurd (cle_t (a := mo_sights) (b := mo_sights) rfl rfl (by omega) (by omega)) h)
        refine lv_iload_n hx hb dX9_isFit_74 rfl (lv_at hl 1 rfl) ?_
        subst hR
        exact ro_zret hx hb hr hlocks h01 dX9_isFit_75
      | succ k16 ih16 =>
        intro i16 v2_16 h16 h01 ls hl hR
        rw [lp_X9_isFit_16] at hR
        refine lv_iload_n hx hb dX9_isFit_16 rfl (lv_at hl 0 rfl) ?_
        refine lv_aload_n hx hb dX9_isFit_17 rfl (lv_at hl 2 rfl) ?_
        refine va_get (D := D) (ci := 9) (v := .int (nI mo_sights)) (C := RX9) (T := TX9) (N := 19) hx hb hts in_X9_isFit_X9 hown hK.1 hP 0 rfl rfl 4 (by decide) hq0 (fun _ h9 => h9) rfl dX9_isFit_18 ?_
        refine lv_icmp_ge (tgt := 74) hx hb dX9_isFit_21 (by decide) (fun h => absurd h (cle_f (a := mo_sights) (b := i16) rfl rfl (by omega) (by omega))) (fun _ => ?_)
        refine lv_iload_n hx hb dX9_isFit_24 rfl (lv_at hl 1 rfl) ?_
        refine lv_if_eq (tgt := 74) hx hb dX9_isFit_25 (by decide) (fun c25 => ?_) (fun c25 => ?_)
        · rw [if_pos c25] at hR
          refine lv_iload_n hx hb dX9_isFit_74 rfl (lv_at hl 1 rfl) ?_
          subst hR
          exact ro_zret hx hb hr hlocks h01 dX9_isFit_75
        · rw [if_neg c25] at hR
          refine lv_iload_n hx hb dX9_isFit_28 rfl (lv_at hl 3 rfl) ?_
          refine lv_aload_n hx hb dX9_isFit_29 rfl (lv_at hl 2 rfl) ?_
          refine va_get (D := D) (ci := 9) (v := .ref mo_sight_a) (C := RX9) (T := TX9) (N := 19) hx hb hts in_X9_isFit_X9 hown hK.1 hP 0 rfl rfl 5 (by decide) hq1 (fun _ h9 => h9) rfl dX9_isFit_30 ?_
          refine lv_iconst (v := (2 : Int32)) hx hb dX9_isFit_33 (by decide) ?_
          refine lv_iload_n hx hb dX9_isFit_34 rfl (lv_at hl 0 rfl) ?_
          refine lv_imul hx hb dX9_isFit_35 ?_
          rw [show ((2 : Int32) * (nI i16)) = (nI (2 * i16)) from pk_mul 2 i16]
          refine ia_ld hx hb hK hP 1 rfl (i := (2 * i16)) (by omega) (by decide) dX9_isFit_36 ?_
          refine ro_S (As := [.int xc, .int (mo_sight (2 * i16))]) (rest := []) ⟨hx, hb, hml, hown, hts⟩ hK (c_X9_saysYes l D cI cJ cZ xc (mo_sight (2 * i16))) va_P_nil (va_cwS 2 hts gX9_isFit_X9_saysYes rfl rfl rfl hd_X9_saysYes ⟨(Nat.le_of_ble_eq_true rfl), (Nat.le_of_ble_eq_true rfl)⟩) rfl hl.1 rfl (Nat.le_of_ble_eq_true rfl) dX9_isFit_37 (Nat.zero_le _) (Nat.zero_le _) ?_
          refine lv_aload_n hx hb dX9_isFit_40 rfl (lv_at hl 2 rfl) ?_
          refine va_get (D := D) (ci := 9) (v := .ref mo_sight_a) (C := RX9) (T := TX9) (N := 19) hx hb hts in_X9_isFit_X9 hown hK.1 hP 0 rfl rfl 5 (by decide) hq1 (fun _ h9 => h9) rfl dX9_isFit_41 ?_
          refine lv_iconst (v := (2 : Int32)) hx hb dX9_isFit_44 (by decide) ?_
          refine lv_iload_n hx hb dX9_isFit_45 rfl (lv_at hl 0 rfl) ?_
          refine lv_imul hx hb dX9_isFit_46 ?_
          rw [show ((2 : Int32) * (nI i16)) = (nI (2 * i16)) from pk_mul 2 i16]
          refine lv_iconst (v := (1 : Int32)) hx hb dX9_isFit_47 (by decide) ?_
          refine lv_iadd hx hb dX9_isFit_48 ?_
          rw [show ((nI (2 * i16)) + (1 : Int32)) = (nI ((2 * i16) + 1)) from nI_add (2 * i16) 1]
          refine ia_ld hx hb hK hP 1 rfl (i := ((2 * i16) + 1)) (by omega) (by decide) dX9_isFit_49 ?_
          refine lv_iconst (v := (1 : Int32)) hx hb dX9_isFit_50 (by decide) ?_
          refine lv_icmp_ne (tgt := 58) hx hb dX9_isFit_51 (by decide) (fun c51 => ?_) (fun c51 => ?_)
          · rw [if_neg c51] at hR
            refine lv_iconst (v := (0 : Int32)) hx hb dX9_isFit_58 (by decide) ?_
            refine lv_icmp_ne (tgt := 66) hx hb dX9_isFit_59 (by decide) (fun c59 => ?_) (fun c59 => ?_)
            · rw [if_neg c59] at hR
              refine lv_iconst (v := (0 : Int32)) hx hb dX9_isFit_66 (by decide) ?_
              refine lv_istore_n (lv' := [(2, .int (0 : Int32)), (3, .int (nI i16)), (0, .ref mo), (1, .int xc)]) hx hb dX9_isFit_67 rfl hl (by decide) rfl (fun ls hl => ?_)
              refine lv_iinc (v := (nI (i16 + 1))) (lv' := [(3, .int (nI (i16 + 1))), (2, .int (0 : Int32)), (0, .ref mo), (1, .int xc)]) hx hb dX9_isFit_68 hl (k := 1) rfl (by exact nI_add i16 1) (by decide) rfl (fun ls hl => ?_)
              refine lv_goto (tgt := 16) hx hb dX9_isFit_71 (by decide) ?_
              exact ih16 _ _ (by omega) (by first | assumption | exact Or.inl rfl | exact Or.inr rfl) _ (lv_sub hl [0, 1, 2, 3] rfl) hR
            · rw [if_pos c59] at hR
              refine lv_iconst (v := (1 : Int32)) hx hb dX9_isFit_62 (by decide) ?_
              refine lv_goto (tgt := 67) hx hb dX9_isFit_63 (by decide) ?_
              refine lv_istore_n (lv' := [(2, .int (1 : Int32)), (3, .int (nI i16)), (0, .ref mo), (1, .int xc)]) hx hb dX9_isFit_67 rfl hl (by decide) rfl (fun ls hl => ?_)
              refine lv_iinc (v := (nI (i16 + 1))) (lv' := [(3, .int (nI (i16 + 1))), (2, .int (1 : Int32)), (0, .ref mo), (1, .int xc)]) hx hb dX9_isFit_68 hl (k := 1) rfl (by exact nI_add i16 1) (by decide) rfl (fun ls hl => ?_)
              refine lv_goto (tgt := 16) hx hb dX9_isFit_71 (by decide) ?_
              exact ih16 _ _ (by omega) (by first | assumption | exact Or.inl rfl | exact Or.inr rfl) _ (lv_sub hl [0, 1, 2, 3] rfl) hR
          · rw [if_pos c51] at hR
            refine lv_iconst (v := (1 : Int32)) hx hb dX9_isFit_54 (by decide) ?_
            refine lv_goto (tgt := 59) hx hb dX9_isFit_55 (by decide) ?_
            refine lv_icmp_ne (tgt := 66) hx hb dX9_isFit_59 (by decide) (fun c59 => ?_) (fun c59 => ?_)
            · rw [if_neg c59] at hR
              refine lv_iconst (v := (0 : Int32)) hx hb dX9_isFit_66 (by decide) ?_
              refine lv_istore_n (lv' := [(2, .int (0 : Int32)), (3, .int (nI i16)), (0, .ref mo), (1, .int xc)]) hx hb dX9_isFit_67 rfl hl (by decide) rfl (fun ls hl => ?_)
              refine lv_iinc (v := (nI (i16 + 1))) (lv' := [(3, .int (nI (i16 + 1))), (2, .int (0 : Int32)), (0, .ref mo), (1, .int xc)]) hx hb dX9_isFit_68 hl (k := 1) rfl (by exact nI_add i16 1) (by decide) rfl (fun ls hl => ?_)
              refine lv_goto (tgt := 16) hx hb dX9_isFit_71 (by decide) ?_
              exact ih16 _ _ (by omega) (by first | assumption | exact Or.inl rfl | exact Or.inr rfl) _ (lv_sub hl [0, 1, 2, 3] rfl) hR
            · rw [if_pos c59] at hR
              refine lv_iconst (v := (1 : Int32)) hx hb dX9_isFit_62 (by decide) ?_
              refine lv_goto (tgt := 67) hx hb dX9_isFit_63 (by decide) ?_
              refine lv_istore_n (lv' := [(2, .int (1 : Int32)), (3, .int (nI i16)), (0, .ref mo), (1, .int xc)]) hx hb dX9_isFit_67 rfl hl (by decide) rfl (fun ls hl => ?_)
              refine lv_iinc (v := (nI (i16 + 1))) (lv' := [(3, .int (nI (i16 + 1))), (2, .int (1 : Int32)), (0, .ref mo), (1, .int xc)]) hx hb dX9_isFit_68 hl (k := 1) rfl (by exact nI_add i16 1) (by decide) rfl (fun ls hl => ?_)
              refine lv_goto (tgt := 16) hx hb dX9_isFit_71 (by decide) ?_
              exact ih16 _ _ (by omega) (by first | assumption | exact Or.inl rfl | exact Or.inr rfl) _ (lv_sub hl [0, 1, 2, 3] rfl) hR
    exact hloop16 mo_sights 0 _ (by omega) (by first | exact Or.inl rfl | exact Or.inr rfl) _ hl hR
  · rw [if_neg c5] at hR
    refine lv_iconst (v := (1 : Int32)) hx hb dX9_isFit_8 (by decide) ?_
    refine lv_goto (tgt := 13) hx hb dX9_isFit_9 (by decide) ?_
    refine lv_istore_n (lv' := [(2, .int (1 : Int32)), (0, .ref mo), (1, .int xc)]) hx hb dX9_isFit_13 rfl hl (by decide) rfl (fun ls hl => ?_)
    refine lv_iconst (v := (0 : Int32)) hx hb dX9_isFit_14 (by decide) ?_
    refine lv_istore_n (lv' := [(3, .int (0 : Int32)), (2, .int (1 : Int32)), (0, .ref mo), (1, .int xc)]) hx hb dX9_isFit_15 rfl hl (by decide) rfl (fun ls hl => ?_)
    have hloop16 : ∀ (k16 i16 : Nat) (v2_16 : Int32), i16 + k16 = mo_sights → v2_16 = 0 ∨ v2_16 = 1 → ∀ (ls : Array Slot), lv_has ls 4 [(3, .int (nI i16)), (2, .int v2_16), (0, .ref mo), (1, .int xc)] → lp_X9_isFit_16 mo_sight xc k16 i16 v2_16 = R → W p l e ({ frames := 2, cells := 0, slots := 0, locals := 43 }) s m args below meth c s.heap [] 0 0 (MQ below (ro_Q (.int R)) args s 0 0 (fun _ => False)) (F0 m 16 ls []) := by
      intro k16
      induction k16 with
      | zero =>
        intro i16 v2_16 h16 h01 ls hl hR
        obtain rfl : mo_sights = i16 := by omega
        rw [lp_X9_isFit_16] at hR
        refine lv_iload_n hx hb dX9_isFit_16 rfl (lv_at hl 0 rfl) ?_
        refine lv_aload_n hx hb dX9_isFit_17 rfl (lv_at hl 2 rfl) ?_
        refine va_get (D := D) (ci := 9) (v := .int (nI mo_sights)) (C := RX9) (T := TX9) (N := 19) hx hb hts in_X9_isFit_X9 hown hK.1 hP 0 rfl rfl 4 (by decide) hq0 (fun _ h9 => h9) rfl dX9_isFit_18 ?_
        refine lv_icmp_ge (tgt := 74) hx hb dX9_isFit_21 (by decide) (fun _ => ?_) (fun h => absurd (cle_t (a := mo_sights) (b := mo_sights) rfl rfl (by omega) (by omega)) h)
        refine lv_iload_n hx hb dX9_isFit_74 rfl (lv_at hl 1 rfl) ?_
        subst hR
        exact ro_zret hx hb hr hlocks h01 dX9_isFit_75
      | succ k16 ih16 =>
        intro i16 v2_16 h16 h01 ls hl hR
        rw [lp_X9_isFit_16] at hR
        refine lv_iload_n hx hb dX9_isFit_16 rfl (lv_at hl 0 rfl) ?_
        refine lv_aload_n hx hb dX9_isFit_17 rfl (lv_at hl 2 rfl) ?_
        refine va_get (D := D) (ci := 9) (v := .int (nI mo_sights)) (C := RX9) (T := TX9) (N := 19) hx hb hts in_X9_isFit_X9 hown hK.1 hP 0 rfl rfl 4 (by decide) hq0 (fun _ h9 => h9) rfl dX9_isFit_18 ?_
        refine lv_icmp_ge (tgt := 74) hx hb dX9_isFit_21 (by decide) (fun h => absurd h (cle_f (a := mo_sights) (b := i16) rfl rfl (by omega) (by omega))) (fun _ => ?_)
        refine lv_iload_n hx hb dX9_isFit_24 rfl (lv_at hl 1 rfl) ?_
        refine lv_if_eq (tgt := 74) hx hb dX9_isFit_25 (by decide) (fun c25 => ?_) (fun c25 => ?_)
        · rw [if_pos c25] at hR
          refine lv_iload_n hx hb dX9_isFit_74 rfl (lv_at hl 1 rfl) ?_
          subst hR
          exact ro_zret hx hb hr hlocks h01 dX9_isFit_75
        · rw [if_neg c25] at hR
          refine lv_iload_n hx hb dX9_isFit_28 rfl (lv_at hl 3 rfl) ?_
          refine lv_aload_n hx hb dX9_isFit_29 rfl (lv_at hl 2 rfl) ?_
          refine va_get (D := D) (ci := 9) (v := .ref mo_sight_a) (C := RX9) (T := TX9) (N := 19) hx hb hts in_X9_isFit_X9 hown hK.1 hP 0 rfl rfl 5 (by decide) hq1 (fun _ h9 => h9) rfl dX9_isFit_30 ?_
          refine lv_iconst (v := (2 : Int32)) hx hb dX9_isFit_33 (by decide) ?_
          refine lv_iload_n hx hb dX9_isFit_34 rfl (lv_at hl 0 rfl) ?_
          refine lv_imul hx hb dX9_isFit_35 ?_
          rw [show ((2 : Int32) * (nI i16)) = (nI (2 * i16)) from pk_mul 2 i16]
          refine ia_ld hx hb hK hP 1 rfl (i := (2 * i16)) (by omega) (by decide) dX9_isFit_36 ?_
          refine ro_S (As := [.int xc, .int (mo_sight (2 * i16))]) (rest := []) ⟨hx, hb, hml, hown, hts⟩ hK (c_X9_saysYes l D cI cJ cZ xc (mo_sight (2 * i16))) va_P_nil (va_cwS 2 hts gX9_isFit_X9_saysYes rfl rfl rfl hd_X9_saysYes ⟨(Nat.le_of_ble_eq_true rfl), (Nat.le_of_ble_eq_true rfl)⟩) rfl hl.1 rfl (Nat.le_of_ble_eq_true rfl) dX9_isFit_37 (Nat.zero_le _) (Nat.zero_le _) ?_
          refine lv_aload_n hx hb dX9_isFit_40 rfl (lv_at hl 2 rfl) ?_
          refine va_get (D := D) (ci := 9) (v := .ref mo_sight_a) (C := RX9) (T := TX9) (N := 19) hx hb hts in_X9_isFit_X9 hown hK.1 hP 0 rfl rfl 5 (by decide) hq1 (fun _ h9 => h9) rfl dX9_isFit_41 ?_
          refine lv_iconst (v := (2 : Int32)) hx hb dX9_isFit_44 (by decide) ?_
          refine lv_iload_n hx hb dX9_isFit_45 rfl (lv_at hl 0 rfl) ?_
          refine lv_imul hx hb dX9_isFit_46 ?_
          rw [show ((2 : Int32) * (nI i16)) = (nI (2 * i16)) from pk_mul 2 i16]
          refine lv_iconst (v := (1 : Int32)) hx hb dX9_isFit_47 (by decide) ?_
          refine lv_iadd hx hb dX9_isFit_48 ?_
          rw [show ((nI (2 * i16)) + (1 : Int32)) = (nI ((2 * i16) + 1)) from nI_add (2 * i16) 1]
          refine ia_ld hx hb hK hP 1 rfl (i := ((2 * i16) + 1)) (by omega) (by decide) dX9_isFit_49 ?_
          refine lv_iconst (v := (1 : Int32)) hx hb dX9_isFit_50 (by decide) ?_
          refine lv_icmp_ne (tgt := 58) hx hb dX9_isFit_51 (by decide) (fun c51 => ?_) (fun c51 => ?_)
          · rw [if_neg c51] at hR
            refine lv_iconst (v := (0 : Int32)) hx hb dX9_isFit_58 (by decide) ?_
            refine lv_icmp_ne (tgt := 66) hx hb dX9_isFit_59 (by decide) (fun c59 => ?_) (fun c59 => ?_)
            · rw [if_neg c59] at hR
              refine lv_iconst (v := (0 : Int32)) hx hb dX9_isFit_66 (by decide) ?_
              refine lv_istore_n (lv' := [(2, .int (0 : Int32)), (3, .int (nI i16)), (0, .ref mo), (1, .int xc)]) hx hb dX9_isFit_67 rfl hl (by decide) rfl (fun ls hl => ?_)
              refine lv_iinc (v := (nI (i16 + 1))) (lv' := [(3, .int (nI (i16 + 1))), (2, .int (0 : Int32)), (0, .ref mo), (1, .int xc)]) hx hb dX9_isFit_68 hl (k := 1) rfl (by exact nI_add i16 1) (by decide) rfl (fun ls hl => ?_)
              refine lv_goto (tgt := 16) hx hb dX9_isFit_71 (by decide) ?_
              exact ih16 _ _ (by omega) (by first | assumption | exact Or.inl rfl | exact Or.inr rfl) _ (lv_sub hl [0, 1, 2, 3] rfl) hR
            · rw [if_pos c59] at hR
              refine lv_iconst (v := (1 : Int32)) hx hb dX9_isFit_62 (by decide) ?_
              refine lv_goto (tgt := 67) hx hb dX9_isFit_63 (by decide) ?_
              refine lv_istore_n (lv' := [(2, .int (1 : Int32)), (3, .int (nI i16)), (0, .ref mo), (1, .int xc)]) hx hb dX9_isFit_67 rfl hl (by decide) rfl (fun ls hl => ?_)
              refine lv_iinc (v := (nI (i16 + 1))) (lv' := [(3, .int (nI (i16 + 1))), (2, .int (1 : Int32)), (0, .ref mo), (1, .int xc)]) hx hb dX9_isFit_68 hl (k := 1) rfl (by exact nI_add i16 1) (by decide) rfl (fun ls hl => ?_)
              refine lv_goto (tgt := 16) hx hb dX9_isFit_71 (by decide) ?_
              exact ih16 _ _ (by omega) (by first | assumption | exact Or.inl rfl | exact Or.inr rfl) _ (lv_sub hl [0, 1, 2, 3] rfl) hR
          · rw [if_pos c51] at hR
            refine lv_iconst (v := (1 : Int32)) hx hb dX9_isFit_54 (by decide) ?_
            refine lv_goto (tgt := 59) hx hb dX9_isFit_55 (by decide) ?_
            refine lv_icmp_ne (tgt := 66) hx hb dX9_isFit_59 (by decide) (fun c59 => ?_) (fun c59 => ?_)
            · rw [if_neg c59] at hR
              refine lv_iconst (v := (0 : Int32)) hx hb dX9_isFit_66 (by decide) ?_
              refine lv_istore_n (lv' := [(2, .int (0 : Int32)), (3, .int (nI i16)), (0, .ref mo), (1, .int xc)]) hx hb dX9_isFit_67 rfl hl (by decide) rfl (fun ls hl => ?_)
              refine lv_iinc (v := (nI (i16 + 1))) (lv' := [(3, .int (nI (i16 + 1))), (2, .int (0 : Int32)), (0, .ref mo), (1, .int xc)]) hx hb dX9_isFit_68 hl (k := 1) rfl (by exact nI_add i16 1) (by decide) rfl (fun ls hl => ?_)
              refine lv_goto (tgt := 16) hx hb dX9_isFit_71 (by decide) ?_
              exact ih16 _ _ (by omega) (by first | assumption | exact Or.inl rfl | exact Or.inr rfl) _ (lv_sub hl [0, 1, 2, 3] rfl) hR
            · rw [if_pos c59] at hR
              refine lv_iconst (v := (1 : Int32)) hx hb dX9_isFit_62 (by decide) ?_
              refine lv_goto (tgt := 67) hx hb dX9_isFit_63 (by decide) ?_
              refine lv_istore_n (lv' := [(2, .int (1 : Int32)), (3, .int (nI i16)), (0, .ref mo), (1, .int xc)]) hx hb dX9_isFit_67 rfl hl (by decide) rfl (fun ls hl => ?_)
              refine lv_iinc (v := (nI (i16 + 1))) (lv' := [(3, .int (nI (i16 + 1))), (2, .int (1 : Int32)), (0, .ref mo), (1, .int xc)]) hx hb dX9_isFit_68 hl (k := 1) rfl (by exact nI_add i16 1) (by decide) rfl (fun ls hl => ?_)
              refine lv_goto (tgt := 16) hx hb dX9_isFit_71 (by decide) ?_
              exact ih16 _ _ (by omega) (by first | assumption | exact Or.inl rfl | exact Or.inr rfl) _ (lv_sub hl [0, 1, 2, 3] rfl) hR
    exact hloop16 mo_sights 0 _ (by omega) (by first | exact Or.inl rfl | exact Or.inr rfl) _ hl hR


theorem hd_X9_isFit : yX9_isFit.cls ≠ "java/lang/invoke/MethodHandle" ∧ yX9_isFit.cls ≠ "java/lang/invoke/VarHandle" ∧ (parseMethodDescriptor yX9_isFit.desc).map (fun d => d.parameters.length) = some 1 := by decide +kernel
def lp_X9_stuck_4 (mo_sights : Nat) (mo_sight : Nat → Int32) (xi : Int32) : Nat → Nat → Int32 → Int32
  | 0, _, v2_4 => (if (xi = (-1 : Int32)) then v2_4 else (-6 : Int32))
  | k4 + 1, i4, v2_4 => (if ((f_X9_isFit mo_sights mo_sight (nI i4)) = 0) then (lp_X9_stuck_4 mo_sights mo_sight xi k4 (i4 + 1) v2_4) else (if (v2_4 = xi) then (nI i4) else (lp_X9_stuck_4 mo_sights mo_sight xi k4 (i4 + 1) (v2_4 + 1))))
def f_X9_stuck (mo_sights : Nat) (mo_sight : Nat → Int32) (xi : Int32) : Int32 :=
  (lp_X9_stuck_4 mo_sights mo_sight xi 80 0 (0 : Int32))
set_option maxHeartbeats 4000000 in
set_option maxRecDepth 100000 in
theorem c_X9_stuck (l : Launch) (D : va_G) (cI cJ cZ : ClassId) (mo : Nat) (mo_book_a : Nat) (mo_now_a : Nat) (mo_there : Int32) (mo_beside_a : Nat) (mo_sights : Nat) (mo_sight_a : Nat) (mo_signs : Nat) (mo_pad_a : Nat) (mo_heldAt : Int32) (mo_heldThing : Int32) (mo_reason : Int32) (mo_acts : Int32) (mo_lefts_a : Nat) (mo_inWays_a : Nat) (mo_more_a : Nat) (mo_wins_a : Nat) (mo_been_a : Nat) (mo_image_a : Nat) (mo_isKept_a : Nat) (mo_book : Nat → Int32) (mo_now : Nat → Int32) (mo_beside : Nat → Int32) (mo_sight : Nat → Int32) (mo_pad : Nat → Int32) (mo_lefts : Nat → Int32) (mo_inWays : Nat → Int32) (mo_more : Nat → Int32) (mo_wins : Nat → Int32) (mo_been : Nat → Int64) (mo_image : Nat → Int32) (mo_isKept : Nat → Int32) (xi : Int32) (hsi : mo_sights ≤ 8) : RO l yX9_stuck wsX9_stuck ({ frames := 3, cells := 0, slots := 0, locals := 66 }) [.ref mo, .int xi] D cI cJ cZ [(mo, .inr (9, [.ref mo_book_a, .ref mo_now_a, .int mo_there, .ref mo_beside_a, .int (nI mo_sights), .ref mo_sight_a, .int (nI mo_signs), .ref mo_pad_a, .int mo_heldAt, .int mo_heldThing, .int mo_reason, .int mo_acts, .ref mo_lefts_a, .ref mo_inWays_a, .ref mo_more_a, .ref mo_wins_a, .ref mo_been_a, .ref mo_image_a, .ref mo_isKept_a])), (mo_book_a, .inl (cI, 19, .inl mo_book)), (mo_now_a, .inl (cI, 19, .inl mo_now)), (mo_beside_a, .inl (cI, 7, .inl mo_beside)), (mo_sight_a, .inl (cI, 16, .inl mo_sight)), (mo_pad_a, .inl (cI, 60, .inl mo_pad)), (mo_lefts_a, .inl (cI, 256, .inl mo_lefts)), (mo_inWays_a, .inl (cI, 128, .inl mo_inWays)), (mo_more_a, .inl (cI, 128, .inl mo_more)), (mo_wins_a, .inl (cZ, 201, .inl mo_wins)), (mo_been_a, .inl (cJ, 9, .inr (.inl mo_been))), (mo_image_a, .inl (cI, 100, .inl mo_image)), (mo_isKept_a, .inl (cZ, 2, .inl mo_isKept))] (.int (f_X9_stuck mo_sights mo_sight xi)) := by
  obtain ⟨R, hR⟩ : ∃ R, (f_X9_stuck mo_sights mo_sight xi) = R := ⟨_, rfl⟩
  rw [hR]
  refine ro_start (cc := cX9_stuck) (maxL := 4) (ret := (some .int)) (by decide) rfl (Nat.le_of_ble_eq_true rfl) ?_
  intro p e s m args below meth c hx hb hr hml hown hts hlocks hP hK ls hl
  have hown : s.vm.findClass RX9 = some m.cls := hown
  have hl : lv_has ls 4 [(0, .ref mo), (1, .int xi)] := hl
  rw [f_X9_stuck] at hR
  refine lv_iconst (v := (0 : Int32)) hx hb dX9_stuck_0 (by decide) ?_
  refine lv_istore_n (lv' := [(2, .int (0 : Int32)), (0, .ref mo), (1, .int xi)]) hx hb dX9_stuck_1 rfl hl (by decide) rfl (fun ls hl => ?_)
  refine lv_iconst (v := (0 : Int32)) hx hb dX9_stuck_2 (by decide) ?_
  refine lv_istore_n (lv' := [(3, .int (0 : Int32)), (2, .int (0 : Int32)), (0, .ref mo), (1, .int xi)]) hx hb dX9_stuck_3 rfl hl (by decide) rfl (fun ls hl => ?_)
  have hloop4 : ∀ (k4 i4 : Nat) (v2_4 : Int32), i4 + k4 = 80 → ∀ (ls : Array Slot), lv_has ls 4 [(3, .int (nI i4)), (2, .int v2_4), (0, .ref mo), (1, .int xi)] → lp_X9_stuck_4 mo_sights mo_sight xi k4 i4 v2_4 = R → W p l e ({ frames := 3, cells := 0, slots := 0, locals := 66 }) s m args below meth c s.heap [] 0 0 (MQ below (ro_Q (.int R)) args s 0 0 (fun _ => False)) (F0 m 4 ls []) := by
    intro k4
    induction k4 with
    | zero =>
      intro i4 v2_4 h4  ls hl hR
      obtain rfl : 80 = i4 := by omega
      rw [lp_X9_stuck_4] at hR
      refine lv_iload_n hx hb dX9_stuck_4 rfl (lv_at hl 0 rfl) ?_
      refine lv_bipush (v := (80 : Int32)) hx hb dX9_stuck_5 (by decide +kernel) ?_
      refine lv_icmp_ge (tgt := 34) hx hb dX9_stuck_7 (by decide) (fun _ => ?_) (fun h => absurd (cle_t (a := 80) (b := 80) rfl rfl (by omega) (by omega)) h)
      refine lv_iload_n hx hb dX9_stuck_34 rfl (lv_at hl 3 rfl) ?_
      refine lv_iconst (v := (-1 : Int32)) hx hb dX9_stuck_35 (by decide) ?_
      refine lv_icmp_ne (tgt := 43) hx hb dX9_stuck_36 (by decide) (fun c36 => ?_) (fun c36 => ?_)
      · rw [if_neg c36] at hR
        refine lv_bipush (v := (-6 : Int32)) hx hb dX9_stuck_43 (by decide +kernel) ?_
        subst hR
        exact ro_iret hx hb hr hlocks dX9_stuck_45
      · rw [if_pos c36] at hR
        refine lv_iload_n hx hb dX9_stuck_39 rfl (lv_at hl 1 rfl) ?_
        refine lv_goto (tgt := 45) hx hb dX9_stuck_40 (by decide) ?_
        subst hR
        exact ro_iret hx hb hr hlocks dX9_stuck_45
    | succ k4 ih4 =>
      intro i4 v2_4 h4  ls hl hR
      rw [lp_X9_stuck_4] at hR
      refine lv_iload_n hx hb dX9_stuck_4 rfl (lv_at hl 0 rfl) ?_
      refine lv_bipush (v := (80 : Int32)) hx hb dX9_stuck_5 (by decide +kernel) ?_
      refine lv_icmp_ge (tgt := 34) hx hb dX9_stuck_7 (by decide) (fun h => absurd h (cle_f (a := 80) (b := i4) rfl rfl (by omega) (by omega))) (fun _ => ?_)
      refine lv_aload_n hx hb dX9_stuck_10 rfl (lv_at hl 2 rfl) ?_
      refine lv_iload_n hx hb dX9_stuck_11 rfl (lv_at hl 0 rfl) ?_
      refine ro_V (As := [.int (nI i4)]) (rest := []) ⟨hx, hb, hml, hown, hts⟩ hK (c_X9_isFit l D cI cJ cZ mo mo_book_a mo_now_a mo_there mo_beside_a mo_sights mo_sight_a (nI mo_signs) mo_pad_a mo_heldAt mo_heldThing mo_reason mo_acts mo_lefts_a mo_inWays_a mo_more_a mo_wins_a mo_been_a mo_image_a mo_isKept_a mo_sight (nI i4) (by first | assumption | omega)) hP 0 rfl rfl (rw_sub hP [0, 4] rfl) (cwV 1 hts gX9_stuck_X9_isFit rfl rfl rfl ⟨rfl, hd_X9_isFit⟩ ⟨(Nat.le_of_ble_eq_true rfl), (Nat.le_of_ble_eq_true rfl)⟩) rfl hl.1 rfl (Nat.le_of_ble_eq_true rfl) dX9_stuck_12 (Nat.zero_le _) (Nat.zero_le _) ?_
      refine lv_if_eq (tgt := 28) hx hb dX9_stuck_15 (by decide) (fun c15 => ?_) (fun c15 => ?_)
      · rw [if_pos c15] at hR
        refine lv_iinc (v := (nI (i4 + 1))) (lv' := [(3, .int (nI (i4 + 1))), (2, .int v2_4), (0, .ref mo), (1, .int xi)]) hx hb dX9_stuck_28 hl (k := 0) rfl (by exact nI_add i4 1) (by decide) rfl (fun ls hl => ?_)
        refine lv_goto (tgt := 4) hx hb dX9_stuck_31 (by decide) ?_
        exact ih4 _ _ (by omega) _ (lv_sub hl [0, 1, 2, 3] rfl) hR
      · rw [if_neg c15] at hR
        refine lv_iload_n hx hb dX9_stuck_18 rfl (lv_at hl 1 rfl) ?_
        refine lv_iload_n hx hb dX9_stuck_19 rfl (lv_at hl 3 rfl) ?_
        refine lv_icmp_ne (tgt := 25) hx hb dX9_stuck_20 (by decide) (fun c20 => ?_) (fun c20 => ?_)
        · rw [if_neg c20] at hR
          refine lv_iinc (v := (v2_4 + 1)) (lv' := [(2, .int (v2_4 + 1)), (3, .int (nI i4)), (0, .ref mo), (1, .int xi)]) hx hb dX9_stuck_25 hl (k := 1) rfl rfl (by decide) rfl (fun ls hl => ?_)
          refine lv_iinc (v := (nI (i4 + 1))) (lv' := [(3, .int (nI (i4 + 1))), (2, .int (v2_4 + 1)), (0, .ref mo), (1, .int xi)]) hx hb dX9_stuck_28 hl (k := 1) rfl (by exact nI_add i4 1) (by decide) rfl (fun ls hl => ?_)
          refine lv_goto (tgt := 4) hx hb dX9_stuck_31 (by decide) ?_
          exact ih4 _ _ (by omega) _ (lv_sub hl [0, 1, 2, 3] rfl) hR
        · rw [if_pos c20] at hR
          refine lv_iload_n hx hb dX9_stuck_23 rfl (lv_at hl 0 rfl) ?_
          subst hR
          exact ro_iret hx hb hr hlocks dX9_stuck_24
  exact hloop4 80 0 _ (by omega) _ hl hR


def lp_X9_ask_37 (mo_sights : Nat) (mo_sight : Nat → Int32) (i21 : Nat) : Nat → Nat → Int32 → Int32 → Int32 × Int32
  | 0, _, v5_37, v6_37 => (v5_37, v6_37)
  | k37 + 1, i37, v5_37, v6_37 => (if ((f_X9_isFit mo_sights mo_sight (nI i37)) = 0) then (lp_X9_ask_37 mo_sights mo_sight i21 k37 (i37 + 1) (v5_37 + (0 : Int32)) (v6_37 + (0 : Int32))) else (if ((f_X9_saysYes (nI i37) (nI i21)) = 0) then (lp_X9_ask_37 mo_sights mo_sight i21 k37 (i37 + 1) (v5_37 + (1 : Int32)) (v6_37 + (0 : Int32))) else (lp_X9_ask_37 mo_sights mo_sight i21 k37 (i37 + 1) (v5_37 + (1 : Int32)) (v6_37 + (1 : Int32)))))
def lp_X9_ask_21 (mo_sights : Nat) (mo_sight : Nat → Int32) : Nat → Nat → Int32 → Int32 → Int32 × Int32
  | 0, _, v2_21, v3_21 => (v2_21, v3_21)
  | k21 + 1, i21, v2_21, v3_21 => (if ((lp_X9_ask_37 mo_sights mo_sight i21 80 0 (0 : Int32) (0 : Int32)).2 ≤ ((lp_X9_ask_37 mo_sights mo_sight i21 80 0 (0 : Int32) (0 : Int32)).1 - (lp_X9_ask_37 mo_sights mo_sight i21 80 0 (0 : Int32) (0 : Int32)).2)) then (if ((lp_X9_ask_37 mo_sights mo_sight i21 80 0 (0 : Int32) (0 : Int32)).1 ≤ 0) then (lp_X9_ask_21 mo_sights mo_sight k21 (i21 + 1) v2_21 v3_21) else (if (v3_21 ≤ ((lp_X9_ask_37 mo_sights mo_sight i21 80 0 (0 : Int32) (0 : Int32)).1 - (lp_X9_ask_37 mo_sights mo_sight i21 80 0 (0 : Int32) (0 : Int32)).2)) then (lp_X9_ask_21 mo_sights mo_sight k21 (i21 + 1) v2_21 v3_21) else (lp_X9_ask_21 mo_sights mo_sight k21 (i21 + 1) (nI i21) ((lp_X9_ask_37 mo_sights mo_sight i21 80 0 (0 : Int32) (0 : Int32)).1 - (lp_X9_ask_37 mo_sights mo_sight i21 80 0 (0 : Int32) (0 : Int32)).2)))) else (if ((lp_X9_ask_37 mo_sights mo_sight i21 80 0 (0 : Int32) (0 : Int32)).1 ≤ 0) then (lp_X9_ask_21 mo_sights mo_sight k21 (i21 + 1) v2_21 v3_21) else (if (v3_21 ≤ (lp_X9_ask_37 mo_sights mo_sight i21 80 0 (0 : Int32) (0 : Int32)).2) then (lp_X9_ask_21 mo_sights mo_sight k21 (i21 + 1) v2_21 v3_21) else (lp_X9_ask_21 mo_sights mo_sight k21 (i21 + 1) (nI i21) (lp_X9_ask_37 mo_sights mo_sight i21 80 0 (0 : Int32) (0 : Int32)).2))))
def f_X9_ask (mo_sights : Nat) (mo_sight : Nat → Int32) (xk : Int32) : Int32 :=
  (if ((f_X9_in xk (0 : Int32) (1 : Int32)) = 0) then (-2 : Int32) else (if ((lp_X9_ask_21 mo_sights mo_sight 8 0 (-6 : Int32) (1000000 : Int32)).1 < 0) then (lp_X9_ask_21 mo_sights mo_sight 8 0 (-6 : Int32) (1000000 : Int32)).1 else (if (xk = 0) then (lp_X9_ask_21 mo_sights mo_sight 8 0 (-6 : Int32) (1000000 : Int32)).1 else (lp_X9_ask_21 mo_sights mo_sight 8 0 (-6 : Int32) (1000000 : Int32)).2)))
set_option maxHeartbeats 4000000 in
set_option maxRecDepth 100000 in
theorem c_X9_ask (l : Launch) (D : va_G) (cI cJ cZ : ClassId) (mo : Nat) (mo_book_a : Nat) (mo_now_a : Nat) (mo_there : Int32) (mo_beside_a : Nat) (mo_sights : Nat) (mo_sight_a : Nat) (mo_signs : Nat) (mo_pad_a : Nat) (mo_heldAt : Int32) (mo_heldThing : Int32) (mo_reason : Int32) (mo_acts : Int32) (mo_lefts_a : Nat) (mo_inWays_a : Nat) (mo_more_a : Nat) (mo_wins_a : Nat) (mo_been_a : Nat) (mo_image_a : Nat) (mo_isKept_a : Nat) (mo_book : Nat → Int32) (mo_now : Nat → Int32) (mo_beside : Nat → Int32) (mo_sight : Nat → Int32) (mo_pad : Nat → Int32) (mo_lefts : Nat → Int32) (mo_inWays : Nat → Int32) (mo_more : Nat → Int32) (mo_wins : Nat → Int32) (mo_been : Nat → Int64) (mo_image : Nat → Int32) (mo_isKept : Nat → Int32) (xk : Int32) (hsi : mo_sights ≤ 8) : RO l yX9_ask wsX9_ask ({ frames := 3, cells := 0, slots := 0, locals := 66 }) [.ref mo, .int xk] D cI cJ cZ [(mo, .inr (9, [.ref mo_book_a, .ref mo_now_a, .int mo_there, .ref mo_beside_a, .int (nI mo_sights), .ref mo_sight_a, .int (nI mo_signs), .ref mo_pad_a, .int mo_heldAt, .int mo_heldThing, .int mo_reason, .int mo_acts, .ref mo_lefts_a, .ref mo_inWays_a, .ref mo_more_a, .ref mo_wins_a, .ref mo_been_a, .ref mo_image_a, .ref mo_isKept_a])), (mo_book_a, .inl (cI, 19, .inl mo_book)), (mo_now_a, .inl (cI, 19, .inl mo_now)), (mo_beside_a, .inl (cI, 7, .inl mo_beside)), (mo_sight_a, .inl (cI, 16, .inl mo_sight)), (mo_pad_a, .inl (cI, 60, .inl mo_pad)), (mo_lefts_a, .inl (cI, 256, .inl mo_lefts)), (mo_inWays_a, .inl (cI, 128, .inl mo_inWays)), (mo_more_a, .inl (cI, 128, .inl mo_more)), (mo_wins_a, .inl (cZ, 201, .inl mo_wins)), (mo_been_a, .inl (cJ, 9, .inr (.inl mo_been))), (mo_image_a, .inl (cI, 100, .inl mo_image)), (mo_isKept_a, .inl (cZ, 2, .inl mo_isKept))] (.int (f_X9_ask mo_sights mo_sight xk)) := by
  obtain ⟨R, hR⟩ : ∃ R, (f_X9_ask mo_sights mo_sight xk) = R := ⟨_, rfl⟩
  rw [hR]
  refine ro_start (cc := cX9_ask) (maxL := 9) (ret := (some .int)) (by decide) rfl (Nat.le_of_ble_eq_true rfl) ?_
  intro p e s m args below meth c hx hb hr hml hown hts hlocks hP hK ls hl
  have hown : s.vm.findClass RX9 = some m.cls := hown
  have hl : lv_has ls 9 [(0, .ref mo), (1, .int xk)] := hl
  have hq0 := hts (.constant RX9 145 (1000000)) (by decide +kernel)
  rw [f_X9_ask] at hR
  refine lv_iload_n hx hb dX9_ask_0 rfl (lv_at hl 1 rfl) ?_
  refine lv_iconst (v := (0 : Int32)) hx hb dX9_ask_1 (by decide) ?_
  refine lv_iconst (v := (1 : Int32)) hx hb dX9_ask_2 (by decide) ?_
  refine ro_S (As := [.int xk, .int (0 : Int32), .int (1 : Int32)]) (rest := []) ⟨hx, hb, hml, hown, hts⟩ hK (c_X9_in l D cI cJ cZ xk (0 : Int32) (1 : Int32)) va_P_nil (va_cwS 3 hts gX9_ask_X9_in rfl rfl rfl hd_X9_in ⟨(Nat.le_of_ble_eq_true rfl), (Nat.le_of_ble_eq_true rfl)⟩) rfl hl.1 rfl (Nat.le_of_ble_eq_true rfl) dX9_ask_3 (Nat.zero_le _) (Nat.zero_le _) ?_
  refine lv_if_ne (tgt := 12) hx hb dX9_ask_6 (by decide) (fun c6 => ?_) (fun c6 => ?_)
  · rw [if_neg c6] at hR
    refine lv_bipush (v := (-6 : Int32)) hx hb dX9_ask_12 (by decide +kernel) ?_
    refine lv_istore_n (lv' := [(2, .int (-6 : Int32)), (0, .ref mo), (1, .int xk)]) hx hb dX9_ask_14 rfl hl (by decide) rfl (fun ls hl => ?_)
    refine lv_ldc (v := (1000000 : Int32)) hx hb hown hq0 dX9_ask_15 ?_
    refine lv_istore_n (lv' := [(3, .int (1000000 : Int32)), (2, .int (-6 : Int32)), (0, .ref mo), (1, .int xk)]) hx hb dX9_ask_17 rfl hl (by decide) rfl (fun ls hl => ?_)
    refine lv_iconst (v := (0 : Int32)) hx hb dX9_ask_18 (by decide) ?_
    refine lv_istore (lv' := [(4, .int (0 : Int32)), (3, .int (1000000 : Int32)), (2, .int (-6 : Int32)), (0, .ref mo), (1, .int xk)]) hx hb dX9_ask_19 hl (by decide) rfl (fun ls hl => ?_)
    obtain ⟨F21_1, hF21_1⟩ : ∃ x, (lp_X9_ask_21 mo_sights mo_sight 8 0 (-6 : Int32) (1000000 : Int32)) = x := ⟨_, rfl⟩
    try rw [hF21_1] at hR
    have hexit21 : ∀ (ls : Array Slot), lv_has ls 9 [(3, .int F21_1.2), (2, .int F21_1.1), (0, .ref mo), (1, .int xk)] → W p l e ({ frames := 3, cells := 0, slots := 0, locals := 66 }) s m args below meth c s.heap [] 0 0 (MQ below (ro_Q (.int R)) args s 0 0 (fun _ => False)) (F0 m 168 ls []) := by
      intro ls hl
      refine lv_iload_n hx hb dX9_ask_168 rfl (lv_at hl 1 rfl) ?_
      refine lv_if_lt (tgt := 176) hx hb dX9_ask_169 (by decide) (fun c169 => ?_) (fun c169 => ?_)
      · rw [if_pos c169] at hR
        refine lv_iload_n hx hb dX9_ask_176 rfl (lv_at hl 1 rfl) ?_
        refine lv_goto (tgt := 181) hx hb dX9_ask_177 (by decide) ?_
        subst hR
        exact ro_iret hx hb hr hlocks dX9_ask_181
      · rw [if_neg c169] at hR
        refine lv_iload_n hx hb dX9_ask_172 rfl (lv_at hl 3 rfl) ?_
        refine lv_if_ne (tgt := 180) hx hb dX9_ask_173 (by decide) (fun c173 => ?_) (fun c173 => ?_)
        · rw [if_neg c173] at hR
          refine lv_iload_n hx hb dX9_ask_180 rfl (lv_at hl 0 rfl) ?_
          subst hR
          exact ro_iret hx hb hr hlocks dX9_ask_181
        · rw [if_pos c173] at hR
          refine lv_iload_n hx hb dX9_ask_176 rfl (lv_at hl 1 rfl) ?_
          refine lv_goto (tgt := 181) hx hb dX9_ask_177 (by decide) ?_
          subst hR
          exact ro_iret hx hb hr hlocks dX9_ask_181
    have hloop21 : ∀ (k21 i21 : Nat) (v2_21 : Int32) (v3_21 : Int32), i21 + k21 = 8 → ∀ (ls : Array Slot), lv_has ls 9 [(4, .int (nI i21)), (3, .int v3_21), (2, .int v2_21), (0, .ref mo), (1, .int xk)] → lp_X9_ask_21 mo_sights mo_sight k21 i21 v2_21 v3_21 = F21_1 → W p l e ({ frames := 3, cells := 0, slots := 0, locals := 66 }) s m args below meth c s.heap [] 0 0 (MQ below (ro_Q (.int R)) args s 0 0 (fun _ => False)) (F0 m 21 ls []) := by
      intro k21
      induction k21 with
      | zero =>
        intro i21 v2_21 v3_21 h21  ls hl hR
        obtain rfl : 8 = i21 := by omega
        rw [lp_X9_ask_21] at hR
        refine lv_iload hx hb dX9_ask_21 (lv_at hl 0 rfl) ?_
        refine lv_bipush (v := (8 : Int32)) hx hb dX9_ask_23 (by decide +kernel) ?_
        refine lv_icmp_ge (tgt := 168) hx hb dX9_ask_25 (by decide) (fun _ => ?_) (fun h => absurd (cle_t (a := 8) (b := 8) rfl rfl (by omega) (by omega)) h)
        subst hR
        exact hexit21 _ (lv_sub hl [1, 2, 3, 4] rfl)
      | succ k21 ih21 =>
        intro i21 v2_21 v3_21 h21  ls hl hR
        rw [lp_X9_ask_21] at hR
        refine lv_iload hx hb dX9_ask_21 (lv_at hl 0 rfl) ?_
        refine lv_bipush (v := (8 : Int32)) hx hb dX9_ask_23 (by decide +kernel) ?_
        refine lv_icmp_ge (tgt := 168) hx hb dX9_ask_25 (by decide) (fun h => absurd h (cle_f (a := 8) (b := i21) rfl rfl (by omega) (by omega))) (fun _ => ?_)
        refine lv_iconst (v := (0 : Int32)) hx hb dX9_ask_28 (by decide) ?_
        refine lv_istore (lv' := [(5, .int (0 : Int32)), (4, .int (nI i21)), (3, .int v3_21), (2, .int v2_21), (0, .ref mo), (1, .int xk)]) hx hb dX9_ask_29 hl (by decide) rfl (fun ls hl => ?_)
        refine lv_iconst (v := (0 : Int32)) hx hb dX9_ask_31 (by decide) ?_
        refine lv_istore (lv' := [(6, .int (0 : Int32)), (5, .int (0 : Int32)), (4, .int (nI i21)), (3, .int v3_21), (2, .int v2_21), (0, .ref mo), (1, .int xk)]) hx hb dX9_ask_32 hl (by decide) rfl (fun ls hl => ?_)
        refine lv_iconst (v := (0 : Int32)) hx hb dX9_ask_34 (by decide) ?_
        refine lv_istore (lv' := [(7, .int (0 : Int32)), (6, .int (0 : Int32)), (5, .int (0 : Int32)), (4, .int (nI i21)), (3, .int v3_21), (2, .int v2_21), (0, .ref mo), (1, .int xk)]) hx hb dX9_ask_35 hl (by decide) rfl (fun ls hl => ?_)
        obtain ⟨F37_2, hF37_2⟩ : ∃ x, (lp_X9_ask_37 mo_sights mo_sight i21 80 0 (0 : Int32) (0 : Int32)) = x := ⟨_, rfl⟩
        try rw [hF37_2] at hR
        have hexit37 : ∀ (ls : Array Slot), lv_has ls 9 [(6, .int F37_2.2), (5, .int F37_2.1), (4, .int (nI i21)), (3, .int v3_21), (2, .int v2_21), (0, .ref mo), (1, .int xk)] → W p l e ({ frames := 3, cells := 0, slots := 0, locals := 66 }) s m args below meth c s.heap [] 0 0 (MQ below (ro_Q (.int R)) args s 0 0 (fun _ => False)) (F0 m 98 ls []) := by
          intro ls hl
          refine lv_iload hx hb dX9_ask_98 (lv_at hl 0 rfl) ?_
          refine lv_iload hx hb dX9_ask_100 (lv_at hl 1 rfl) ?_
          refine lv_iload hx hb dX9_ask_102 (lv_at hl 0 rfl) ?_
          refine lv_isub hx hb dX9_ask_104 ?_
          refine lv_icmp_le (tgt := 113) hx hb dX9_ask_105 (by decide) (fun c105 => ?_) (fun c105 => ?_)
          · rw [if_pos c105] at hR
            refine lv_iload hx hb dX9_ask_113 (lv_at hl 1 rfl) ?_
            refine lv_iload hx hb dX9_ask_115 (lv_at hl 0 rfl) ?_
            refine lv_isub hx hb dX9_ask_117 ?_
            refine lv_istore (lv' := [(7, .int (F37_2.1 - F37_2.2)), (6, .int F37_2.2), (5, .int F37_2.1), (4, .int (nI i21)), (3, .int v3_21), (2, .int v2_21), (0, .ref mo), (1, .int xk)]) hx hb dX9_ask_118 hl (by decide) rfl (fun ls hl => ?_)
            refine lv_iload hx hb dX9_ask_120 (lv_at hl 2 rfl) ?_
            refine lv_if_le (tgt := 135) hx hb dX9_ask_122 (by decide) (fun c122 => ?_) (fun c122 => ?_)
            · rw [if_pos c122] at hR
              refine lv_iconst (v := (0 : Int32)) hx hb dX9_ask_135 (by decide) ?_
              refine lv_istore (lv' := [(8, .int (0 : Int32)), (7, .int (F37_2.1 - F37_2.2)), (6, .int F37_2.2), (5, .int F37_2.1), (4, .int (nI i21)), (3, .int v3_21), (2, .int v2_21), (0, .ref mo), (1, .int xk)]) hx hb dX9_ask_136 hl (by decide) rfl (fun ls hl => ?_)
              refine lv_iload hx hb dX9_ask_138 (lv_at hl 0 rfl) ?_
              refine lv_if_eq (tgt := 148) hx hb dX9_ask_140 (by decide) (fun _ => ?_) (fun h => absurd (by decide) h)
              refine lv_iload_n hx hb dX9_ask_148 rfl (lv_at hl 6 rfl) ?_
              refine lv_istore_n (lv' := [(2, .int v2_21), (8, .int (0 : Int32)), (7, .int (F37_2.1 - F37_2.2)), (6, .int F37_2.2), (5, .int F37_2.1), (4, .int (nI i21)), (3, .int v3_21), (0, .ref mo), (1, .int xk)]) hx hb dX9_ask_149 rfl hl (by decide) rfl (fun ls hl => ?_)
              refine lv_iload hx hb dX9_ask_150 (lv_at hl 1 rfl) ?_
              refine lv_if_eq (tgt := 160) hx hb dX9_ask_152 (by decide) (fun _ => ?_) (fun h => absurd (by decide) h)
              refine lv_iload_n hx hb dX9_ask_160 rfl (lv_at hl 6 rfl) ?_
              refine lv_istore_n (lv' := [(3, .int v3_21), (2, .int v2_21), (8, .int (0 : Int32)), (7, .int (F37_2.1 - F37_2.2)), (6, .int F37_2.2), (5, .int F37_2.1), (4, .int (nI i21)), (0, .ref mo), (1, .int xk)]) hx hb dX9_ask_161 rfl hl (by decide) rfl (fun ls hl => ?_)
              refine lv_iinc (v := (nI (i21 + 1))) (lv' := [(4, .int (nI (i21 + 1))), (3, .int v3_21), (2, .int v2_21), (8, .int (0 : Int32)), (7, .int (F37_2.1 - F37_2.2)), (6, .int F37_2.2), (5, .int F37_2.1), (0, .ref mo), (1, .int xk)]) hx hb dX9_ask_162 hl (k := 6) rfl (by exact nI_add i21 1) (by decide) rfl (fun ls hl => ?_)
              refine lv_goto (tgt := 21) hx hb dX9_ask_165 (by decide) ?_
              exact ih21 _ _ _ (by omega) _ (lv_sub hl [0, 1, 2, 7, 8] rfl) hR
            · rw [if_neg c122] at hR
              refine lv_iload hx hb dX9_ask_125 (lv_at hl 0 rfl) ?_
              refine lv_iload_n hx hb dX9_ask_127 rfl (lv_at hl 4 rfl) ?_
              refine lv_icmp_ge (tgt := 135) hx hb dX9_ask_128 (by decide) (fun c128 => ?_) (fun c128 => ?_)
              · rw [if_pos c128] at hR
                refine lv_iconst (v := (0 : Int32)) hx hb dX9_ask_135 (by decide) ?_
                refine lv_istore (lv' := [(8, .int (0 : Int32)), (7, .int (F37_2.1 - F37_2.2)), (6, .int F37_2.2), (5, .int F37_2.1), (4, .int (nI i21)), (3, .int v3_21), (2, .int v2_21), (0, .ref mo), (1, .int xk)]) hx hb dX9_ask_136 hl (by decide) rfl (fun ls hl => ?_)
                refine lv_iload hx hb dX9_ask_138 (lv_at hl 0 rfl) ?_
                refine lv_if_eq (tgt := 148) hx hb dX9_ask_140 (by decide) (fun _ => ?_) (fun h => absurd (by decide) h)
                refine lv_iload_n hx hb dX9_ask_148 rfl (lv_at hl 6 rfl) ?_
                refine lv_istore_n (lv' := [(2, .int v2_21), (8, .int (0 : Int32)), (7, .int (F37_2.1 - F37_2.2)), (6, .int F37_2.2), (5, .int F37_2.1), (4, .int (nI i21)), (3, .int v3_21), (0, .ref mo), (1, .int xk)]) hx hb dX9_ask_149 rfl hl (by decide) rfl (fun ls hl => ?_)
                refine lv_iload hx hb dX9_ask_150 (lv_at hl 1 rfl) ?_
                refine lv_if_eq (tgt := 160) hx hb dX9_ask_152 (by decide) (fun _ => ?_) (fun h => absurd (by decide) h)
                refine lv_iload_n hx hb dX9_ask_160 rfl (lv_at hl 6 rfl) ?_
                refine lv_istore_n (lv' := [(3, .int v3_21), (2, .int v2_21), (8, .int (0 : Int32)), (7, .int (F37_2.1 - F37_2.2)), (6, .int F37_2.2), (5, .int F37_2.1), (4, .int (nI i21)), (0, .ref mo), (1, .int xk)]) hx hb dX9_ask_161 rfl hl (by decide) rfl (fun ls hl => ?_)
                refine lv_iinc (v := (nI (i21 + 1))) (lv' := [(4, .int (nI (i21 + 1))), (3, .int v3_21), (2, .int v2_21), (8, .int (0 : Int32)), (7, .int (F37_2.1 - F37_2.2)), (6, .int F37_2.2), (5, .int F37_2.1), (0, .ref mo), (1, .int xk)]) hx hb dX9_ask_162 hl (k := 6) rfl (by exact nI_add i21 1) (by decide) rfl (fun ls hl => ?_)
                refine lv_goto (tgt := 21) hx hb dX9_ask_165 (by decide) ?_
                exact ih21 _ _ _ (by omega) _ (lv_sub hl [0, 1, 2, 7, 8] rfl) hR
              · rw [if_neg c128] at hR
                refine lv_iconst (v := (1 : Int32)) hx hb dX9_ask_131 (by decide) ?_
                refine lv_goto (tgt := 136) hx hb dX9_ask_132 (by decide) ?_
                refine lv_istore (lv' := [(8, .int (1 : Int32)), (7, .int (F37_2.1 - F37_2.2)), (6, .int F37_2.2), (5, .int F37_2.1), (4, .int (nI i21)), (3, .int v3_21), (2, .int v2_21), (0, .ref mo), (1, .int xk)]) hx hb dX9_ask_136 hl (by decide) rfl (fun ls hl => ?_)
                refine lv_iload hx hb dX9_ask_138 (lv_at hl 0 rfl) ?_
                refine lv_if_eq (tgt := 148) hx hb dX9_ask_140 (by decide) (fun h => absurd h (by decide)) (fun _ => ?_)
                refine lv_iload hx hb dX9_ask_143 (lv_at hl 4 rfl) ?_
                refine lv_goto (tgt := 149) hx hb dX9_ask_145 (by decide) ?_
                refine lv_istore_n (lv' := [(2, .int (nI i21)), (8, .int (1 : Int32)), (7, .int (F37_2.1 - F37_2.2)), (6, .int F37_2.2), (5, .int F37_2.1), (4, .int (nI i21)), (3, .int v3_21), (0, .ref mo), (1, .int xk)]) hx hb dX9_ask_149 rfl hl (by decide) rfl (fun ls hl => ?_)
                refine lv_iload hx hb dX9_ask_150 (lv_at hl 1 rfl) ?_
                refine lv_if_eq (tgt := 160) hx hb dX9_ask_152 (by decide) (fun h => absurd h (by decide)) (fun _ => ?_)
                refine lv_iload hx hb dX9_ask_155 (lv_at hl 2 rfl) ?_
                refine lv_goto (tgt := 161) hx hb dX9_ask_157 (by decide) ?_
                refine lv_istore_n (lv' := [(3, .int (F37_2.1 - F37_2.2)), (2, .int (nI i21)), (8, .int (1 : Int32)), (7, .int (F37_2.1 - F37_2.2)), (6, .int F37_2.2), (5, .int F37_2.1), (4, .int (nI i21)), (0, .ref mo), (1, .int xk)]) hx hb dX9_ask_161 rfl hl (by decide) rfl (fun ls hl => ?_)
                refine lv_iinc (v := (nI (i21 + 1))) (lv' := [(4, .int (nI (i21 + 1))), (3, .int (F37_2.1 - F37_2.2)), (2, .int (nI i21)), (8, .int (1 : Int32)), (7, .int (F37_2.1 - F37_2.2)), (6, .int F37_2.2), (5, .int F37_2.1), (0, .ref mo), (1, .int xk)]) hx hb dX9_ask_162 hl (k := 6) rfl (by exact nI_add i21 1) (by decide) rfl (fun ls hl => ?_)
                refine lv_goto (tgt := 21) hx hb dX9_ask_165 (by decide) ?_
                exact ih21 _ _ _ (by omega) _ (lv_sub hl [0, 1, 2, 7, 8] rfl) hR
          · rw [if_neg c105] at hR
            refine lv_iload hx hb dX9_ask_108 (lv_at hl 0 rfl) ?_
            refine lv_goto (tgt := 118) hx hb dX9_ask_110 (by decide) ?_
            refine lv_istore (lv' := [(7, .int F37_2.2), (6, .int F37_2.2), (5, .int F37_2.1), (4, .int (nI i21)), (3, .int v3_21), (2, .int v2_21), (0, .ref mo), (1, .int xk)]) hx hb dX9_ask_118 hl (by decide) rfl (fun ls hl => ?_)
            refine lv_iload hx hb dX9_ask_120 (lv_at hl 2 rfl) ?_
            refine lv_if_le (tgt := 135) hx hb dX9_ask_122 (by decide) (fun c122 => ?_) (fun c122 => ?_)
            · rw [if_pos c122] at hR
              refine lv_iconst (v := (0 : Int32)) hx hb dX9_ask_135 (by decide) ?_
              refine lv_istore (lv' := [(8, .int (0 : Int32)), (7, .int F37_2.2), (6, .int F37_2.2), (5, .int F37_2.1), (4, .int (nI i21)), (3, .int v3_21), (2, .int v2_21), (0, .ref mo), (1, .int xk)]) hx hb dX9_ask_136 hl (by decide) rfl (fun ls hl => ?_)
              refine lv_iload hx hb dX9_ask_138 (lv_at hl 0 rfl) ?_
              refine lv_if_eq (tgt := 148) hx hb dX9_ask_140 (by decide) (fun _ => ?_) (fun h => absurd (by decide) h)
              refine lv_iload_n hx hb dX9_ask_148 rfl (lv_at hl 6 rfl) ?_
              refine lv_istore_n (lv' := [(2, .int v2_21), (8, .int (0 : Int32)), (7, .int F37_2.2), (6, .int F37_2.2), (5, .int F37_2.1), (4, .int (nI i21)), (3, .int v3_21), (0, .ref mo), (1, .int xk)]) hx hb dX9_ask_149 rfl hl (by decide) rfl (fun ls hl => ?_)
              refine lv_iload hx hb dX9_ask_150 (lv_at hl 1 rfl) ?_
              refine lv_if_eq (tgt := 160) hx hb dX9_ask_152 (by decide) (fun _ => ?_) (fun h => absurd (by decide) h)
              refine lv_iload_n hx hb dX9_ask_160 rfl (lv_at hl 6 rfl) ?_
              refine lv_istore_n (lv' := [(3, .int v3_21), (2, .int v2_21), (8, .int (0 : Int32)), (7, .int F37_2.2), (6, .int F37_2.2), (5, .int F37_2.1), (4, .int (nI i21)), (0, .ref mo), (1, .int xk)]) hx hb dX9_ask_161 rfl hl (by decide) rfl (fun ls hl => ?_)
              refine lv_iinc (v := (nI (i21 + 1))) (lv' := [(4, .int (nI (i21 + 1))), (3, .int v3_21), (2, .int v2_21), (8, .int (0 : Int32)), (7, .int F37_2.2), (6, .int F37_2.2), (5, .int F37_2.1), (0, .ref mo), (1, .int xk)]) hx hb dX9_ask_162 hl (k := 6) rfl (by exact nI_add i21 1) (by decide) rfl (fun ls hl => ?_)
              refine lv_goto (tgt := 21) hx hb dX9_ask_165 (by decide) ?_
              exact ih21 _ _ _ (by omega) _ (lv_sub hl [0, 1, 2, 7, 8] rfl) hR
            · rw [if_neg c122] at hR
              refine lv_iload hx hb dX9_ask_125 (lv_at hl 0 rfl) ?_
              refine lv_iload_n hx hb dX9_ask_127 rfl (lv_at hl 4 rfl) ?_
              refine lv_icmp_ge (tgt := 135) hx hb dX9_ask_128 (by decide) (fun c128 => ?_) (fun c128 => ?_)
              · rw [if_pos c128] at hR
                refine lv_iconst (v := (0 : Int32)) hx hb dX9_ask_135 (by decide) ?_
                refine lv_istore (lv' := [(8, .int (0 : Int32)), (7, .int F37_2.2), (6, .int F37_2.2), (5, .int F37_2.1), (4, .int (nI i21)), (3, .int v3_21), (2, .int v2_21), (0, .ref mo), (1, .int xk)]) hx hb dX9_ask_136 hl (by decide) rfl (fun ls hl => ?_)
                refine lv_iload hx hb dX9_ask_138 (lv_at hl 0 rfl) ?_
                refine lv_if_eq (tgt := 148) hx hb dX9_ask_140 (by decide) (fun _ => ?_) (fun h => absurd (by decide) h)
                refine lv_iload_n hx hb dX9_ask_148 rfl (lv_at hl 6 rfl) ?_
                refine lv_istore_n (lv' := [(2, .int v2_21), (8, .int (0 : Int32)), (7, .int F37_2.2), (6, .int F37_2.2), (5, .int F37_2.1), (4, .int (nI i21)), (3, .int v3_21), (0, .ref mo), (1, .int xk)]) hx hb dX9_ask_149 rfl hl (by decide) rfl (fun ls hl => ?_)
                refine lv_iload hx hb dX9_ask_150 (lv_at hl 1 rfl) ?_
                refine lv_if_eq (tgt := 160) hx hb dX9_ask_152 (by decide) (fun _ => ?_) (fun h => absurd (by decide) h)
                refine lv_iload_n hx hb dX9_ask_160 rfl (lv_at hl 6 rfl) ?_
                refine lv_istore_n (lv' := [(3, .int v3_21), (2, .int v2_21), (8, .int (0 : Int32)), (7, .int F37_2.2), (6, .int F37_2.2), (5, .int F37_2.1), (4, .int (nI i21)), (0, .ref mo), (1, .int xk)]) hx hb dX9_ask_161 rfl hl (by decide) rfl (fun ls hl => ?_)
                refine lv_iinc (v := (nI (i21 + 1))) (lv' := [(4, .int (nI (i21 + 1))), (3, .int v3_21), (2, .int v2_21), (8, .int (0 : Int32)), (7, .int F37_2.2), (6, .int F37_2.2), (5, .int F37_2.1), (0, .ref mo), (1, .int xk)]) hx hb dX9_ask_162 hl (k := 6) rfl (by exact nI_add i21 1) (by decide) rfl (fun ls hl => ?_)
                refine lv_goto (tgt := 21) hx hb dX9_ask_165 (by decide) ?_
                exact ih21 _ _ _ (by omega) _ (lv_sub hl [0, 1, 2, 7, 8] rfl) hR
              · rw [if_neg c128] at hR
                refine lv_iconst (v := (1 : Int32)) hx hb dX9_ask_131 (by decide) ?_
                refine lv_goto (tgt := 136) hx hb dX9_ask_132 (by decide) ?_
                refine lv_istore (lv' := [(8, .int (1 : Int32)), (7, .int F37_2.2), (6, .int F37_2.2), (5, .int F37_2.1), (4, .int (nI i21)), (3, .int v3_21), (2, .int v2_21), (0, .ref mo), (1, .int xk)]) hx hb dX9_ask_136 hl (by decide) rfl (fun ls hl => ?_)
                refine lv_iload hx hb dX9_ask_138 (lv_at hl 0 rfl) ?_
                refine lv_if_eq (tgt := 148) hx hb dX9_ask_140 (by decide) (fun h => absurd h (by decide)) (fun _ => ?_)
                refine lv_iload hx hb dX9_ask_143 (lv_at hl 4 rfl) ?_
                refine lv_goto (tgt := 149) hx hb dX9_ask_145 (by decide) ?_
                refine lv_istore_n (lv' := [(2, .int (nI i21)), (8, .int (1 : Int32)), (7, .int F37_2.2), (6, .int F37_2.2), (5, .int F37_2.1), (4, .int (nI i21)), (3, .int v3_21), (0, .ref mo), (1, .int xk)]) hx hb dX9_ask_149 rfl hl (by decide) rfl (fun ls hl => ?_)
                refine lv_iload hx hb dX9_ask_150 (lv_at hl 1 rfl) ?_
                refine lv_if_eq (tgt := 160) hx hb dX9_ask_152 (by decide) (fun h => absurd h (by decide)) (fun _ => ?_)
                refine lv_iload hx hb dX9_ask_155 (lv_at hl 2 rfl) ?_
                refine lv_goto (tgt := 161) hx hb dX9_ask_157 (by decide) ?_
                refine lv_istore_n (lv' := [(3, .int F37_2.2), (2, .int (nI i21)), (8, .int (1 : Int32)), (7, .int F37_2.2), (6, .int F37_2.2), (5, .int F37_2.1), (4, .int (nI i21)), (0, .ref mo), (1, .int xk)]) hx hb dX9_ask_161 rfl hl (by decide) rfl (fun ls hl => ?_)
                refine lv_iinc (v := (nI (i21 + 1))) (lv' := [(4, .int (nI (i21 + 1))), (3, .int F37_2.2), (2, .int (nI i21)), (8, .int (1 : Int32)), (7, .int F37_2.2), (6, .int F37_2.2), (5, .int F37_2.1), (0, .ref mo), (1, .int xk)]) hx hb dX9_ask_162 hl (k := 6) rfl (by exact nI_add i21 1) (by decide) rfl (fun ls hl => ?_)
                refine lv_goto (tgt := 21) hx hb dX9_ask_165 (by decide) ?_
                exact ih21 _ _ _ (by omega) _ (lv_sub hl [0, 1, 2, 7, 8] rfl) hR
        have hloop37 : ∀ (k37 i37 : Nat) (v5_37 : Int32) (v6_37 : Int32), i37 + k37 = 80 → ∀ (ls : Array Slot), lv_has ls 9 [(7, .int (nI i37)), (6, .int v6_37), (5, .int v5_37), (4, .int (nI i21)), (3, .int v3_21), (2, .int v2_21), (0, .ref mo), (1, .int xk)] → lp_X9_ask_37 mo_sights mo_sight i21 k37 i37 v5_37 v6_37 = F37_2 → W p l e ({ frames := 3, cells := 0, slots := 0, locals := 66 }) s m args below meth c s.heap [] 0 0 (MQ below (ro_Q (.int R)) args s 0 0 (fun _ => False)) (F0 m 37 ls []) := by
          intro k37
          induction k37 with
          | zero =>
            intro i37 v5_37 v6_37 h37  ls hl hR
            obtain rfl : 80 = i37 := by omega
            rw [lp_X9_ask_37] at hR
            refine lv_iload hx hb dX9_ask_37 (lv_at hl 0 rfl) ?_
            refine lv_bipush (v := (80 : Int32)) hx hb dX9_ask_39 (by decide +kernel) ?_
            refine lv_icmp_ge (tgt := 98) hx hb dX9_ask_41 (by decide) (fun _ => ?_) (fun h => absurd (cle_t (a := 80) (b := 80) rfl rfl (by omega) (by omega)) h)
            subst hR
            exact hexit37 _ (lv_sub hl [1, 2, 3, 4, 5, 6, 7] rfl)
          | succ k37 ih37 =>
            intro i37 v5_37 v6_37 h37  ls hl hR
            rw [lp_X9_ask_37] at hR
            refine lv_iload hx hb dX9_ask_37 (lv_at hl 0 rfl) ?_
            refine lv_bipush (v := (80 : Int32)) hx hb dX9_ask_39 (by decide +kernel) ?_
            refine lv_icmp_ge (tgt := 98) hx hb dX9_ask_41 (by decide) (fun h => absurd h (cle_f (a := 80) (b := i37) rfl rfl (by omega) (by omega))) (fun _ => ?_)
            refine lv_aload_n hx hb dX9_ask_44 rfl (lv_at hl 6 rfl) ?_
            refine lv_iload hx hb dX9_ask_45 (lv_at hl 0 rfl) ?_
            refine ro_V (As := [.int (nI i37)]) (rest := []) ⟨hx, hb, hml, hown, hts⟩ hK (c_X9_isFit l D cI cJ cZ mo mo_book_a mo_now_a mo_there mo_beside_a mo_sights mo_sight_a (nI mo_signs) mo_pad_a mo_heldAt mo_heldThing mo_reason mo_acts mo_lefts_a mo_inWays_a mo_more_a mo_wins_a mo_been_a mo_image_a mo_isKept_a mo_sight (nI i37) (by first | assumption | omega)) hP 0 rfl rfl (rw_sub hP [0, 4] rfl) (cwV 1 hts gX9_ask_X9_isFit rfl rfl rfl ⟨rfl, hd_X9_isFit⟩ ⟨(Nat.le_of_ble_eq_true rfl), (Nat.le_of_ble_eq_true rfl)⟩) rfl hl.1 rfl (Nat.le_of_ble_eq_true rfl) dX9_ask_47 (Nat.zero_le _) (Nat.zero_le _) ?_
            refine lv_istore (lv' := [(8, .int (f_X9_isFit mo_sights mo_sight (nI i37))), (7, .int (nI i37)), (6, .int v6_37), (5, .int v5_37), (4, .int (nI i21)), (3, .int v3_21), (2, .int v2_21), (0, .ref mo), (1, .int xk)]) hx hb dX9_ask_50 hl (by decide) rfl (fun ls hl => ?_)
            refine lv_iload hx hb dX9_ask_52 (lv_at hl 3 rfl) ?_
            refine lv_iload hx hb dX9_ask_54 (lv_at hl 0 rfl) ?_
            refine lv_if_eq (tgt := 63) hx hb dX9_ask_56 (by decide) (fun c56 => ?_) (fun c56 => ?_)
            · rw [if_pos c56] at hR
              refine lv_iconst (v := (0 : Int32)) hx hb dX9_ask_63 (by decide) ?_
              refine lv_iadd hx hb dX9_ask_64 ?_
              refine lv_istore (lv' := [(5, .int (v5_37 + (0 : Int32))), (8, .int (f_X9_isFit mo_sights mo_sight (nI i37))), (7, .int (nI i37)), (6, .int v6_37), (4, .int (nI i21)), (3, .int v3_21), (2, .int v2_21), (0, .ref mo), (1, .int xk)]) hx hb dX9_ask_65 hl (by decide) rfl (fun ls hl => ?_)
              refine lv_iload hx hb dX9_ask_67 (lv_at hl 3 rfl) ?_
              refine lv_iload hx hb dX9_ask_69 (lv_at hl 1 rfl) ?_
              refine lv_if_eq (tgt := 88) hx hb dX9_ask_71 (by decide) (fun _ => ?_) (fun h => absurd c56 h)
              refine lv_iconst (v := (0 : Int32)) hx hb dX9_ask_88 (by decide) ?_
              refine lv_iadd hx hb dX9_ask_89 ?_
              refine lv_istore (lv' := [(6, .int (v6_37 + (0 : Int32))), (5, .int (v5_37 + (0 : Int32))), (8, .int (f_X9_isFit mo_sights mo_sight (nI i37))), (7, .int (nI i37)), (4, .int (nI i21)), (3, .int v3_21), (2, .int v2_21), (0, .ref mo), (1, .int xk)]) hx hb dX9_ask_90 hl (by decide) rfl (fun ls hl => ?_)
              refine lv_iinc (v := (nI (i37 + 1))) (lv' := [(7, .int (nI (i37 + 1))), (6, .int (v6_37 + (0 : Int32))), (5, .int (v5_37 + (0 : Int32))), (8, .int (f_X9_isFit mo_sights mo_sight (nI i37))), (4, .int (nI i21)), (3, .int v3_21), (2, .int v2_21), (0, .ref mo), (1, .int xk)]) hx hb dX9_ask_92 hl (k := 3) rfl (by exact nI_add i37 1) (by decide) rfl (fun ls hl => ?_)
              refine lv_goto (tgt := 37) hx hb dX9_ask_95 (by decide) ?_
              exact ih37 _ _ _ (by omega) _ (lv_sub hl [0, 1, 2, 4, 5, 6, 7, 8] rfl) hR
            · rw [if_neg c56] at hR
              refine lv_iconst (v := (1 : Int32)) hx hb dX9_ask_59 (by decide) ?_
              refine lv_goto (tgt := 64) hx hb dX9_ask_60 (by decide) ?_
              refine lv_iadd hx hb dX9_ask_64 ?_
              refine lv_istore (lv' := [(5, .int (v5_37 + (1 : Int32))), (8, .int (f_X9_isFit mo_sights mo_sight (nI i37))), (7, .int (nI i37)), (6, .int v6_37), (4, .int (nI i21)), (3, .int v3_21), (2, .int v2_21), (0, .ref mo), (1, .int xk)]) hx hb dX9_ask_65 hl (by decide) rfl (fun ls hl => ?_)
              refine lv_iload hx hb dX9_ask_67 (lv_at hl 3 rfl) ?_
              refine lv_iload hx hb dX9_ask_69 (lv_at hl 1 rfl) ?_
              refine lv_if_eq (tgt := 88) hx hb dX9_ask_71 (by decide) (fun h => absurd h c56) (fun _ => ?_)
              refine lv_iload hx hb dX9_ask_74 (lv_at hl 2 rfl) ?_
              refine lv_iload hx hb dX9_ask_76 (lv_at hl 4 rfl) ?_
              refine ro_S (As := [.int (nI i37), .int (nI i21)]) (rest := [.int v6_37]) ⟨hx, hb, hml, hown, hts⟩ hK (c_X9_saysYes l D cI cJ cZ (nI i37) (nI i21)) va_P_nil (va_cwS 2 hts gX9_ask_X9_saysYes rfl rfl rfl hd_X9_saysYes ⟨(Nat.le_of_ble_eq_true rfl), (Nat.le_of_ble_eq_true rfl)⟩) rfl hl.1 rfl (Nat.le_of_ble_eq_true rfl) dX9_ask_78 (Nat.zero_le _) (Nat.zero_le _) ?_
              refine lv_if_eq (tgt := 88) hx hb dX9_ask_81 (by decide) (fun c81 => ?_) (fun c81 => ?_)
              · rw [if_pos c81] at hR
                refine lv_iconst (v := (0 : Int32)) hx hb dX9_ask_88 (by decide) ?_
                refine lv_iadd hx hb dX9_ask_89 ?_
                refine lv_istore (lv' := [(6, .int (v6_37 + (0 : Int32))), (5, .int (v5_37 + (1 : Int32))), (8, .int (f_X9_isFit mo_sights mo_sight (nI i37))), (7, .int (nI i37)), (4, .int (nI i21)), (3, .int v3_21), (2, .int v2_21), (0, .ref mo), (1, .int xk)]) hx hb dX9_ask_90 hl (by decide) rfl (fun ls hl => ?_)
                refine lv_iinc (v := (nI (i37 + 1))) (lv' := [(7, .int (nI (i37 + 1))), (6, .int (v6_37 + (0 : Int32))), (5, .int (v5_37 + (1 : Int32))), (8, .int (f_X9_isFit mo_sights mo_sight (nI i37))), (4, .int (nI i21)), (3, .int v3_21), (2, .int v2_21), (0, .ref mo), (1, .int xk)]) hx hb dX9_ask_92 hl (k := 3) rfl (by exact nI_add i37 1) (by decide) rfl (fun ls hl => ?_)
                refine lv_goto (tgt := 37) hx hb dX9_ask_95 (by decide) ?_
                exact ih37 _ _ _ (by omega) _ (lv_sub hl [0, 1, 2, 4, 5, 6, 7, 8] rfl) hR
              · rw [if_neg c81] at hR
                refine lv_iconst (v := (1 : Int32)) hx hb dX9_ask_84 (by decide) ?_
                refine lv_goto (tgt := 89) hx hb dX9_ask_85 (by decide) ?_
                refine lv_iadd hx hb dX9_ask_89 ?_
                refine lv_istore (lv' := [(6, .int (v6_37 + (1 : Int32))), (5, .int (v5_37 + (1 : Int32))), (8, .int (f_X9_isFit mo_sights mo_sight (nI i37))), (7, .int (nI i37)), (4, .int (nI i21)), (3, .int v3_21), (2, .int v2_21), (0, .ref mo), (1, .int xk)]) hx hb dX9_ask_90 hl (by decide) rfl (fun ls hl => ?_)
                refine lv_iinc (v := (nI (i37 + 1))) (lv' := [(7, .int (nI (i37 + 1))), (6, .int (v6_37 + (1 : Int32))), (5, .int (v5_37 + (1 : Int32))), (8, .int (f_X9_isFit mo_sights mo_sight (nI i37))), (4, .int (nI i21)), (3, .int v3_21), (2, .int v2_21), (0, .ref mo), (1, .int xk)]) hx hb dX9_ask_92 hl (k := 3) rfl (by exact nI_add i37 1) (by decide) rfl (fun ls hl => ?_)
                refine lv_goto (tgt := 37) hx hb dX9_ask_95 (by decide) ?_
                exact ih37 _ _ _ (by omega) _ (lv_sub hl [0, 1, 2, 4, 5, 6, 7, 8] rfl) hR
        exact hloop37 80 0 _ _ (by omega) _ hl hF37_2
    exact hloop21 8 0 _ _ (by omega) _ hl hF21_1
  · rw [if_pos c6] at hR
    refine lv_bipush (v := (-2 : Int32)) hx hb dX9_ask_9 (by decide +kernel) ?_
    subst hR
    exact ro_iret hx hb hr hlocks dX9_ask_11


theorem in_X9_drops_X9 : ∀ w ∈ u_ws RX9 TX9 19, w ∈ wsX9_drops := by decide +kernel
def lp_X9_drops_42 (r9_29 : Nat → Int32) (i29 : Nat) : Nat → Int32 → Int32
  | 0, v3_42 => v3_42
  | k42 + 1, v3_42 => (if ((nI i29) < (nI ((k42 + 1) * (k42 + 1)))) then (lp_X9_drops_42 r9_29 i29 k42 v3_42) else (if ((r9_29 (i29 - ((k42 + 1) * (k42 + 1)))) = 0) then (lp_X9_drops_42 r9_29 i29 k42 (nI ((k42 + 1) * (k42 + 1)))) else (lp_X9_drops_42 r9_29 i29 k42 v3_42)))
def lp_X9_drops_29 : Nat → Nat → (Nat → Int32) → Int32 → (Nat → Int32) × Int32
  | 0, _, r9_29, v3_29 => (r9_29, v3_29)
  | k29 + 1, i29, r9_29, v3_29 => (if ((lp_X9_drops_42 r9_29 i29 14 (-6 : Int32)) ≤ 0) then (lp_X9_drops_29 k29 (i29 + 1) (upd r9_29 i29 (vp_nar .boolean (0 : Int32))) (lp_X9_drops_42 r9_29 i29 14 (-6 : Int32))) else (lp_X9_drops_29 k29 (i29 + 1) (upd r9_29 i29 (vp_nar .boolean (1 : Int32))) (lp_X9_drops_42 r9_29 i29 14 (-6 : Int32))))
def f_X9_drops (mo_wins : Nat → Int32) (xn : Int32) (xk : Int32) : Int32 × (Nat → Int32) :=
  (if ((f_X9_in xn (0 : Int32) (200 : Int32)) = 0) then ((-2 : Int32), mo_wins) else (if ((f_X9_in xk (0 : Int32) (1 : Int32)) = 0) then ((-2 : Int32), mo_wins) else (if (xk = (1 : Int32)) then ((lp_X9_drops_29 (xn.toNatClampNeg + 1) 0 mo_wins (-6 : Int32)).2, (lp_X9_drops_29 (xn.toNatClampNeg + 1) 0 mo_wins (-6 : Int32)).1) else (if ((lp_X9_drops_29 (xn.toNatClampNeg + 1) 0 mo_wins (-6 : Int32)).2 ≤ 0) then ((0 : Int32), (lp_X9_drops_29 (xn.toNatClampNeg + 1) 0 mo_wins (-6 : Int32)).1) else ((1 : Int32), (lp_X9_drops_29 (xn.toNatClampNeg + 1) 0 mo_wins (-6 : Int32)).1)))))
set_option maxHeartbeats 4000000 in
set_option maxRecDepth 100000 in
theorem c_X9_drops (l : Launch) (D : va_G) (cI cJ cZ : ClassId) (mo : Nat) (mo_book_a : Nat) (mo_now_a : Nat) (mo_there : Int32) (mo_beside_a : Nat) (mo_sights : Nat) (mo_sight_a : Nat) (mo_signs : Nat) (mo_pad_a : Nat) (mo_heldAt : Int32) (mo_heldThing : Int32) (mo_reason : Int32) (mo_acts : Int32) (mo_lefts_a : Nat) (mo_inWays_a : Nat) (mo_more_a : Nat) (mo_wins_a : Nat) (mo_been_a : Nat) (mo_image_a : Nat) (mo_isKept_a : Nat) (mo_book : Nat → Int32) (mo_now : Nat → Int32) (mo_beside : Nat → Int32) (mo_sight : Nat → Int32) (mo_pad : Nat → Int32) (mo_lefts : Nat → Int32) (mo_inWays : Nat → Int32) (mo_more : Nat → Int32) (mo_wins : Nat → Int32) (mo_been : Nat → Int64) (mo_image : Nat → Int32) (mo_isKept : Nat → Int32) (xn : Int32) (xk : Int32) : RW l yX9_drops wsX9_drops ({ frames := 1, cells := 0, slots := 0, locals := 22 }) [.ref mo, .int xn, .int xk] D cI cJ cZ [(mo, .inr (9, [.ref mo_book_a, .ref mo_now_a, .int mo_there, .ref mo_beside_a, .int (nI mo_sights), .ref mo_sight_a, .int (nI mo_signs), .ref mo_pad_a, .int mo_heldAt, .int mo_heldThing, .int mo_reason, .int mo_acts, .ref mo_lefts_a, .ref mo_inWays_a, .ref mo_more_a, .ref mo_wins_a, .ref mo_been_a, .ref mo_image_a, .ref mo_isKept_a])), (mo_book_a, .inl (cI, 19, .inl mo_book)), (mo_now_a, .inl (cI, 19, .inl mo_now)), (mo_beside_a, .inl (cI, 7, .inl mo_beside)), (mo_sight_a, .inl (cI, 16, .inl mo_sight)), (mo_pad_a, .inl (cI, 60, .inl mo_pad)), (mo_lefts_a, .inl (cI, 256, .inl mo_lefts)), (mo_inWays_a, .inl (cI, 128, .inl mo_inWays)), (mo_more_a, .inl (cI, 128, .inl mo_more)), (mo_wins_a, .inl (cZ, 201, .inl mo_wins)), (mo_been_a, .inl (cJ, 9, .inr (.inl mo_been))), (mo_image_a, .inl (cI, 100, .inl mo_image)), (mo_isKept_a, .inl (cZ, 2, .inl mo_isKept))] (some (.int ((f_X9_drops mo_wins xn xk).1))) [(mo, .inr (9, [.ref mo_book_a, .ref mo_now_a, .int mo_there, .ref mo_beside_a, .int (nI mo_sights), .ref mo_sight_a, .int (nI mo_signs), .ref mo_pad_a, .int mo_heldAt, .int mo_heldThing, .int mo_reason, .int mo_acts, .ref mo_lefts_a, .ref mo_inWays_a, .ref mo_more_a, .ref mo_wins_a, .ref mo_been_a, .ref mo_image_a, .ref mo_isKept_a])), (mo_book_a, .inl (cI, 19, .inl mo_book)), (mo_now_a, .inl (cI, 19, .inl mo_now)), (mo_beside_a, .inl (cI, 7, .inl mo_beside)), (mo_sight_a, .inl (cI, 16, .inl mo_sight)), (mo_pad_a, .inl (cI, 60, .inl mo_pad)), (mo_lefts_a, .inl (cI, 256, .inl mo_lefts)), (mo_inWays_a, .inl (cI, 128, .inl mo_inWays)), (mo_more_a, .inl (cI, 128, .inl mo_more)), (mo_wins_a, .inl (cZ, 201, .inl ((f_X9_drops mo_wins xn xk).2))), (mo_been_a, .inl (cJ, 9, .inr (.inl mo_been))), (mo_image_a, .inl (cI, 100, .inl mo_image)), (mo_isKept_a, .inl (cZ, 2, .inl mo_isKept))] := by
  obtain ⟨R0, R1, hR⟩ := prodE2 (f_X9_drops mo_wins xn xk)
  rw [hR]
  dsimp only
  refine rw_start (cc := cX9_drops) (maxL := 6) (ret := (some .int)) (by decide) rfl (Nat.le_of_ble_eq_true rfl) ?_
  intro p e s m args below meth c hx hb hr hml hown hts hlocks hP hD hS hK ls hl
  have hown : s.vm.findClass RX9 = some m.cls := hown
  have hl : lv_has ls 6 [(0, .ref mo), (1, .int xn), (2, .int xk)] := hl
  have hq0 := hts (.fieldLink RX9 34 "StuckVanesModel" "wins" "[Z") (by decide +kernel)
  rw [f_X9_drops] at hR
  refine lv_iload_n hx hb dX9_drops_0 rfl (lv_at hl 1 rfl) ?_
  refine lv_iconst (v := (0 : Int32)) hx hb dX9_drops_1 (by decide) ?_
  refine lv_sipush (v := (200 : Int32)) hx hb dX9_drops_2 (by decide +kernel) ?_
  refine ro_S (As := [.int xn, .int (0 : Int32), .int (200 : Int32)]) (rest := []) ⟨hx, hb, hml, hown, hts⟩ hK (c_X9_in l D cI cJ cZ xn (0 : Int32) (200 : Int32)) va_P_nil (va_cwS 3 hts gX9_drops_X9_in rfl rfl rfl hd_X9_in ⟨(Nat.le_of_ble_eq_true rfl), (Nat.le_of_ble_eq_true rfl)⟩) rfl hl.1 rfl (Nat.le_of_ble_eq_true rfl) dX9_drops_5 (Nat.zero_le _) (Nat.zero_le _) ?_
  refine lv_if_eq (tgt := 20) hx hb dX9_drops_8 (by decide) (fun c8 => ?_) (fun c8 => ?_)
  · rw [if_pos c8] at hR
    refine lv_bipush (v := (-2 : Int32)) hx hb dX9_drops_20 (by decide +kernel) ?_
    obtain ⟨rfl, rfl⟩ := prodI2 hR
    exact rw_iret hx hb hr hlocks hP hS dX9_drops_22
  · rw [if_neg c8] at hR
    refine lv_iload_n hx hb dX9_drops_11 rfl (lv_at hl 2 rfl) ?_
    refine lv_iconst (v := (0 : Int32)) hx hb dX9_drops_12 (by decide) ?_
    refine lv_iconst (v := (1 : Int32)) hx hb dX9_drops_13 (by decide) ?_
    refine ro_S (As := [.int xk, .int (0 : Int32), .int (1 : Int32)]) (rest := []) ⟨hx, hb, hml, hown, hts⟩ hK (c_X9_in l D cI cJ cZ xk (0 : Int32) (1 : Int32)) va_P_nil (va_cwS 3 hts gX9_drops_X9_in rfl rfl rfl hd_X9_in ⟨(Nat.le_of_ble_eq_true rfl), (Nat.le_of_ble_eq_true rfl)⟩) rfl hl.1 rfl (Nat.le_of_ble_eq_true rfl) dX9_drops_14 (Nat.zero_le _) (Nat.zero_le _) ?_
    refine lv_if_ne (tgt := 23) hx hb dX9_drops_17 (by decide) (fun c17 => ?_) (fun c17 => ?_)
    · rw [if_neg c17] at hR
      have zn23_1 : xn = nI xn.toNatClampNeg := (rngIn (a := 0) (b := 200) (by decide) (by decide) c8).1
      have zb23_1 : xn.toNatClampNeg ≤ 200 := (rngIn (a := 0) (b := 200) (by decide) (by decide) c8).2.2
      have hl : lv_has ls 6 [(0, .ref mo), (1, .int (nI xn.toNatClampNeg)), (2, .int xk)] := by rw [← zn23_1]; exact hl
      refine lv_bipush (v := (-6 : Int32)) hx hb dX9_drops_23 (by decide +kernel) ?_
      refine lv_istore_n (lv' := [(3, .int (-6 : Int32)), (0, .ref mo), (1, .int (nI xn.toNatClampNeg)), (2, .int xk)]) hx hb dX9_drops_25 rfl hl (by decide) rfl (fun ls hl => ?_)
      refine lv_iconst (v := (0 : Int32)) hx hb dX9_drops_26 (by decide) ?_
      refine lv_istore (lv' := [(4, .int (0 : Int32)), (3, .int (-6 : Int32)), (0, .ref mo), (1, .int (nI xn.toNatClampNeg)), (2, .int xk)]) hx hb dX9_drops_27 hl (by decide) rfl (fun ls hl => ?_)
      obtain ⟨F29_1, hF29_1⟩ : ∃ x, (lp_X9_drops_29 (xn.toNatClampNeg + 1) 0 mo_wins (-6 : Int32)) = x := ⟨_, rfl⟩
      try rw [hF29_1] at hR
      have hexit29 : ∀ (H : Heap) (locs : List Loc), va_P D vwCl [(mo, .inr (9, [.ref mo_book_a, .ref mo_now_a, .int mo_there, .ref mo_beside_a, .int (nI mo_sights), .ref mo_sight_a, .int (nI mo_signs), .ref mo_pad_a, .int mo_heldAt, .int mo_heldThing, .int mo_reason, .int mo_acts, .ref mo_lefts_a, .ref mo_inWays_a, .ref mo_more_a, .ref mo_wins_a, .ref mo_been_a, .ref mo_image_a, .ref mo_isKept_a])), (mo_book_a, .inl (cI, 19, .inl mo_book)), (mo_now_a, .inl (cI, 19, .inl mo_now)), (mo_beside_a, .inl (cI, 7, .inl mo_beside)), (mo_sight_a, .inl (cI, 16, .inl mo_sight)), (mo_pad_a, .inl (cI, 60, .inl mo_pad)), (mo_lefts_a, .inl (cI, 256, .inl mo_lefts)), (mo_inWays_a, .inl (cI, 128, .inl mo_inWays)), (mo_more_a, .inl (cI, 128, .inl mo_more)), (mo_wins_a, .inl (cZ, 201, .inl F29_1.1)), (mo_been_a, .inl (cJ, 9, .inr (.inl mo_been))), (mo_image_a, .inl (cI, 100, .inl mo_image)), (mo_isKept_a, .inl (cZ, 2, .inl mo_isKept))] H → va_D (va_In [(mo, .inr (9, [.ref mo_book_a, .ref mo_now_a, .int mo_there, .ref mo_beside_a, .int (nI mo_sights), .ref mo_sight_a, .int (nI mo_signs), .ref mo_pad_a, .int mo_heldAt, .int mo_heldThing, .int mo_reason, .int mo_acts, .ref mo_lefts_a, .ref mo_inWays_a, .ref mo_more_a, .ref mo_wins_a, .ref mo_been_a, .ref mo_image_a, .ref mo_isKept_a])), (mo_book_a, .inl (cI, 19, .inl mo_book)), (mo_now_a, .inl (cI, 19, .inl mo_now)), (mo_beside_a, .inl (cI, 7, .inl mo_beside)), (mo_sight_a, .inl (cI, 16, .inl mo_sight)), (mo_pad_a, .inl (cI, 60, .inl mo_pad)), (mo_lefts_a, .inl (cI, 256, .inl mo_lefts)), (mo_inWays_a, .inl (cI, 128, .inl mo_inWays)), (mo_more_a, .inl (cI, 128, .inl mo_more)), (mo_wins_a, .inl (cZ, 201, .inl mo_wins)), (mo_been_a, .inl (cJ, 9, .inr (.inl mo_been))), (mo_image_a, .inl (cI, 100, .inl mo_image)), (mo_isKept_a, .inl (cZ, 2, .inl mo_isKept))]) [(mo, .inr (9, [.ref mo_book_a, .ref mo_now_a, .int mo_there, .ref mo_beside_a, .int (nI mo_sights), .ref mo_sight_a, .int (nI mo_signs), .ref mo_pad_a, .int mo_heldAt, .int mo_heldThing, .int mo_reason, .int mo_acts, .ref mo_lefts_a, .ref mo_inWays_a, .ref mo_more_a, .ref mo_wins_a, .ref mo_been_a, .ref mo_image_a, .ref mo_isKept_a])), (mo_book_a, .inl (cI, 19, .inl mo_book)), (mo_now_a, .inl (cI, 19, .inl mo_now)), (mo_beside_a, .inl (cI, 7, .inl mo_beside)), (mo_sight_a, .inl (cI, 16, .inl mo_sight)), (mo_pad_a, .inl (cI, 60, .inl mo_pad)), (mo_lefts_a, .inl (cI, 256, .inl mo_lefts)), (mo_inWays_a, .inl (cI, 128, .inl mo_inWays)), (mo_more_a, .inl (cI, 128, .inl mo_more)), (mo_wins_a, .inl (cZ, 201, .inl F29_1.1)), (mo_been_a, .inl (cJ, 9, .inr (.inl mo_been))), (mo_image_a, .inl (cI, 100, .inl mo_image)), (mo_isKept_a, .inl (cZ, 2, .inl mo_isKept))] → va_S (va_In [(mo, .inr (9, [.ref mo_book_a, .ref mo_now_a, .int mo_there, .ref mo_beside_a, .int (nI mo_sights), .ref mo_sight_a, .int (nI mo_signs), .ref mo_pad_a, .int mo_heldAt, .int mo_heldThing, .int mo_reason, .int mo_acts, .ref mo_lefts_a, .ref mo_inWays_a, .ref mo_more_a, .ref mo_wins_a, .ref mo_been_a, .ref mo_image_a, .ref mo_isKept_a])), (mo_book_a, .inl (cI, 19, .inl mo_book)), (mo_now_a, .inl (cI, 19, .inl mo_now)), (mo_beside_a, .inl (cI, 7, .inl mo_beside)), (mo_sight_a, .inl (cI, 16, .inl mo_sight)), (mo_pad_a, .inl (cI, 60, .inl mo_pad)), (mo_lefts_a, .inl (cI, 256, .inl mo_lefts)), (mo_inWays_a, .inl (cI, 128, .inl mo_inWays)), (mo_more_a, .inl (cI, 128, .inl mo_more)), (mo_wins_a, .inl (cZ, 201, .inl mo_wins)), (mo_been_a, .inl (cJ, 9, .inr (.inl mo_been))), (mo_image_a, .inl (cI, 100, .inl mo_image)), (mo_isKept_a, .inl (cZ, 2, .inl mo_isKept))]) s.heap H locs → ∀ (ls : Array Slot), lv_has ls 6 [(3, .int F29_1.2), (0, .ref mo), (1, .int (nI xn.toNatClampNeg)), (2, .int xk)] → W p l e ({ frames := 1, cells := 0, slots := 0, locals := 22 }) s m args below meth c H locs 0 0 (MQ below (rw_Q D (some (.int R0)) [(mo, .inr (9, [.ref mo_book_a, .ref mo_now_a, .int mo_there, .ref mo_beside_a, .int (nI mo_sights), .ref mo_sight_a, .int (nI mo_signs), .ref mo_pad_a, .int mo_heldAt, .int mo_heldThing, .int mo_reason, .int mo_acts, .ref mo_lefts_a, .ref mo_inWays_a, .ref mo_more_a, .ref mo_wins_a, .ref mo_been_a, .ref mo_image_a, .ref mo_isKept_a])), (mo_book_a, .inl (cI, 19, .inl mo_book)), (mo_now_a, .inl (cI, 19, .inl mo_now)), (mo_beside_a, .inl (cI, 7, .inl mo_beside)), (mo_sight_a, .inl (cI, 16, .inl mo_sight)), (mo_pad_a, .inl (cI, 60, .inl mo_pad)), (mo_lefts_a, .inl (cI, 256, .inl mo_lefts)), (mo_inWays_a, .inl (cI, 128, .inl mo_inWays)), (mo_more_a, .inl (cI, 128, .inl mo_more)), (mo_wins_a, .inl (cZ, 201, .inl mo_wins)), (mo_been_a, .inl (cJ, 9, .inr (.inl mo_been))), (mo_image_a, .inl (cI, 100, .inl mo_image)), (mo_isKept_a, .inl (cZ, 2, .inl mo_isKept))] [(mo, .inr (9, [.ref mo_book_a, .ref mo_now_a, .int mo_there, .ref mo_beside_a, .int (nI mo_sights), .ref mo_sight_a, .int (nI mo_signs), .ref mo_pad_a, .int mo_heldAt, .int mo_heldThing, .int mo_reason, .int mo_acts, .ref mo_lefts_a, .ref mo_inWays_a, .ref mo_more_a, .ref mo_wins_a, .ref mo_been_a, .ref mo_image_a, .ref mo_isKept_a])), (mo_book_a, .inl (cI, 19, .inl mo_book)), (mo_now_a, .inl (cI, 19, .inl mo_now)), (mo_beside_a, .inl (cI, 7, .inl mo_beside)), (mo_sight_a, .inl (cI, 16, .inl mo_sight)), (mo_pad_a, .inl (cI, 60, .inl mo_pad)), (mo_lefts_a, .inl (cI, 256, .inl mo_lefts)), (mo_inWays_a, .inl (cI, 128, .inl mo_inWays)), (mo_more_a, .inl (cI, 128, .inl mo_more)), (mo_wins_a, .inl (cZ, 201, .inl R1)), (mo_been_a, .inl (cJ, 9, .inr (.inl mo_been))), (mo_image_a, .inl (cI, 100, .inl mo_image)), (mo_isKept_a, .inl (cZ, 2, .inl mo_isKept))]) args s 0 0 (va_In [(mo, .inr (9, [.ref mo_book_a, .ref mo_now_a, .int mo_there, .ref mo_beside_a, .int (nI mo_sights), .ref mo_sight_a, .int (nI mo_signs), .ref mo_pad_a, .int mo_heldAt, .int mo_heldThing, .int mo_reason, .int mo_acts, .ref mo_lefts_a, .ref mo_inWays_a, .ref mo_more_a, .ref mo_wins_a, .ref mo_been_a, .ref mo_image_a, .ref mo_isKept_a])), (mo_book_a, .inl (cI, 19, .inl mo_book)), (mo_now_a, .inl (cI, 19, .inl mo_now)), (mo_beside_a, .inl (cI, 7, .inl mo_beside)), (mo_sight_a, .inl (cI, 16, .inl mo_sight)), (mo_pad_a, .inl (cI, 60, .inl mo_pad)), (mo_lefts_a, .inl (cI, 256, .inl mo_lefts)), (mo_inWays_a, .inl (cI, 128, .inl mo_inWays)), (mo_more_a, .inl (cI, 128, .inl mo_more)), (mo_wins_a, .inl (cZ, 201, .inl mo_wins)), (mo_been_a, .inl (cJ, 9, .inr (.inl mo_been))), (mo_image_a, .inl (cI, 100, .inl mo_image)), (mo_isKept_a, .inl (cZ, 2, .inl mo_isKept))])) (F0 m 111 ls []) := by
        intro H locs hP hD hS ls hl
        refine lv_iload_n hx hb dX9_drops_111 rfl (lv_at hl 3 rfl) ?_
        refine lv_iconst (v := (1 : Int32)) hx hb dX9_drops_112 (by decide) ?_
        refine lv_icmp_ne (tgt := 120) hx hb dX9_drops_113 (by decide) (fun c113 => ?_) (fun c113 => ?_)
        · rw [if_neg c113] at hR
          refine lv_iload_n hx hb dX9_drops_120 rfl (lv_at hl 0 rfl) ?_
          refine lv_if_le (tgt := 128) hx hb dX9_drops_121 (by decide) (fun c121 => ?_) (fun c121 => ?_)
          · rw [if_pos c121] at hR
            refine lv_iconst (v := (0 : Int32)) hx hb dX9_drops_128 (by decide) ?_
            obtain ⟨rfl, rfl⟩ := prodI2 hR
            exact rw_iret hx hb hr hlocks hP hS dX9_drops_129
          · rw [if_neg c121] at hR
            refine lv_iconst (v := (1 : Int32)) hx hb dX9_drops_124 (by decide) ?_
            refine lv_goto (tgt := 129) hx hb dX9_drops_125 (by decide) ?_
            obtain ⟨rfl, rfl⟩ := prodI2 hR
            exact rw_iret hx hb hr hlocks hP hS dX9_drops_129
        · rw [if_pos c113] at hR
          refine lv_iload_n hx hb dX9_drops_116 rfl (lv_at hl 0 rfl) ?_
          refine lv_goto (tgt := 129) hx hb dX9_drops_117 (by decide) ?_
          obtain ⟨rfl, rfl⟩ := prodI2 hR
          exact rw_iret hx hb hr hlocks hP hS dX9_drops_129
      have hloop29 : ∀ (k29 i29 : Nat) (r9_29 : Nat → Int32) (v3_29 : Int32), i29 + k29 = (xn.toNatClampNeg + 1) → ∀ (H : Heap) (locs : List Loc), va_P D vwCl [(mo, .inr (9, [.ref mo_book_a, .ref mo_now_a, .int mo_there, .ref mo_beside_a, .int (nI mo_sights), .ref mo_sight_a, .int (nI mo_signs), .ref mo_pad_a, .int mo_heldAt, .int mo_heldThing, .int mo_reason, .int mo_acts, .ref mo_lefts_a, .ref mo_inWays_a, .ref mo_more_a, .ref mo_wins_a, .ref mo_been_a, .ref mo_image_a, .ref mo_isKept_a])), (mo_book_a, .inl (cI, 19, .inl mo_book)), (mo_now_a, .inl (cI, 19, .inl mo_now)), (mo_beside_a, .inl (cI, 7, .inl mo_beside)), (mo_sight_a, .inl (cI, 16, .inl mo_sight)), (mo_pad_a, .inl (cI, 60, .inl mo_pad)), (mo_lefts_a, .inl (cI, 256, .inl mo_lefts)), (mo_inWays_a, .inl (cI, 128, .inl mo_inWays)), (mo_more_a, .inl (cI, 128, .inl mo_more)), (mo_wins_a, .inl (cZ, 201, .inl r9_29)), (mo_been_a, .inl (cJ, 9, .inr (.inl mo_been))), (mo_image_a, .inl (cI, 100, .inl mo_image)), (mo_isKept_a, .inl (cZ, 2, .inl mo_isKept))] H → va_D (va_In [(mo, .inr (9, [.ref mo_book_a, .ref mo_now_a, .int mo_there, .ref mo_beside_a, .int (nI mo_sights), .ref mo_sight_a, .int (nI mo_signs), .ref mo_pad_a, .int mo_heldAt, .int mo_heldThing, .int mo_reason, .int mo_acts, .ref mo_lefts_a, .ref mo_inWays_a, .ref mo_more_a, .ref mo_wins_a, .ref mo_been_a, .ref mo_image_a, .ref mo_isKept_a])), (mo_book_a, .inl (cI, 19, .inl mo_book)), (mo_now_a, .inl (cI, 19, .inl mo_now)), (mo_beside_a, .inl (cI, 7, .inl mo_beside)), (mo_sight_a, .inl (cI, 16, .inl mo_sight)), (mo_pad_a, .inl (cI, 60, .inl mo_pad)), (mo_lefts_a, .inl (cI, 256, .inl mo_lefts)), (mo_inWays_a, .inl (cI, 128, .inl mo_inWays)), (mo_more_a, .inl (cI, 128, .inl mo_more)), (mo_wins_a, .inl (cZ, 201, .inl mo_wins)), (mo_been_a, .inl (cJ, 9, .inr (.inl mo_been))), (mo_image_a, .inl (cI, 100, .inl mo_image)), (mo_isKept_a, .inl (cZ, 2, .inl mo_isKept))]) [(mo, .inr (9, [.ref mo_book_a, .ref mo_now_a, .int mo_there, .ref mo_beside_a, .int (nI mo_sights), .ref mo_sight_a, .int (nI mo_signs), .ref mo_pad_a, .int mo_heldAt, .int mo_heldThing, .int mo_reason, .int mo_acts, .ref mo_lefts_a, .ref mo_inWays_a, .ref mo_more_a, .ref mo_wins_a, .ref mo_been_a, .ref mo_image_a, .ref mo_isKept_a])), (mo_book_a, .inl (cI, 19, .inl mo_book)), (mo_now_a, .inl (cI, 19, .inl mo_now)), (mo_beside_a, .inl (cI, 7, .inl mo_beside)), (mo_sight_a, .inl (cI, 16, .inl mo_sight)), (mo_pad_a, .inl (cI, 60, .inl mo_pad)), (mo_lefts_a, .inl (cI, 256, .inl mo_lefts)), (mo_inWays_a, .inl (cI, 128, .inl mo_inWays)), (mo_more_a, .inl (cI, 128, .inl mo_more)), (mo_wins_a, .inl (cZ, 201, .inl r9_29)), (mo_been_a, .inl (cJ, 9, .inr (.inl mo_been))), (mo_image_a, .inl (cI, 100, .inl mo_image)), (mo_isKept_a, .inl (cZ, 2, .inl mo_isKept))] → va_S (va_In [(mo, .inr (9, [.ref mo_book_a, .ref mo_now_a, .int mo_there, .ref mo_beside_a, .int (nI mo_sights), .ref mo_sight_a, .int (nI mo_signs), .ref mo_pad_a, .int mo_heldAt, .int mo_heldThing, .int mo_reason, .int mo_acts, .ref mo_lefts_a, .ref mo_inWays_a, .ref mo_more_a, .ref mo_wins_a, .ref mo_been_a, .ref mo_image_a, .ref mo_isKept_a])), (mo_book_a, .inl (cI, 19, .inl mo_book)), (mo_now_a, .inl (cI, 19, .inl mo_now)), (mo_beside_a, .inl (cI, 7, .inl mo_beside)), (mo_sight_a, .inl (cI, 16, .inl mo_sight)), (mo_pad_a, .inl (cI, 60, .inl mo_pad)), (mo_lefts_a, .inl (cI, 256, .inl mo_lefts)), (mo_inWays_a, .inl (cI, 128, .inl mo_inWays)), (mo_more_a, .inl (cI, 128, .inl mo_more)), (mo_wins_a, .inl (cZ, 201, .inl mo_wins)), (mo_been_a, .inl (cJ, 9, .inr (.inl mo_been))), (mo_image_a, .inl (cI, 100, .inl mo_image)), (mo_isKept_a, .inl (cZ, 2, .inl mo_isKept))]) s.heap H locs → ∀ (ls : Array Slot), lv_has ls 6 [(4, .int (nI i29)), (3, .int v3_29), (0, .ref mo), (1, .int (nI xn.toNatClampNeg)), (2, .int xk)] → lp_X9_drops_29 k29 i29 r9_29 v3_29 = F29_1 → W p l e ({ frames := 1, cells := 0, slots := 0, locals := 22 }) s m args below meth c H locs 0 0 (MQ below (rw_Q D (some (.int R0)) [(mo, .inr (9, [.ref mo_book_a, .ref mo_now_a, .int mo_there, .ref mo_beside_a, .int (nI mo_sights), .ref mo_sight_a, .int (nI mo_signs), .ref mo_pad_a, .int mo_heldAt, .int mo_heldThing, .int mo_reason, .int mo_acts, .ref mo_lefts_a, .ref mo_inWays_a, .ref mo_more_a, .ref mo_wins_a, .ref mo_been_a, .ref mo_image_a, .ref mo_isKept_a])), (mo_book_a, .inl (cI, 19, .inl mo_book)), (mo_now_a, .inl (cI, 19, .inl mo_now)), (mo_beside_a, .inl (cI, 7, .inl mo_beside)), (mo_sight_a, .inl (cI, 16, .inl mo_sight)), (mo_pad_a, .inl (cI, 60, .inl mo_pad)), (mo_lefts_a, .inl (cI, 256, .inl mo_lefts)), (mo_inWays_a, .inl (cI, 128, .inl mo_inWays)), (mo_more_a, .inl (cI, 128, .inl mo_more)), (mo_wins_a, .inl (cZ, 201, .inl mo_wins)), (mo_been_a, .inl (cJ, 9, .inr (.inl mo_been))), (mo_image_a, .inl (cI, 100, .inl mo_image)), (mo_isKept_a, .inl (cZ, 2, .inl mo_isKept))] [(mo, .inr (9, [.ref mo_book_a, .ref mo_now_a, .int mo_there, .ref mo_beside_a, .int (nI mo_sights), .ref mo_sight_a, .int (nI mo_signs), .ref mo_pad_a, .int mo_heldAt, .int mo_heldThing, .int mo_reason, .int mo_acts, .ref mo_lefts_a, .ref mo_inWays_a, .ref mo_more_a, .ref mo_wins_a, .ref mo_been_a, .ref mo_image_a, .ref mo_isKept_a])), (mo_book_a, .inl (cI, 19, .inl mo_book)), (mo_now_a, .inl (cI, 19, .inl mo_now)), (mo_beside_a, .inl (cI, 7, .inl mo_beside)), (mo_sight_a, .inl (cI, 16, .inl mo_sight)), (mo_pad_a, .inl (cI, 60, .inl mo_pad)), (mo_lefts_a, .inl (cI, 256, .inl mo_lefts)), (mo_inWays_a, .inl (cI, 128, .inl mo_inWays)), (mo_more_a, .inl (cI, 128, .inl mo_more)), (mo_wins_a, .inl (cZ, 201, .inl R1)), (mo_been_a, .inl (cJ, 9, .inr (.inl mo_been))), (mo_image_a, .inl (cI, 100, .inl mo_image)), (mo_isKept_a, .inl (cZ, 2, .inl mo_isKept))]) args s 0 0 (va_In [(mo, .inr (9, [.ref mo_book_a, .ref mo_now_a, .int mo_there, .ref mo_beside_a, .int (nI mo_sights), .ref mo_sight_a, .int (nI mo_signs), .ref mo_pad_a, .int mo_heldAt, .int mo_heldThing, .int mo_reason, .int mo_acts, .ref mo_lefts_a, .ref mo_inWays_a, .ref mo_more_a, .ref mo_wins_a, .ref mo_been_a, .ref mo_image_a, .ref mo_isKept_a])), (mo_book_a, .inl (cI, 19, .inl mo_book)), (mo_now_a, .inl (cI, 19, .inl mo_now)), (mo_beside_a, .inl (cI, 7, .inl mo_beside)), (mo_sight_a, .inl (cI, 16, .inl mo_sight)), (mo_pad_a, .inl (cI, 60, .inl mo_pad)), (mo_lefts_a, .inl (cI, 256, .inl mo_lefts)), (mo_inWays_a, .inl (cI, 128, .inl mo_inWays)), (mo_more_a, .inl (cI, 128, .inl mo_more)), (mo_wins_a, .inl (cZ, 201, .inl mo_wins)), (mo_been_a, .inl (cJ, 9, .inr (.inl mo_been))), (mo_image_a, .inl (cI, 100, .inl mo_image)), (mo_isKept_a, .inl (cZ, 2, .inl mo_isKept))])) (F0 m 29 ls []) := by
        intro k29
        induction k29 with
        | zero =>
          intro i29 r9_29 v3_29 h29  H locs hP hD hS ls hl hR
          obtain rfl : (xn.toNatClampNeg + 1) = i29 := by omega
          rw [lp_X9_drops_29] at hR
          refine lv_iload hx hb dX9_drops_29 (lv_at hl 0 rfl) ?_
          refine lv_iload_n hx hb dX9_drops_31 rfl (lv_at hl 3 rfl) ?_
          refine lv_icmp_gt (tgt := 111) hx hb dX9_drops_32 (by decide) (fun _ => ?_) (fun h => absurd (clt_t (a := xn.toNatClampNeg) (b := (xn.toNatClampNeg + 1)) rfl rfl (by omega) (by omega)) h)
          subst hR
          exact hexit29 _ _ hP hD hS _ (lv_sub hl [1, 2, 3, 4] rfl)
        | succ k29 ih29 =>
          intro i29 r9_29 v3_29 h29  H locs hP hD hS ls hl hR
          rw [lp_X9_drops_29] at hR
          refine lv_iload hx hb dX9_drops_29 (lv_at hl 0 rfl) ?_
          refine lv_iload_n hx hb dX9_drops_31 rfl (lv_at hl 3 rfl) ?_
          refine lv_icmp_gt (tgt := 111) hx hb dX9_drops_32 (by decide) (fun h => absurd h (clt_f (a := xn.toNatClampNeg) (b := i29) rfl rfl (by omega) (by omega))) (fun _ => ?_)
          refine lv_bipush (v := (-6 : Int32)) hx hb dX9_drops_35 (by decide +kernel) ?_
          refine lv_istore_n (lv' := [(3, .int (-6 : Int32)), (4, .int (nI i29)), (0, .ref mo), (1, .int (nI xn.toNatClampNeg)), (2, .int xk)]) hx hb dX9_drops_37 rfl hl (by decide) rfl (fun ls hl => ?_)
          refine lv_bipush (v := (14 : Int32)) hx hb dX9_drops_38 (by decide +kernel) ?_
          refine lv_istore (lv' := [(5, .int (14 : Int32)), (3, .int (-6 : Int32)), (4, .int (nI i29)), (0, .ref mo), (1, .int (nI xn.toNatClampNeg)), (2, .int xk)]) hx hb dX9_drops_40 hl (by decide) rfl (fun ls hl => ?_)
          obtain ⟨F42_2, hF42_2⟩ : ∃ x, (lp_X9_drops_42 r9_29 i29 14 (-6 : Int32)) = x := ⟨_, rfl⟩
          try rw [hF42_2] at hR
          have hexit42 : ∀ (H : Heap) (locs : List Loc), va_P D vwCl [(mo, .inr (9, [.ref mo_book_a, .ref mo_now_a, .int mo_there, .ref mo_beside_a, .int (nI mo_sights), .ref mo_sight_a, .int (nI mo_signs), .ref mo_pad_a, .int mo_heldAt, .int mo_heldThing, .int mo_reason, .int mo_acts, .ref mo_lefts_a, .ref mo_inWays_a, .ref mo_more_a, .ref mo_wins_a, .ref mo_been_a, .ref mo_image_a, .ref mo_isKept_a])), (mo_book_a, .inl (cI, 19, .inl mo_book)), (mo_now_a, .inl (cI, 19, .inl mo_now)), (mo_beside_a, .inl (cI, 7, .inl mo_beside)), (mo_sight_a, .inl (cI, 16, .inl mo_sight)), (mo_pad_a, .inl (cI, 60, .inl mo_pad)), (mo_lefts_a, .inl (cI, 256, .inl mo_lefts)), (mo_inWays_a, .inl (cI, 128, .inl mo_inWays)), (mo_more_a, .inl (cI, 128, .inl mo_more)), (mo_wins_a, .inl (cZ, 201, .inl r9_29)), (mo_been_a, .inl (cJ, 9, .inr (.inl mo_been))), (mo_image_a, .inl (cI, 100, .inl mo_image)), (mo_isKept_a, .inl (cZ, 2, .inl mo_isKept))] H → va_D (va_In [(mo, .inr (9, [.ref mo_book_a, .ref mo_now_a, .int mo_there, .ref mo_beside_a, .int (nI mo_sights), .ref mo_sight_a, .int (nI mo_signs), .ref mo_pad_a, .int mo_heldAt, .int mo_heldThing, .int mo_reason, .int mo_acts, .ref mo_lefts_a, .ref mo_inWays_a, .ref mo_more_a, .ref mo_wins_a, .ref mo_been_a, .ref mo_image_a, .ref mo_isKept_a])), (mo_book_a, .inl (cI, 19, .inl mo_book)), (mo_now_a, .inl (cI, 19, .inl mo_now)), (mo_beside_a, .inl (cI, 7, .inl mo_beside)), (mo_sight_a, .inl (cI, 16, .inl mo_sight)), (mo_pad_a, .inl (cI, 60, .inl mo_pad)), (mo_lefts_a, .inl (cI, 256, .inl mo_lefts)), (mo_inWays_a, .inl (cI, 128, .inl mo_inWays)), (mo_more_a, .inl (cI, 128, .inl mo_more)), (mo_wins_a, .inl (cZ, 201, .inl mo_wins)), (mo_been_a, .inl (cJ, 9, .inr (.inl mo_been))), (mo_image_a, .inl (cI, 100, .inl mo_image)), (mo_isKept_a, .inl (cZ, 2, .inl mo_isKept))]) [(mo, .inr (9, [.ref mo_book_a, .ref mo_now_a, .int mo_there, .ref mo_beside_a, .int (nI mo_sights), .ref mo_sight_a, .int (nI mo_signs), .ref mo_pad_a, .int mo_heldAt, .int mo_heldThing, .int mo_reason, .int mo_acts, .ref mo_lefts_a, .ref mo_inWays_a, .ref mo_more_a, .ref mo_wins_a, .ref mo_been_a, .ref mo_image_a, .ref mo_isKept_a])), (mo_book_a, .inl (cI, 19, .inl mo_book)), (mo_now_a, .inl (cI, 19, .inl mo_now)), (mo_beside_a, .inl (cI, 7, .inl mo_beside)), (mo_sight_a, .inl (cI, 16, .inl mo_sight)), (mo_pad_a, .inl (cI, 60, .inl mo_pad)), (mo_lefts_a, .inl (cI, 256, .inl mo_lefts)), (mo_inWays_a, .inl (cI, 128, .inl mo_inWays)), (mo_more_a, .inl (cI, 128, .inl mo_more)), (mo_wins_a, .inl (cZ, 201, .inl r9_29)), (mo_been_a, .inl (cJ, 9, .inr (.inl mo_been))), (mo_image_a, .inl (cI, 100, .inl mo_image)), (mo_isKept_a, .inl (cZ, 2, .inl mo_isKept))] → va_S (va_In [(mo, .inr (9, [.ref mo_book_a, .ref mo_now_a, .int mo_there, .ref mo_beside_a, .int (nI mo_sights), .ref mo_sight_a, .int (nI mo_signs), .ref mo_pad_a, .int mo_heldAt, .int mo_heldThing, .int mo_reason, .int mo_acts, .ref mo_lefts_a, .ref mo_inWays_a, .ref mo_more_a, .ref mo_wins_a, .ref mo_been_a, .ref mo_image_a, .ref mo_isKept_a])), (mo_book_a, .inl (cI, 19, .inl mo_book)), (mo_now_a, .inl (cI, 19, .inl mo_now)), (mo_beside_a, .inl (cI, 7, .inl mo_beside)), (mo_sight_a, .inl (cI, 16, .inl mo_sight)), (mo_pad_a, .inl (cI, 60, .inl mo_pad)), (mo_lefts_a, .inl (cI, 256, .inl mo_lefts)), (mo_inWays_a, .inl (cI, 128, .inl mo_inWays)), (mo_more_a, .inl (cI, 128, .inl mo_more)), (mo_wins_a, .inl (cZ, 201, .inl mo_wins)), (mo_been_a, .inl (cJ, 9, .inr (.inl mo_been))), (mo_image_a, .inl (cI, 100, .inl mo_image)), (mo_isKept_a, .inl (cZ, 2, .inl mo_isKept))]) s.heap H locs → ∀ (ls : Array Slot), lv_has ls 6 [(3, .int F42_2), (4, .int (nI i29)), (0, .ref mo), (1, .int (nI xn.toNatClampNeg)), (2, .int xk)] → W p l e ({ frames := 1, cells := 0, slots := 0, locals := 22 }) s m args below meth c H locs 0 0 (MQ below (rw_Q D (some (.int R0)) [(mo, .inr (9, [.ref mo_book_a, .ref mo_now_a, .int mo_there, .ref mo_beside_a, .int (nI mo_sights), .ref mo_sight_a, .int (nI mo_signs), .ref mo_pad_a, .int mo_heldAt, .int mo_heldThing, .int mo_reason, .int mo_acts, .ref mo_lefts_a, .ref mo_inWays_a, .ref mo_more_a, .ref mo_wins_a, .ref mo_been_a, .ref mo_image_a, .ref mo_isKept_a])), (mo_book_a, .inl (cI, 19, .inl mo_book)), (mo_now_a, .inl (cI, 19, .inl mo_now)), (mo_beside_a, .inl (cI, 7, .inl mo_beside)), (mo_sight_a, .inl (cI, 16, .inl mo_sight)), (mo_pad_a, .inl (cI, 60, .inl mo_pad)), (mo_lefts_a, .inl (cI, 256, .inl mo_lefts)), (mo_inWays_a, .inl (cI, 128, .inl mo_inWays)), (mo_more_a, .inl (cI, 128, .inl mo_more)), (mo_wins_a, .inl (cZ, 201, .inl mo_wins)), (mo_been_a, .inl (cJ, 9, .inr (.inl mo_been))), (mo_image_a, .inl (cI, 100, .inl mo_image)), (mo_isKept_a, .inl (cZ, 2, .inl mo_isKept))] [(mo, .inr (9, [.ref mo_book_a, .ref mo_now_a, .int mo_there, .ref mo_beside_a, .int (nI mo_sights), .ref mo_sight_a, .int (nI mo_signs), .ref mo_pad_a, .int mo_heldAt, .int mo_heldThing, .int mo_reason, .int mo_acts, .ref mo_lefts_a, .ref mo_inWays_a, .ref mo_more_a, .ref mo_wins_a, .ref mo_been_a, .ref mo_image_a, .ref mo_isKept_a])), (mo_book_a, .inl (cI, 19, .inl mo_book)), (mo_now_a, .inl (cI, 19, .inl mo_now)), (mo_beside_a, .inl (cI, 7, .inl mo_beside)), (mo_sight_a, .inl (cI, 16, .inl mo_sight)), (mo_pad_a, .inl (cI, 60, .inl mo_pad)), (mo_lefts_a, .inl (cI, 256, .inl mo_lefts)), (mo_inWays_a, .inl (cI, 128, .inl mo_inWays)), (mo_more_a, .inl (cI, 128, .inl mo_more)), (mo_wins_a, .inl (cZ, 201, .inl R1)), (mo_been_a, .inl (cJ, 9, .inr (.inl mo_been))), (mo_image_a, .inl (cI, 100, .inl mo_image)), (mo_isKept_a, .inl (cZ, 2, .inl mo_isKept))]) args s 0 0 (va_In [(mo, .inr (9, [.ref mo_book_a, .ref mo_now_a, .int mo_there, .ref mo_beside_a, .int (nI mo_sights), .ref mo_sight_a, .int (nI mo_signs), .ref mo_pad_a, .int mo_heldAt, .int mo_heldThing, .int mo_reason, .int mo_acts, .ref mo_lefts_a, .ref mo_inWays_a, .ref mo_more_a, .ref mo_wins_a, .ref mo_been_a, .ref mo_image_a, .ref mo_isKept_a])), (mo_book_a, .inl (cI, 19, .inl mo_book)), (mo_now_a, .inl (cI, 19, .inl mo_now)), (mo_beside_a, .inl (cI, 7, .inl mo_beside)), (mo_sight_a, .inl (cI, 16, .inl mo_sight)), (mo_pad_a, .inl (cI, 60, .inl mo_pad)), (mo_lefts_a, .inl (cI, 256, .inl mo_lefts)), (mo_inWays_a, .inl (cI, 128, .inl mo_inWays)), (mo_more_a, .inl (cI, 128, .inl mo_more)), (mo_wins_a, .inl (cZ, 201, .inl mo_wins)), (mo_been_a, .inl (cJ, 9, .inr (.inl mo_been))), (mo_image_a, .inl (cI, 100, .inl mo_image)), (mo_isKept_a, .inl (cZ, 2, .inl mo_isKept))])) (F0 m 89 ls []) := by
            intro H locs hP hD hS ls hl
            refine lv_aload_n hx hb dX9_drops_89 rfl (lv_at hl 2 rfl) ?_
            refine va_get (D := D) (ci := 9) (v := .ref mo_wins_a) (C := RX9) (T := TX9) (N := 19) hx hb hts in_X9_drops_X9 hown hK.1 hP 0 rfl rfl 15 (by decide) hq0 (fun _ h9 => h9) rfl dX9_drops_90 ?_
            refine lv_iload hx hb dX9_drops_93 (lv_at hl 1 rfl) ?_
            refine lv_iload_n hx hb dX9_drops_95 rfl (lv_at hl 0 rfl) ?_
            refine lv_if_le (tgt := 103) hx hb dX9_drops_96 (by decide) (fun c96 => ?_) (fun c96 => ?_)
            · rw [if_pos c96] at hR
              refine lv_iconst (v := (0 : Int32)) hx hb dX9_drops_103 (by decide) ?_
              refine za_st hx hb hK hP hD hS 9 rfl (i := i29) (by omega) (by decide) dX9_drops_104 (fun H locs hP hD hS => ?_)
              have hP : va_P D vwCl [(mo, .inr (9, [.ref mo_book_a, .ref mo_now_a, .int mo_there, .ref mo_beside_a, .int (nI mo_sights), .ref mo_sight_a, .int (nI mo_signs), .ref mo_pad_a, .int mo_heldAt, .int mo_heldThing, .int mo_reason, .int mo_acts, .ref mo_lefts_a, .ref mo_inWays_a, .ref mo_more_a, .ref mo_wins_a, .ref mo_been_a, .ref mo_image_a, .ref mo_isKept_a])), (mo_book_a, .inl (cI, 19, .inl mo_book)), (mo_now_a, .inl (cI, 19, .inl mo_now)), (mo_beside_a, .inl (cI, 7, .inl mo_beside)), (mo_sight_a, .inl (cI, 16, .inl mo_sight)), (mo_pad_a, .inl (cI, 60, .inl mo_pad)), (mo_lefts_a, .inl (cI, 256, .inl mo_lefts)), (mo_inWays_a, .inl (cI, 128, .inl mo_inWays)), (mo_more_a, .inl (cI, 128, .inl mo_more)), (mo_wins_a, .inl (cZ, 201, .inl (upd r9_29 i29 (vp_nar .boolean (0 : Int32))))), (mo_been_a, .inl (cJ, 9, .inr (.inl mo_been))), (mo_image_a, .inl (cI, 100, .inl mo_image)), (mo_isKept_a, .inl (cZ, 2, .inl mo_isKept))] H := hP
              have hD : va_D _ [(mo, .inr (9, [.ref mo_book_a, .ref mo_now_a, .int mo_there, .ref mo_beside_a, .int (nI mo_sights), .ref mo_sight_a, .int (nI mo_signs), .ref mo_pad_a, .int mo_heldAt, .int mo_heldThing, .int mo_reason, .int mo_acts, .ref mo_lefts_a, .ref mo_inWays_a, .ref mo_more_a, .ref mo_wins_a, .ref mo_been_a, .ref mo_image_a, .ref mo_isKept_a])), (mo_book_a, .inl (cI, 19, .inl mo_book)), (mo_now_a, .inl (cI, 19, .inl mo_now)), (mo_beside_a, .inl (cI, 7, .inl mo_beside)), (mo_sight_a, .inl (cI, 16, .inl mo_sight)), (mo_pad_a, .inl (cI, 60, .inl mo_pad)), (mo_lefts_a, .inl (cI, 256, .inl mo_lefts)), (mo_inWays_a, .inl (cI, 128, .inl mo_inWays)), (mo_more_a, .inl (cI, 128, .inl mo_more)), (mo_wins_a, .inl (cZ, 201, .inl (upd r9_29 i29 (vp_nar .boolean (0 : Int32))))), (mo_been_a, .inl (cJ, 9, .inr (.inl mo_been))), (mo_image_a, .inl (cI, 100, .inl mo_image)), (mo_isKept_a, .inl (cZ, 2, .inl mo_isKept))] := hD
              refine lv_iinc (v := (nI (i29 + 1))) (lv' := [(4, .int (nI (i29 + 1))), (3, .int F42_2), (0, .ref mo), (1, .int (nI xn.toNatClampNeg)), (2, .int xk)]) hx hb dX9_drops_105 hl (k := 1) rfl (by exact nI_add i29 1) (by decide) rfl (fun ls hl => ?_)
              refine lv_goto (tgt := 29) hx hb dX9_drops_108 (by decide) ?_
              exact ih29 _ _ _ (by omega) _ _ hP hD hS _ (lv_sub hl [0, 1, 2, 3, 4] rfl) hR
            · rw [if_neg c96] at hR
              refine lv_iconst (v := (1 : Int32)) hx hb dX9_drops_99 (by decide) ?_
              refine lv_goto (tgt := 104) hx hb dX9_drops_100 (by decide) ?_
              refine za_st hx hb hK hP hD hS 9 rfl (i := i29) (by omega) (by decide) dX9_drops_104 (fun H locs hP hD hS => ?_)
              have hP : va_P D vwCl [(mo, .inr (9, [.ref mo_book_a, .ref mo_now_a, .int mo_there, .ref mo_beside_a, .int (nI mo_sights), .ref mo_sight_a, .int (nI mo_signs), .ref mo_pad_a, .int mo_heldAt, .int mo_heldThing, .int mo_reason, .int mo_acts, .ref mo_lefts_a, .ref mo_inWays_a, .ref mo_more_a, .ref mo_wins_a, .ref mo_been_a, .ref mo_image_a, .ref mo_isKept_a])), (mo_book_a, .inl (cI, 19, .inl mo_book)), (mo_now_a, .inl (cI, 19, .inl mo_now)), (mo_beside_a, .inl (cI, 7, .inl mo_beside)), (mo_sight_a, .inl (cI, 16, .inl mo_sight)), (mo_pad_a, .inl (cI, 60, .inl mo_pad)), (mo_lefts_a, .inl (cI, 256, .inl mo_lefts)), (mo_inWays_a, .inl (cI, 128, .inl mo_inWays)), (mo_more_a, .inl (cI, 128, .inl mo_more)), (mo_wins_a, .inl (cZ, 201, .inl (upd r9_29 i29 (vp_nar .boolean (1 : Int32))))), (mo_been_a, .inl (cJ, 9, .inr (.inl mo_been))), (mo_image_a, .inl (cI, 100, .inl mo_image)), (mo_isKept_a, .inl (cZ, 2, .inl mo_isKept))] H := hP
              have hD : va_D _ [(mo, .inr (9, [.ref mo_book_a, .ref mo_now_a, .int mo_there, .ref mo_beside_a, .int (nI mo_sights), .ref mo_sight_a, .int (nI mo_signs), .ref mo_pad_a, .int mo_heldAt, .int mo_heldThing, .int mo_reason, .int mo_acts, .ref mo_lefts_a, .ref mo_inWays_a, .ref mo_more_a, .ref mo_wins_a, .ref mo_been_a, .ref mo_image_a, .ref mo_isKept_a])), (mo_book_a, .inl (cI, 19, .inl mo_book)), (mo_now_a, .inl (cI, 19, .inl mo_now)), (mo_beside_a, .inl (cI, 7, .inl mo_beside)), (mo_sight_a, .inl (cI, 16, .inl mo_sight)), (mo_pad_a, .inl (cI, 60, .inl mo_pad)), (mo_lefts_a, .inl (cI, 256, .inl mo_lefts)), (mo_inWays_a, .inl (cI, 128, .inl mo_inWays)), (mo_more_a, .inl (cI, 128, .inl mo_more)), (mo_wins_a, .inl (cZ, 201, .inl (upd r9_29 i29 (vp_nar .boolean (1 : Int32))))), (mo_been_a, .inl (cJ, 9, .inr (.inl mo_been))), (mo_image_a, .inl (cI, 100, .inl mo_image)), (mo_isKept_a, .inl (cZ, 2, .inl mo_isKept))] := hD
              refine lv_iinc (v := (nI (i29 + 1))) (lv' := [(4, .int (nI (i29 + 1))), (3, .int F42_2), (0, .ref mo), (1, .int (nI xn.toNatClampNeg)), (2, .int xk)]) hx hb dX9_drops_105 hl (k := 1) rfl (by exact nI_add i29 1) (by decide) rfl (fun ls hl => ?_)
              refine lv_goto (tgt := 29) hx hb dX9_drops_108 (by decide) ?_
              exact ih29 _ _ _ (by omega) _ _ hP hD hS _ (lv_sub hl [0, 1, 2, 3, 4] rfl) hR
          have hloop42 : ∀ (k42 : Nat) (v3_42 : Int32), k42 ≤ 14 → ∀ (H : Heap) (locs : List Loc), va_P D vwCl [(mo, .inr (9, [.ref mo_book_a, .ref mo_now_a, .int mo_there, .ref mo_beside_a, .int (nI mo_sights), .ref mo_sight_a, .int (nI mo_signs), .ref mo_pad_a, .int mo_heldAt, .int mo_heldThing, .int mo_reason, .int mo_acts, .ref mo_lefts_a, .ref mo_inWays_a, .ref mo_more_a, .ref mo_wins_a, .ref mo_been_a, .ref mo_image_a, .ref mo_isKept_a])), (mo_book_a, .inl (cI, 19, .inl mo_book)), (mo_now_a, .inl (cI, 19, .inl mo_now)), (mo_beside_a, .inl (cI, 7, .inl mo_beside)), (mo_sight_a, .inl (cI, 16, .inl mo_sight)), (mo_pad_a, .inl (cI, 60, .inl mo_pad)), (mo_lefts_a, .inl (cI, 256, .inl mo_lefts)), (mo_inWays_a, .inl (cI, 128, .inl mo_inWays)), (mo_more_a, .inl (cI, 128, .inl mo_more)), (mo_wins_a, .inl (cZ, 201, .inl r9_29)), (mo_been_a, .inl (cJ, 9, .inr (.inl mo_been))), (mo_image_a, .inl (cI, 100, .inl mo_image)), (mo_isKept_a, .inl (cZ, 2, .inl mo_isKept))] H → va_D (va_In [(mo, .inr (9, [.ref mo_book_a, .ref mo_now_a, .int mo_there, .ref mo_beside_a, .int (nI mo_sights), .ref mo_sight_a, .int (nI mo_signs), .ref mo_pad_a, .int mo_heldAt, .int mo_heldThing, .int mo_reason, .int mo_acts, .ref mo_lefts_a, .ref mo_inWays_a, .ref mo_more_a, .ref mo_wins_a, .ref mo_been_a, .ref mo_image_a, .ref mo_isKept_a])), (mo_book_a, .inl (cI, 19, .inl mo_book)), (mo_now_a, .inl (cI, 19, .inl mo_now)), (mo_beside_a, .inl (cI, 7, .inl mo_beside)), (mo_sight_a, .inl (cI, 16, .inl mo_sight)), (mo_pad_a, .inl (cI, 60, .inl mo_pad)), (mo_lefts_a, .inl (cI, 256, .inl mo_lefts)), (mo_inWays_a, .inl (cI, 128, .inl mo_inWays)), (mo_more_a, .inl (cI, 128, .inl mo_more)), (mo_wins_a, .inl (cZ, 201, .inl mo_wins)), (mo_been_a, .inl (cJ, 9, .inr (.inl mo_been))), (mo_image_a, .inl (cI, 100, .inl mo_image)), (mo_isKept_a, .inl (cZ, 2, .inl mo_isKept))]) [(mo, .inr (9, [.ref mo_book_a, .ref mo_now_a, .int mo_there, .ref mo_beside_a, .int (nI mo_sights), .ref mo_sight_a, .int (nI mo_signs), .ref mo_pad_a, .int mo_heldAt, .int mo_heldThing, .int mo_reason, .int mo_acts, .ref mo_lefts_a, .ref mo_inWays_a, .ref mo_more_a, .ref mo_wins_a, .ref mo_been_a, .ref mo_image_a, .ref mo_isKept_a])), (mo_book_a, .inl (cI, 19, .inl mo_book)), (mo_now_a, .inl (cI, 19, .inl mo_now)), (mo_beside_a, .inl (cI, 7, .inl mo_beside)), (mo_sight_a, .inl (cI, 16, .inl mo_sight)), (mo_pad_a, .inl (cI, 60, .inl mo_pad)), (mo_lefts_a, .inl (cI, 256, .inl mo_lefts)), (mo_inWays_a, .inl (cI, 128, .inl mo_inWays)), (mo_more_a, .inl (cI, 128, .inl mo_more)), (mo_wins_a, .inl (cZ, 201, .inl r9_29)), (mo_been_a, .inl (cJ, 9, .inr (.inl mo_been))), (mo_image_a, .inl (cI, 100, .inl mo_image)), (mo_isKept_a, .inl (cZ, 2, .inl mo_isKept))] → va_S (va_In [(mo, .inr (9, [.ref mo_book_a, .ref mo_now_a, .int mo_there, .ref mo_beside_a, .int (nI mo_sights), .ref mo_sight_a, .int (nI mo_signs), .ref mo_pad_a, .int mo_heldAt, .int mo_heldThing, .int mo_reason, .int mo_acts, .ref mo_lefts_a, .ref mo_inWays_a, .ref mo_more_a, .ref mo_wins_a, .ref mo_been_a, .ref mo_image_a, .ref mo_isKept_a])), (mo_book_a, .inl (cI, 19, .inl mo_book)), (mo_now_a, .inl (cI, 19, .inl mo_now)), (mo_beside_a, .inl (cI, 7, .inl mo_beside)), (mo_sight_a, .inl (cI, 16, .inl mo_sight)), (mo_pad_a, .inl (cI, 60, .inl mo_pad)), (mo_lefts_a, .inl (cI, 256, .inl mo_lefts)), (mo_inWays_a, .inl (cI, 128, .inl mo_inWays)), (mo_more_a, .inl (cI, 128, .inl mo_more)), (mo_wins_a, .inl (cZ, 201, .inl mo_wins)), (mo_been_a, .inl (cJ, 9, .inr (.inl mo_been))), (mo_image_a, .inl (cI, 100, .inl mo_image)), (mo_isKept_a, .inl (cZ, 2, .inl mo_isKept))]) s.heap H locs → ∀ (ls : Array Slot), lv_has ls 6 [(5, .int (nI k42)), (3, .int v3_42), (4, .int (nI i29)), (0, .ref mo), (1, .int (nI xn.toNatClampNeg)), (2, .int xk)] → lp_X9_drops_42 r9_29 i29 k42 v3_42 = F42_2 → W p l e ({ frames := 1, cells := 0, slots := 0, locals := 22 }) s m args below meth c H locs 0 0 (MQ below (rw_Q D (some (.int R0)) [(mo, .inr (9, [.ref mo_book_a, .ref mo_now_a, .int mo_there, .ref mo_beside_a, .int (nI mo_sights), .ref mo_sight_a, .int (nI mo_signs), .ref mo_pad_a, .int mo_heldAt, .int mo_heldThing, .int mo_reason, .int mo_acts, .ref mo_lefts_a, .ref mo_inWays_a, .ref mo_more_a, .ref mo_wins_a, .ref mo_been_a, .ref mo_image_a, .ref mo_isKept_a])), (mo_book_a, .inl (cI, 19, .inl mo_book)), (mo_now_a, .inl (cI, 19, .inl mo_now)), (mo_beside_a, .inl (cI, 7, .inl mo_beside)), (mo_sight_a, .inl (cI, 16, .inl mo_sight)), (mo_pad_a, .inl (cI, 60, .inl mo_pad)), (mo_lefts_a, .inl (cI, 256, .inl mo_lefts)), (mo_inWays_a, .inl (cI, 128, .inl mo_inWays)), (mo_more_a, .inl (cI, 128, .inl mo_more)), (mo_wins_a, .inl (cZ, 201, .inl mo_wins)), (mo_been_a, .inl (cJ, 9, .inr (.inl mo_been))), (mo_image_a, .inl (cI, 100, .inl mo_image)), (mo_isKept_a, .inl (cZ, 2, .inl mo_isKept))] [(mo, .inr (9, [.ref mo_book_a, .ref mo_now_a, .int mo_there, .ref mo_beside_a, .int (nI mo_sights), .ref mo_sight_a, .int (nI mo_signs), .ref mo_pad_a, .int mo_heldAt, .int mo_heldThing, .int mo_reason, .int mo_acts, .ref mo_lefts_a, .ref mo_inWays_a, .ref mo_more_a, .ref mo_wins_a, .ref mo_been_a, .ref mo_image_a, .ref mo_isKept_a])), (mo_book_a, .inl (cI, 19, .inl mo_book)), (mo_now_a, .inl (cI, 19, .inl mo_now)), (mo_beside_a, .inl (cI, 7, .inl mo_beside)), (mo_sight_a, .inl (cI, 16, .inl mo_sight)), (mo_pad_a, .inl (cI, 60, .inl mo_pad)), (mo_lefts_a, .inl (cI, 256, .inl mo_lefts)), (mo_inWays_a, .inl (cI, 128, .inl mo_inWays)), (mo_more_a, .inl (cI, 128, .inl mo_more)), (mo_wins_a, .inl (cZ, 201, .inl R1)), (mo_been_a, .inl (cJ, 9, .inr (.inl mo_been))), (mo_image_a, .inl (cI, 100, .inl mo_image)), (mo_isKept_a, .inl (cZ, 2, .inl mo_isKept))]) args s 0 0 (va_In [(mo, .inr (9, [.ref mo_book_a, .ref mo_now_a, .int mo_there, .ref mo_beside_a, .int (nI mo_sights), .ref mo_sight_a, .int (nI mo_signs), .ref mo_pad_a, .int mo_heldAt, .int mo_heldThing, .int mo_reason, .int mo_acts, .ref mo_lefts_a, .ref mo_inWays_a, .ref mo_more_a, .ref mo_wins_a, .ref mo_been_a, .ref mo_image_a, .ref mo_isKept_a])), (mo_book_a, .inl (cI, 19, .inl mo_book)), (mo_now_a, .inl (cI, 19, .inl mo_now)), (mo_beside_a, .inl (cI, 7, .inl mo_beside)), (mo_sight_a, .inl (cI, 16, .inl mo_sight)), (mo_pad_a, .inl (cI, 60, .inl mo_pad)), (mo_lefts_a, .inl (cI, 256, .inl mo_lefts)), (mo_inWays_a, .inl (cI, 128, .inl mo_inWays)), (mo_more_a, .inl (cI, 128, .inl mo_more)), (mo_wins_a, .inl (cZ, 201, .inl mo_wins)), (mo_been_a, .inl (cJ, 9, .inr (.inl mo_been))), (mo_image_a, .inl (cI, 100, .inl mo_image)), (mo_isKept_a, .inl (cZ, 2, .inl mo_isKept))])) (F0 m 42 ls []) := by
            intro k42
            induction k42 with
            | zero =>
              intro v3_42 h42  H locs hP hD hS ls hl hR
              rw [lp_X9_drops_42] at hR
              refine lv_iload hx hb dX9_drops_42 (lv_at hl 0 rfl) ?_
              refine lv_if_le (tgt := 89) hx hb dX9_drops_44 (by decide) (fun _ => ?_) (fun h => absurd (cle_t (a := 0) (b := 0) rfl rfl (by omega) (by omega)) h)
              subst hR
              exact hexit42 _ _ hP hD hS _ (lv_sub hl [1, 2, 3, 4, 5] rfl)
            | succ k42 ih42 =>
              intro v3_42 h42  H locs hP hD hS ls hl hR
              rw [lp_X9_drops_42] at hR
              refine lv_iload hx hb dX9_drops_42 (lv_at hl 0 rfl) ?_
              refine lv_if_le (tgt := 89) hx hb dX9_drops_44 (by decide) (fun h => absurd h (cle_f (a := (k42 + 1)) (b := 0) rfl rfl (by omega) (by omega))) (fun _ => ?_)
              refine lv_iload hx hb dX9_drops_47 (lv_at hl 0 rfl) ?_
              refine lv_iload hx hb dX9_drops_49 (lv_at hl 0 rfl) ?_
              refine lv_imul hx hb dX9_drops_51 ?_
              rw [show ((nI (k42 + 1)) * (nI (k42 + 1))) = (nI ((k42 + 1) * (k42 + 1))) from pk_mul (k42 + 1) (k42 + 1)]
              refine lv_iload hx hb dX9_drops_52 (lv_at hl 2 rfl) ?_
              refine lv_icmp_gt (tgt := 81) hx hb dX9_drops_54 (by decide) (fun c54 => ?_) (fun c54 => ?_)
              · rw [if_pos c54] at hR
                refine lv_iload_n hx hb dX9_drops_81 rfl (lv_at hl 1 rfl) ?_
                refine lv_istore_n (lv' := [(3, .int v3_42), (5, .int (nI (k42 + 1))), (4, .int (nI i29)), (0, .ref mo), (1, .int (nI xn.toNatClampNeg)), (2, .int xk)]) hx hb dX9_drops_82 rfl hl (by decide) rfl (fun ls hl => ?_)
                refine lv_iinc (v := (nI k42)) (lv' := [(5, .int (nI k42)), (3, .int v3_42), (4, .int (nI i29)), (0, .ref mo), (1, .int (nI xn.toNatClampNeg)), (2, .int xk)]) hx hb dX9_drops_83 hl (k := 1) rfl (iinc_pred k42) (by decide) rfl (fun ls hl => ?_)
                refine lv_goto (tgt := 42) hx hb dX9_drops_86 (by decide) ?_
                exact ih42 _ (by omega) _ _ hP hD hS _ (lv_sub hl [0, 1, 2, 3, 4, 5] rfl) hR
              · rw [if_neg c54] at hR
                refine lv_aload_n hx hb dX9_drops_57 rfl (lv_at hl 3 rfl) ?_
                refine va_get (D := D) (ci := 9) (v := .ref mo_wins_a) (C := RX9) (T := TX9) (N := 19) hx hb hts in_X9_drops_X9 hown hK.1 hP 0 rfl rfl 15 (by decide) hq0 (fun _ h9 => h9) rfl dX9_drops_58 ?_
                refine lv_iload hx hb dX9_drops_61 (lv_at hl 2 rfl) ?_
                refine lv_iload hx hb dX9_drops_63 (lv_at hl 0 rfl) ?_
                refine lv_iload hx hb dX9_drops_65 (lv_at hl 0 rfl) ?_
                refine lv_imul hx hb dX9_drops_67 ?_
                rw [show ((nI (k42 + 1)) * (nI (k42 + 1))) = (nI ((k42 + 1) * (k42 + 1))) from pk_mul (k42 + 1) (k42 + 1)]
                refine lv_isub hx hb dX9_drops_68 ?_
                rw [show ((nI i29) - (nI ((k42 + 1) * (k42 + 1)))) = (nI (i29 - ((k42 + 1) * (k42 + 1)))) from pk_sub (a := i29) (b := ((k42 + 1) * (k42 + 1))) (of_nlt (a := i29) (b := (k42 + 1) * (k42 + 1)) (by omega) (sq_lt (by omega)) c54)]
                refine za_ld hx hb hK hP 9 rfl (i := (i29 - ((k42 + 1) * (k42 + 1)))) (by omega) (by decide) dX9_drops_69 ?_
                refine lv_if_ne (tgt := 81) hx hb dX9_drops_70 (by decide) (fun c70 => ?_) (fun c70 => ?_)
                · rw [if_neg c70] at hR
                  refine lv_iload_n hx hb dX9_drops_81 rfl (lv_at hl 1 rfl) ?_
                  refine lv_istore_n (lv' := [(3, .int v3_42), (5, .int (nI (k42 + 1))), (4, .int (nI i29)), (0, .ref mo), (1, .int (nI xn.toNatClampNeg)), (2, .int xk)]) hx hb dX9_drops_82 rfl hl (by decide) rfl (fun ls hl => ?_)
                  refine lv_iinc (v := (nI k42)) (lv' := [(5, .int (nI k42)), (3, .int v3_42), (4, .int (nI i29)), (0, .ref mo), (1, .int (nI xn.toNatClampNeg)), (2, .int xk)]) hx hb dX9_drops_83 hl (k := 1) rfl (iinc_pred k42) (by decide) rfl (fun ls hl => ?_)
                  refine lv_goto (tgt := 42) hx hb dX9_drops_86 (by decide) ?_
                  exact ih42 _ (by omega) _ _ hP hD hS _ (lv_sub hl [0, 1, 2, 3, 4, 5] rfl) hR
                · rw [if_pos c70] at hR
                  refine lv_iload hx hb dX9_drops_73 (lv_at hl 0 rfl) ?_
                  refine lv_iload hx hb dX9_drops_75 (lv_at hl 0 rfl) ?_
                  refine lv_imul hx hb dX9_drops_77 ?_
                  rw [show ((nI (k42 + 1)) * (nI (k42 + 1))) = (nI ((k42 + 1) * (k42 + 1))) from pk_mul (k42 + 1) (k42 + 1)]
                  refine lv_goto (tgt := 82) hx hb dX9_drops_78 (by decide) ?_
                  refine lv_istore_n (lv' := [(3, .int (nI ((k42 + 1) * (k42 + 1)))), (5, .int (nI (k42 + 1))), (4, .int (nI i29)), (0, .ref mo), (1, .int (nI xn.toNatClampNeg)), (2, .int xk)]) hx hb dX9_drops_82 rfl hl (by decide) rfl (fun ls hl => ?_)
                  refine lv_iinc (v := (nI k42)) (lv' := [(5, .int (nI k42)), (3, .int (nI ((k42 + 1) * (k42 + 1)))), (4, .int (nI i29)), (0, .ref mo), (1, .int (nI xn.toNatClampNeg)), (2, .int xk)]) hx hb dX9_drops_83 hl (k := 1) rfl (iinc_pred k42) (by decide) rfl (fun ls hl => ?_)
                  refine lv_goto (tgt := 42) hx hb dX9_drops_86 (by decide) ?_
                  exact ih42 _ (by omega) _ _ hP hD hS _ (lv_sub hl [0, 1, 2, 3, 4, 5] rfl) hR
          exact hloop42 14 _ (Nat.le_refl _) _ _ hP hD hS _ hl hF42_2
      exact hloop29 (xn.toNatClampNeg + 1) 0 _ _ (by omega) _ _ hP hD hS _ hl hF29_1
    · rw [if_pos c17] at hR
      refine lv_bipush (v := (-2 : Int32)) hx hb dX9_drops_20 (by decide +kernel) ?_
      obtain ⟨rfl, rfl⟩ := prodI2 hR
      exact rw_iret hx hb hr hlocks hP hS dX9_drops_22


def lp_X9_lowest_6 (xa : Int64) (xb : Int64) (xq : Int32) : Nat → Int64 → Int64 → Int64
  | 0, _, _ => 0
  | k6 + 1, v5_6, v7_6 => (if ((lg_cmp v7_6 (0 : Int64)) = 0) then (if (xq = 0) then (xa / v5_6) else (xb / v5_6)) else (lp_X9_lowest_6 xa xb xq k6 v7_6 (v5_6 - v5_6 / v7_6 * v7_6)))
def f_X9_lowest (xa : Int64) (xb : Int64) (xq : Int32) : Int64 :=
  (lp_X9_lowest_6 xa xb xq (xb.toInt.natAbs + 1) xa xb)
set_option maxHeartbeats 4000000 in
set_option maxRecDepth 100000 in
theorem c_X9_lowest (l : Launch) (D : va_G) (cI cJ cZ : ClassId) (xa : Int64) (xb : Int64) (xq : Int32) (hb0 : ¬ xb = 0) : RO l yX9_lowest wsX9_lowest ({ frames := 0, cells := 0, slots := 0, locals := 0 }) [.long xa, .long xb, .int xq] D cI cJ cZ [] (.long (f_X9_lowest xa xb xq)) := by
  obtain ⟨R, hR⟩ : ∃ R, (f_X9_lowest xa xb xq) = R := ⟨_, rfl⟩
  rw [hR]
  refine ro_start (cc := cX9_lowest) (maxL := 11) (ret := (some .long)) (by decide) rfl (Nat.le_of_ble_eq_true rfl) ?_
  intro p e s m args below meth c hx hb hr hml hown hts hlocks hP hK ls hl
  have hown : s.vm.findClass RX9 = some m.cls := hown
  have hl : lv_has ls 11 [(0, .long xa), (2, .long xb), (4, .int xq)] := hl
  rw [f_X9_lowest] at hR
  refine lv_lload_n hx hb dX9_lowest_0 rfl (lv_at hl 0 rfl) ?_
  refine lv_lstore (lv' := [(5, .long xa), (0, .long xa), (2, .long xb), (4, .int xq)]) hx hb dX9_lowest_1 hl (by decide) rfl (fun ls hl => ?_)
  refine lv_lload_n hx hb dX9_lowest_3 rfl (lv_at hl 2 rfl) ?_
  refine lv_lstore (lv' := [(7, .long xb), (5, .long xa), (0, .long xa), (2, .long xb), (4, .int xq)]) hx hb dX9_lowest_4 hl (by decide) rfl (fun ls hl => ?_)
  have hloop6 : ∀ (k6 : Nat) (v5_6 : Int64) (v7_6 : Int64), v7_6.toInt.natAbs < k6 → ¬ v5_6 = 0 ∨ ¬ v7_6 = 0 → ∀ (ls : Array Slot), lv_has ls 11 [(7, .long v7_6), (5, .long v5_6), (0, .long xa), (2, .long xb), (4, .int xq)] → lp_X9_lowest_6 xa xb xq k6 v5_6 v7_6 = R → W p l e ({ frames := 0, cells := 0, slots := 0, locals := 0 }) s m args below meth c s.heap [] 0 0 (MQ below (ro_Q (.long R)) args s 0 0 (fun _ => False)) (F0 m 6 ls []) := by
    intro k6
    induction k6 with
    | zero =>
      intro v5_6 v7_6 h6 hz ls hl hR
      exact absurd h6 (Nat.not_lt_zero _)
    | succ k6 ih6 =>
      intro v5_6 v7_6 h6 hz ls hl hR
      rw [lp_X9_lowest_6] at hR
      refine lv_lload hx hb dX9_lowest_6 (lv_at hl 0 rfl) ?_
      refine lv_lconst (v := (0 : Int64)) hx hb dX9_lowest_8 (by decide) ?_
      refine W.lcmp hx hb dX9_lowest_9 ?_
      refine lv_if_eq (tgt := 31) hx hb dX9_lowest_10 (by decide) (fun c10 => ?_) (fun c10 => ?_)
      · rw [if_pos c10] at hR
        refine lv_iload hx hb dX9_lowest_31 (lv_at hl 4 rfl) ?_
        refine lv_if_ne (tgt := 43) hx hb dX9_lowest_33 (by decide) (fun c33 => ?_) (fun c33 => ?_)
        · rw [if_neg c33] at hR
          refine lv_lload_n hx hb dX9_lowest_43 rfl (lv_at hl 3 rfl) ?_
          refine lv_lload hx hb dX9_lowest_44 (lv_at hl 1 rfl) ?_
          refine lv_ldiv hx hb dX9_lowest_46 (gz hz c10) ?_
          subst hR
          exact ro_lret hx hb hr hlocks dX9_lowest_47
        · rw [if_pos c33] at hR
          refine lv_lload_n hx hb dX9_lowest_36 rfl (lv_at hl 2 rfl) ?_
          refine lv_lload hx hb dX9_lowest_37 (lv_at hl 1 rfl) ?_
          refine lv_ldiv hx hb dX9_lowest_39 (gz hz c10) ?_
          refine lv_goto (tgt := 47) hx hb dX9_lowest_40 (by decide) ?_
          subst hR
          exact ro_lret hx hb hr hlocks dX9_lowest_47
      · rw [if_neg c10] at hR
        refine lv_lload hx hb dX9_lowest_13 (lv_at hl 1 rfl) ?_
        refine lv_lload hx hb dX9_lowest_15 (lv_at hl 0 rfl) ?_
        refine lv_lrem hx hb dX9_lowest_17 (lg_ne c10) ?_
        refine lv_lstore (lv' := [(9, .long (v5_6 - v5_6 / v7_6 * v7_6)), (7, .long v7_6), (5, .long v5_6), (0, .long xa), (2, .long xb), (4, .int xq)]) hx hb dX9_lowest_18 hl (by decide) rfl (fun ls hl => ?_)
        refine lv_lload hx hb dX9_lowest_20 (lv_at hl 1 rfl) ?_
        refine lv_lstore (lv' := [(5, .long v7_6), (9, .long (v5_6 - v5_6 / v7_6 * v7_6)), (7, .long v7_6), (0, .long xa), (2, .long xb), (4, .int xq)]) hx hb dX9_lowest_22 hl (by decide) rfl (fun ls hl => ?_)
        refine lv_lload hx hb dX9_lowest_24 (lv_at hl 1 rfl) ?_
        refine lv_lstore (lv' := [(7, .long (v5_6 - v5_6 / v7_6 * v7_6)), (5, .long v7_6), (9, .long (v5_6 - v5_6 / v7_6 * v7_6)), (0, .long xa), (2, .long xb), (4, .int xq)]) hx hb dX9_lowest_26 hl (by decide) rfl (fun ls hl => ?_)
        refine lv_goto (tgt := 6) hx hb dX9_lowest_28 (by decide) ?_
        exact ih6 _ _ (by have := rem_lt (x := v5_6) (lg_ne c10); omega) (Or.inl (lg_ne c10)) _ (lv_sub hl [0, 1, 3, 4, 5] rfl) hR
  exact hloop6 (xb.toInt.natAbs + 1) _ _ (Nat.lt_succ_self _) (Or.inr hb0) _ hl hR


theorem i2l_ne {n : Nat} (h0 : 0 < n) (h : n < 2 ^ 31) : ¬ (nI n).toInt64 = 0 := by
  rw [nI_l h]
  intro e
  have := congrArg Int64.toInt e
  rw [lN_toInt h] at this
  have h6 : (0 : Int64).toInt = 0 := by decide
  rw [h6] at this
  omega
theorem lowpow {m n : Nat} (hm : 1 ≤ m) (hm8 : m ≤ 8) (hn : n ≤ 16) : ¬ lN (m ^ n) = 0 := by
  intro e
  have h1 : m ^ n < 2 ^ 63 := Nat.lt_of_le_of_lt (Nat.pow_le_pow_left hm8 n) (Nat.lt_of_le_of_lt (Nat.pow_le_pow_right (by decide) hn) (by decide))
  have := congrArg Int64.toInt e
  rw [pk_lT h1] at this
  have h6 : (0 : Int64).toInt = 0 := by decide
  rw [h6] at this
  have := Nat.pow_pos (n := n) hm
  omega
theorem lowstep {v : Int64} {m n : Nat} (h : v = lN (m ^ n)) (hm : m < 2 ^ 31) : v * (nI m).toInt64 = lN (m ^ (n + 1)) := by
  subst h
  rw [nI_l hm, lN_mul, Nat.pow_succ]

theorem in_X9_everywhere_X9 : ∀ w ∈ u_ws RX9 TX9 19, w ∈ wsX9_everywhere := by decide +kernel
theorem hd_X9_lowest : yX9_lowest.cls ≠ "java/lang/invoke/MethodHandle" ∧ yX9_lowest.cls ≠ "java/lang/invoke/VarHandle" ∧ (parseMethodDescriptor yX9_lowest.desc).map (fun d => d.parameters.length) = some 3 := by decide +kernel
def lp_X9_everywhere_54 : Nat → Nat → Int64 → Int64
  | 0, _, v5_54 => v5_54
  | k54 + 1, i54, v5_54 => (lp_X9_everywhere_54 k54 (i54 + 1) (v5_54 + ((840 : Int64) / ((nI i54).toInt64))))
def lp_X9_everywhere_98 : Nat → Nat → (Nat → Int64) → (Nat → Int64)
  | 0, _, r10_98 => r10_98
  | k98 + 1, i98, r10_98 => (if ((nI i98) = 0) then (lp_X9_everywhere_98 k98 (i98 + 1) (vp_updL r10_98 i98 (1 : Int64))) else (lp_X9_everywhere_98 k98 (i98 + 1) (vp_updL r10_98 i98 (0 : Int64))))
def lp_X9_everywhere_148 (xm : Int32) : Nat → (Nat → Int64) → (Nat → Int64)
  | 0, r10_148 => r10_148
  | k148 + 1, r10_148 => (if ((nI k148) ≤ (nI xm.toNatClampNeg)) then (if ((nI k148) ≤ 0) then (lp_X9_everywhere_148 xm k148 (vp_updL r10_148 k148 (((r10_148 k148) * ((nI k148).toInt64)) + (0 : Int64)))) else (lp_X9_everywhere_148 xm k148 (vp_updL r10_148 k148 (((r10_148 k148) * ((nI k148).toInt64)) + ((r10_148 (k148 - 1)) * ((((nI xm.toNatClampNeg) - (nI k148)) + (1 : Int32)).toInt64)))))) else (lp_X9_everywhere_148 xm k148 (vp_updL r10_148 k148 (0 : Int64))))
def lp_X9_everywhere_131 (xm : Int32) (xq : Int32) : Nat → Nat → (Nat → Int64) → Int64 → Int64 × (Nat → Int64)
  | 0, _, r10_131, v5_131 => ((f_X9_lowest (r10_131 xm.toNatClampNeg) v5_131 xq), r10_131)
  | k131 + 1, i131, r10_131, v5_131 => (lp_X9_everywhere_131 xm xq k131 (i131 + 1) (lp_X9_everywhere_148 xm 9 r10_131) (v5_131 * ((nI xm.toNatClampNeg).toInt64)))
def f_X9_everywhere (mo_been : Nat → Int64) (xm : Int32) (xn : Int32) (xk : Int32) (xq : Int32) : Int64 × (Nat → Int64) :=
  (if ((f_X9_in xm (1 : Int32) (8 : Int32)) = 0) then ((-1000000000000000002 : Int64), mo_been) else (if ((f_X9_in xn (0 : Int32) (16 : Int32)) = 0) then ((-1000000000000000002 : Int64), mo_been) else (if ((f_X9_in xk (0 : Int32) (1 : Int32)) = 0) then ((-1000000000000000002 : Int64), mo_been) else (if ((f_X9_in xq (0 : Int32) (1 : Int32)) = 0) then ((-1000000000000000002 : Int64), mo_been) else (if (xk = (1 : Int32)) then ((f_X9_lowest (((nI xm.toNatClampNeg).toInt64) * (lp_X9_everywhere_54 ((xm.toNatClampNeg + 1) - 1) 1 (0 : Int64))) (840 : Int64) xq), mo_been) else (lp_X9_everywhere_131 xm xq xn.toNatClampNeg 0 (lp_X9_everywhere_98 9 0 mo_been) (1 : Int64)))))))
set_option maxHeartbeats 4000000 in
set_option maxRecDepth 100000 in
theorem c_X9_everywhere (l : Launch) (D : va_G) (cI cJ cZ : ClassId) (mo : Nat) (mo_book_a : Nat) (mo_now_a : Nat) (mo_there : Int32) (mo_beside_a : Nat) (mo_sights : Nat) (mo_sight_a : Nat) (mo_signs : Nat) (mo_pad_a : Nat) (mo_heldAt : Int32) (mo_heldThing : Int32) (mo_reason : Int32) (mo_acts : Int32) (mo_lefts_a : Nat) (mo_inWays_a : Nat) (mo_more_a : Nat) (mo_wins_a : Nat) (mo_been_a : Nat) (mo_image_a : Nat) (mo_isKept_a : Nat) (mo_book : Nat → Int32) (mo_now : Nat → Int32) (mo_beside : Nat → Int32) (mo_sight : Nat → Int32) (mo_pad : Nat → Int32) (mo_lefts : Nat → Int32) (mo_inWays : Nat → Int32) (mo_more : Nat → Int32) (mo_wins : Nat → Int32) (mo_been : Nat → Int64) (mo_image : Nat → Int32) (mo_isKept : Nat → Int32) (xm : Int32) (xn : Int32) (xk : Int32) (xq : Int32) : RW l yX9_everywhere wsX9_everywhere ({ frames := 1, cells := 0, slots := 0, locals := 30 }) [.ref mo, .int xm, .int xn, .int xk, .int xq] D cI cJ cZ [(mo, .inr (9, [.ref mo_book_a, .ref mo_now_a, .int mo_there, .ref mo_beside_a, .int (nI mo_sights), .ref mo_sight_a, .int (nI mo_signs), .ref mo_pad_a, .int mo_heldAt, .int mo_heldThing, .int mo_reason, .int mo_acts, .ref mo_lefts_a, .ref mo_inWays_a, .ref mo_more_a, .ref mo_wins_a, .ref mo_been_a, .ref mo_image_a, .ref mo_isKept_a])), (mo_book_a, .inl (cI, 19, .inl mo_book)), (mo_now_a, .inl (cI, 19, .inl mo_now)), (mo_beside_a, .inl (cI, 7, .inl mo_beside)), (mo_sight_a, .inl (cI, 16, .inl mo_sight)), (mo_pad_a, .inl (cI, 60, .inl mo_pad)), (mo_lefts_a, .inl (cI, 256, .inl mo_lefts)), (mo_inWays_a, .inl (cI, 128, .inl mo_inWays)), (mo_more_a, .inl (cI, 128, .inl mo_more)), (mo_wins_a, .inl (cZ, 201, .inl mo_wins)), (mo_been_a, .inl (cJ, 9, .inr (.inl mo_been))), (mo_image_a, .inl (cI, 100, .inl mo_image)), (mo_isKept_a, .inl (cZ, 2, .inl mo_isKept))] (some (.long ((f_X9_everywhere mo_been xm xn xk xq).1))) [(mo, .inr (9, [.ref mo_book_a, .ref mo_now_a, .int mo_there, .ref mo_beside_a, .int (nI mo_sights), .ref mo_sight_a, .int (nI mo_signs), .ref mo_pad_a, .int mo_heldAt, .int mo_heldThing, .int mo_reason, .int mo_acts, .ref mo_lefts_a, .ref mo_inWays_a, .ref mo_more_a, .ref mo_wins_a, .ref mo_been_a, .ref mo_image_a, .ref mo_isKept_a])), (mo_book_a, .inl (cI, 19, .inl mo_book)), (mo_now_a, .inl (cI, 19, .inl mo_now)), (mo_beside_a, .inl (cI, 7, .inl mo_beside)), (mo_sight_a, .inl (cI, 16, .inl mo_sight)), (mo_pad_a, .inl (cI, 60, .inl mo_pad)), (mo_lefts_a, .inl (cI, 256, .inl mo_lefts)), (mo_inWays_a, .inl (cI, 128, .inl mo_inWays)), (mo_more_a, .inl (cI, 128, .inl mo_more)), (mo_wins_a, .inl (cZ, 201, .inl mo_wins)), (mo_been_a, .inl (cJ, 9, .inr (.inl ((f_X9_everywhere mo_been xm xn xk xq).2)))), (mo_image_a, .inl (cI, 100, .inl mo_image)), (mo_isKept_a, .inl (cZ, 2, .inl mo_isKept))] := by
  obtain ⟨R0, R1, hR⟩ := prodE2 (f_X9_everywhere mo_been xm xn xk xq)
  rw [hR]
  dsimp only
  refine rw_start (cc := cX9_everywhere) (maxL := 9) (ret := (some .long)) (by decide) rfl (Nat.le_of_ble_eq_true rfl) ?_
  intro p e s m args below meth c hx hb hr hml hown hts hlocks hP hD hS hK ls hl
  have hown : s.vm.findClass RX9 = some m.cls := hown
  have hl : lv_has ls 9 [(0, .ref mo), (1, .int xm), (2, .int xn), (3, .int xk), (4, .int xq)] := hl
  have hq0 := hts (.constantLong RX9 146 (-1000000000000000002)) (by decide +kernel)
  have hq1 := hts (.constantLong RX9 148 (840)) (by decide +kernel)
  have hq2 := hts (.fieldLink RX9 38 "StuckVanesModel" "been" "[J") (by decide +kernel)
  rw [f_X9_everywhere] at hR
  refine lv_iload_n hx hb dX9_everywhere_0 rfl (lv_at hl 1 rfl) ?_
  refine lv_iconst (v := (1 : Int32)) hx hb dX9_everywhere_1 (by decide) ?_
  refine lv_bipush (v := (8 : Int32)) hx hb dX9_everywhere_2 (by decide +kernel) ?_
  refine ro_S (As := [.int xm, .int (1 : Int32), .int (8 : Int32)]) (rest := []) ⟨hx, hb, hml, hown, hts⟩ hK (c_X9_in l D cI cJ cZ xm (1 : Int32) (8 : Int32)) va_P_nil (va_cwS 3 hts gX9_everywhere_X9_in rfl rfl rfl hd_X9_in ⟨(Nat.le_of_ble_eq_true rfl), (Nat.le_of_ble_eq_true rfl)⟩) rfl hl.1 rfl (Nat.le_of_ble_eq_true rfl) dX9_everywhere_4 (Nat.zero_le _) (Nat.zero_le _) ?_
  refine lv_if_eq (tgt := 39) hx hb dX9_everywhere_7 (by decide) (fun c7 => ?_) (fun c7 => ?_)
  · rw [if_pos c7] at hR
    refine lv_ldc2 (v := (-1000000000000000002 : Int64)) hx hb hown hq0 dX9_everywhere_39 ?_
    obtain ⟨rfl, rfl⟩ := prodI2 hR
    exact rw_lret hx hb hr hlocks hP hS dX9_everywhere_42
  · rw [if_neg c7] at hR
    refine lv_iload_n hx hb dX9_everywhere_10 rfl (lv_at hl 2 rfl) ?_
    refine lv_iconst (v := (0 : Int32)) hx hb dX9_everywhere_11 (by decide) ?_
    refine lv_bipush (v := (16 : Int32)) hx hb dX9_everywhere_12 (by decide +kernel) ?_
    refine ro_S (As := [.int xn, .int (0 : Int32), .int (16 : Int32)]) (rest := []) ⟨hx, hb, hml, hown, hts⟩ hK (c_X9_in l D cI cJ cZ xn (0 : Int32) (16 : Int32)) va_P_nil (va_cwS 3 hts gX9_everywhere_X9_in rfl rfl rfl hd_X9_in ⟨(Nat.le_of_ble_eq_true rfl), (Nat.le_of_ble_eq_true rfl)⟩) rfl hl.1 rfl (Nat.le_of_ble_eq_true rfl) dX9_everywhere_14 (Nat.zero_le _) (Nat.zero_le _) ?_
    refine lv_if_eq (tgt := 39) hx hb dX9_everywhere_17 (by decide) (fun c17 => ?_) (fun c17 => ?_)
    · rw [if_pos c17] at hR
      refine lv_ldc2 (v := (-1000000000000000002 : Int64)) hx hb hown hq0 dX9_everywhere_39 ?_
      obtain ⟨rfl, rfl⟩ := prodI2 hR
      exact rw_lret hx hb hr hlocks hP hS dX9_everywhere_42
    · rw [if_neg c17] at hR
      refine lv_iload_n hx hb dX9_everywhere_20 rfl (lv_at hl 3 rfl) ?_
      refine lv_iconst (v := (0 : Int32)) hx hb dX9_everywhere_21 (by decide) ?_
      refine lv_iconst (v := (1 : Int32)) hx hb dX9_everywhere_22 (by decide) ?_
      refine ro_S (As := [.int xk, .int (0 : Int32), .int (1 : Int32)]) (rest := []) ⟨hx, hb, hml, hown, hts⟩ hK (c_X9_in l D cI cJ cZ xk (0 : Int32) (1 : Int32)) va_P_nil (va_cwS 3 hts gX9_everywhere_X9_in rfl rfl rfl hd_X9_in ⟨(Nat.le_of_ble_eq_true rfl), (Nat.le_of_ble_eq_true rfl)⟩) rfl hl.1 rfl (Nat.le_of_ble_eq_true rfl) dX9_everywhere_23 (Nat.zero_le _) (Nat.zero_le _) ?_
      refine lv_if_eq (tgt := 39) hx hb dX9_everywhere_26 (by decide) (fun c26 => ?_) (fun c26 => ?_)
      · rw [if_pos c26] at hR
        refine lv_ldc2 (v := (-1000000000000000002 : Int64)) hx hb hown hq0 dX9_everywhere_39 ?_
        obtain ⟨rfl, rfl⟩ := prodI2 hR
        exact rw_lret hx hb hr hlocks hP hS dX9_everywhere_42
      · rw [if_neg c26] at hR
        refine lv_iload hx hb dX9_everywhere_29 (lv_at hl 4 rfl) ?_
        refine lv_iconst (v := (0 : Int32)) hx hb dX9_everywhere_31 (by decide) ?_
        refine lv_iconst (v := (1 : Int32)) hx hb dX9_everywhere_32 (by decide) ?_
        refine ro_S (As := [.int xq, .int (0 : Int32), .int (1 : Int32)]) (rest := []) ⟨hx, hb, hml, hown, hts⟩ hK (c_X9_in l D cI cJ cZ xq (0 : Int32) (1 : Int32)) va_P_nil (va_cwS 3 hts gX9_everywhere_X9_in rfl rfl rfl hd_X9_in ⟨(Nat.le_of_ble_eq_true rfl), (Nat.le_of_ble_eq_true rfl)⟩) rfl hl.1 rfl (Nat.le_of_ble_eq_true rfl) dX9_everywhere_33 (Nat.zero_le _) (Nat.zero_le _) ?_
        refine lv_if_ne (tgt := 43) hx hb dX9_everywhere_36 (by decide) (fun c36 => ?_) (fun c36 => ?_)
        · rw [if_neg c36] at hR
          have zn43_1 : xm = nI xm.toNatClampNeg := (rngIn (a := 1) (b := 8) (by decide) (by decide) c7).1
          have zb43_1 : 1 ≤ xm.toNatClampNeg ∧ xm.toNatClampNeg ≤ 8 := (rngIn (a := 1) (b := 8) (by decide) (by decide) c7).2
          have hl : lv_has ls 9 [(0, .ref mo), (1, .int (nI xm.toNatClampNeg)), (2, .int xn), (3, .int xk), (4, .int xq)] := by rw [← zn43_1]; exact hl
          have zn43_2 : xn = nI xn.toNatClampNeg := (rngIn (a := 0) (b := 16) (by decide) (by decide) c17).1
          have zb43_2 : xn.toNatClampNeg ≤ 16 := (rngIn (a := 0) (b := 16) (by decide) (by decide) c17).2.2
          have hl : lv_has ls 9 [(0, .ref mo), (1, .int (nI xm.toNatClampNeg)), (2, .int (nI xn.toNatClampNeg)), (3, .int xk), (4, .int xq)] := by rw [← zn43_2]; exact hl
          refine lv_iload_n hx hb dX9_everywhere_43 rfl (lv_at hl 3 rfl) ?_
          refine lv_iconst (v := (1 : Int32)) hx hb dX9_everywhere_44 (by decide) ?_
          refine lv_icmp_ne (tgt := 92) hx hb dX9_everywhere_45 (by decide) (fun c45 => ?_) (fun c45 => ?_)
          · rw [if_neg c45] at hR
            refine lv_lconst (v := (1 : Int64)) hx hb dX9_everywhere_92 (by decide) ?_
            refine lv_lstore (lv' := [(5, .long (1 : Int64)), (0, .ref mo), (1, .int (nI xm.toNatClampNeg)), (2, .int (nI xn.toNatClampNeg)), (3, .int xk), (4, .int xq)]) hx hb dX9_everywhere_93 hl (by decide) rfl (fun ls hl => ?_)
            refine lv_iconst (v := (0 : Int32)) hx hb dX9_everywhere_95 (by decide) ?_
            refine lv_istore (lv' := [(7, .int (0 : Int32)), (5, .long (1 : Int64)), (0, .ref mo), (1, .int (nI xm.toNatClampNeg)), (2, .int (nI xn.toNatClampNeg)), (3, .int xk), (4, .int xq)]) hx hb dX9_everywhere_96 hl (by decide) rfl (fun ls hl => ?_)
            obtain ⟨F98_2, hF98_2⟩ : ∃ x, (lp_X9_everywhere_98 9 0 mo_been) = x := ⟨_, rfl⟩
            try rw [hF98_2] at hR
            have hexit98 : ∀ (H : Heap) (locs : List Loc), va_P D vwCl [(mo, .inr (9, [.ref mo_book_a, .ref mo_now_a, .int mo_there, .ref mo_beside_a, .int (nI mo_sights), .ref mo_sight_a, .int (nI mo_signs), .ref mo_pad_a, .int mo_heldAt, .int mo_heldThing, .int mo_reason, .int mo_acts, .ref mo_lefts_a, .ref mo_inWays_a, .ref mo_more_a, .ref mo_wins_a, .ref mo_been_a, .ref mo_image_a, .ref mo_isKept_a])), (mo_book_a, .inl (cI, 19, .inl mo_book)), (mo_now_a, .inl (cI, 19, .inl mo_now)), (mo_beside_a, .inl (cI, 7, .inl mo_beside)), (mo_sight_a, .inl (cI, 16, .inl mo_sight)), (mo_pad_a, .inl (cI, 60, .inl mo_pad)), (mo_lefts_a, .inl (cI, 256, .inl mo_lefts)), (mo_inWays_a, .inl (cI, 128, .inl mo_inWays)), (mo_more_a, .inl (cI, 128, .inl mo_more)), (mo_wins_a, .inl (cZ, 201, .inl mo_wins)), (mo_been_a, .inl (cJ, 9, .inr (.inl F98_2))), (mo_image_a, .inl (cI, 100, .inl mo_image)), (mo_isKept_a, .inl (cZ, 2, .inl mo_isKept))] H → va_D (va_In [(mo, .inr (9, [.ref mo_book_a, .ref mo_now_a, .int mo_there, .ref mo_beside_a, .int (nI mo_sights), .ref mo_sight_a, .int (nI mo_signs), .ref mo_pad_a, .int mo_heldAt, .int mo_heldThing, .int mo_reason, .int mo_acts, .ref mo_lefts_a, .ref mo_inWays_a, .ref mo_more_a, .ref mo_wins_a, .ref mo_been_a, .ref mo_image_a, .ref mo_isKept_a])), (mo_book_a, .inl (cI, 19, .inl mo_book)), (mo_now_a, .inl (cI, 19, .inl mo_now)), (mo_beside_a, .inl (cI, 7, .inl mo_beside)), (mo_sight_a, .inl (cI, 16, .inl mo_sight)), (mo_pad_a, .inl (cI, 60, .inl mo_pad)), (mo_lefts_a, .inl (cI, 256, .inl mo_lefts)), (mo_inWays_a, .inl (cI, 128, .inl mo_inWays)), (mo_more_a, .inl (cI, 128, .inl mo_more)), (mo_wins_a, .inl (cZ, 201, .inl mo_wins)), (mo_been_a, .inl (cJ, 9, .inr (.inl mo_been))), (mo_image_a, .inl (cI, 100, .inl mo_image)), (mo_isKept_a, .inl (cZ, 2, .inl mo_isKept))]) [(mo, .inr (9, [.ref mo_book_a, .ref mo_now_a, .int mo_there, .ref mo_beside_a, .int (nI mo_sights), .ref mo_sight_a, .int (nI mo_signs), .ref mo_pad_a, .int mo_heldAt, .int mo_heldThing, .int mo_reason, .int mo_acts, .ref mo_lefts_a, .ref mo_inWays_a, .ref mo_more_a, .ref mo_wins_a, .ref mo_been_a, .ref mo_image_a, .ref mo_isKept_a])), (mo_book_a, .inl (cI, 19, .inl mo_book)), (mo_now_a, .inl (cI, 19, .inl mo_now)), (mo_beside_a, .inl (cI, 7, .inl mo_beside)), (mo_sight_a, .inl (cI, 16, .inl mo_sight)), (mo_pad_a, .inl (cI, 60, .inl mo_pad)), (mo_lefts_a, .inl (cI, 256, .inl mo_lefts)), (mo_inWays_a, .inl (cI, 128, .inl mo_inWays)), (mo_more_a, .inl (cI, 128, .inl mo_more)), (mo_wins_a, .inl (cZ, 201, .inl mo_wins)), (mo_been_a, .inl (cJ, 9, .inr (.inl F98_2))), (mo_image_a, .inl (cI, 100, .inl mo_image)), (mo_isKept_a, .inl (cZ, 2, .inl mo_isKept))] → va_S (va_In [(mo, .inr (9, [.ref mo_book_a, .ref mo_now_a, .int mo_there, .ref mo_beside_a, .int (nI mo_sights), .ref mo_sight_a, .int (nI mo_signs), .ref mo_pad_a, .int mo_heldAt, .int mo_heldThing, .int mo_reason, .int mo_acts, .ref mo_lefts_a, .ref mo_inWays_a, .ref mo_more_a, .ref mo_wins_a, .ref mo_been_a, .ref mo_image_a, .ref mo_isKept_a])), (mo_book_a, .inl (cI, 19, .inl mo_book)), (mo_now_a, .inl (cI, 19, .inl mo_now)), (mo_beside_a, .inl (cI, 7, .inl mo_beside)), (mo_sight_a, .inl (cI, 16, .inl mo_sight)), (mo_pad_a, .inl (cI, 60, .inl mo_pad)), (mo_lefts_a, .inl (cI, 256, .inl mo_lefts)), (mo_inWays_a, .inl (cI, 128, .inl mo_inWays)), (mo_more_a, .inl (cI, 128, .inl mo_more)), (mo_wins_a, .inl (cZ, 201, .inl mo_wins)), (mo_been_a, .inl (cJ, 9, .inr (.inl mo_been))), (mo_image_a, .inl (cI, 100, .inl mo_image)), (mo_isKept_a, .inl (cZ, 2, .inl mo_isKept))]) s.heap H locs → ∀ (ls : Array Slot), lv_has ls 9 [(5, .long (1 : Int64)), (0, .ref mo), (1, .int (nI xm.toNatClampNeg)), (2, .int (nI xn.toNatClampNeg)), (3, .int xk), (4, .int xq)] → W p l e ({ frames := 1, cells := 0, slots := 0, locals := 30 }) s m args below meth c H locs 0 0 (MQ below (rw_Q D (some (.long R0)) [(mo, .inr (9, [.ref mo_book_a, .ref mo_now_a, .int mo_there, .ref mo_beside_a, .int (nI mo_sights), .ref mo_sight_a, .int (nI mo_signs), .ref mo_pad_a, .int mo_heldAt, .int mo_heldThing, .int mo_reason, .int mo_acts, .ref mo_lefts_a, .ref mo_inWays_a, .ref mo_more_a, .ref mo_wins_a, .ref mo_been_a, .ref mo_image_a, .ref mo_isKept_a])), (mo_book_a, .inl (cI, 19, .inl mo_book)), (mo_now_a, .inl (cI, 19, .inl mo_now)), (mo_beside_a, .inl (cI, 7, .inl mo_beside)), (mo_sight_a, .inl (cI, 16, .inl mo_sight)), (mo_pad_a, .inl (cI, 60, .inl mo_pad)), (mo_lefts_a, .inl (cI, 256, .inl mo_lefts)), (mo_inWays_a, .inl (cI, 128, .inl mo_inWays)), (mo_more_a, .inl (cI, 128, .inl mo_more)), (mo_wins_a, .inl (cZ, 201, .inl mo_wins)), (mo_been_a, .inl (cJ, 9, .inr (.inl mo_been))), (mo_image_a, .inl (cI, 100, .inl mo_image)), (mo_isKept_a, .inl (cZ, 2, .inl mo_isKept))] [(mo, .inr (9, [.ref mo_book_a, .ref mo_now_a, .int mo_there, .ref mo_beside_a, .int (nI mo_sights), .ref mo_sight_a, .int (nI mo_signs), .ref mo_pad_a, .int mo_heldAt, .int mo_heldThing, .int mo_reason, .int mo_acts, .ref mo_lefts_a, .ref mo_inWays_a, .ref mo_more_a, .ref mo_wins_a, .ref mo_been_a, .ref mo_image_a, .ref mo_isKept_a])), (mo_book_a, .inl (cI, 19, .inl mo_book)), (mo_now_a, .inl (cI, 19, .inl mo_now)), (mo_beside_a, .inl (cI, 7, .inl mo_beside)), (mo_sight_a, .inl (cI, 16, .inl mo_sight)), (mo_pad_a, .inl (cI, 60, .inl mo_pad)), (mo_lefts_a, .inl (cI, 256, .inl mo_lefts)), (mo_inWays_a, .inl (cI, 128, .inl mo_inWays)), (mo_more_a, .inl (cI, 128, .inl mo_more)), (mo_wins_a, .inl (cZ, 201, .inl mo_wins)), (mo_been_a, .inl (cJ, 9, .inr (.inl R1))), (mo_image_a, .inl (cI, 100, .inl mo_image)), (mo_isKept_a, .inl (cZ, 2, .inl mo_isKept))]) args s 0 0 (va_In [(mo, .inr (9, [.ref mo_book_a, .ref mo_now_a, .int mo_there, .ref mo_beside_a, .int (nI mo_sights), .ref mo_sight_a, .int (nI mo_signs), .ref mo_pad_a, .int mo_heldAt, .int mo_heldThing, .int mo_reason, .int mo_acts, .ref mo_lefts_a, .ref mo_inWays_a, .ref mo_more_a, .ref mo_wins_a, .ref mo_been_a, .ref mo_image_a, .ref mo_isKept_a])), (mo_book_a, .inl (cI, 19, .inl mo_book)), (mo_now_a, .inl (cI, 19, .inl mo_now)), (mo_beside_a, .inl (cI, 7, .inl mo_beside)), (mo_sight_a, .inl (cI, 16, .inl mo_sight)), (mo_pad_a, .inl (cI, 60, .inl mo_pad)), (mo_lefts_a, .inl (cI, 256, .inl mo_lefts)), (mo_inWays_a, .inl (cI, 128, .inl mo_inWays)), (mo_more_a, .inl (cI, 128, .inl mo_more)), (mo_wins_a, .inl (cZ, 201, .inl mo_wins)), (mo_been_a, .inl (cJ, 9, .inr (.inl mo_been))), (mo_image_a, .inl (cI, 100, .inl mo_image)), (mo_isKept_a, .inl (cZ, 2, .inl mo_isKept))])) (F0 m 128 ls []) := by
              intro H locs hP hD hS ls hl
              refine lv_iconst (v := (0 : Int32)) hx hb dX9_everywhere_128 (by decide) ?_
              refine lv_istore (lv' := [(7, .int (0 : Int32)), (5, .long (1 : Int64)), (0, .ref mo), (1, .int (nI xm.toNatClampNeg)), (2, .int (nI xn.toNatClampNeg)), (3, .int xk), (4, .int xq)]) hx hb dX9_everywhere_129 hl (by decide) rfl (fun ls hl => ?_)
              have hloop131 : ∀ (k131 i131 : Nat) (r10_131 : Nat → Int64) (v5_131 : Int64), i131 + k131 = xn.toNatClampNeg → v5_131 = lN (xm.toNatClampNeg ^ i131) → ∀ (H : Heap) (locs : List Loc), va_P D vwCl [(mo, .inr (9, [.ref mo_book_a, .ref mo_now_a, .int mo_there, .ref mo_beside_a, .int (nI mo_sights), .ref mo_sight_a, .int (nI mo_signs), .ref mo_pad_a, .int mo_heldAt, .int mo_heldThing, .int mo_reason, .int mo_acts, .ref mo_lefts_a, .ref mo_inWays_a, .ref mo_more_a, .ref mo_wins_a, .ref mo_been_a, .ref mo_image_a, .ref mo_isKept_a])), (mo_book_a, .inl (cI, 19, .inl mo_book)), (mo_now_a, .inl (cI, 19, .inl mo_now)), (mo_beside_a, .inl (cI, 7, .inl mo_beside)), (mo_sight_a, .inl (cI, 16, .inl mo_sight)), (mo_pad_a, .inl (cI, 60, .inl mo_pad)), (mo_lefts_a, .inl (cI, 256, .inl mo_lefts)), (mo_inWays_a, .inl (cI, 128, .inl mo_inWays)), (mo_more_a, .inl (cI, 128, .inl mo_more)), (mo_wins_a, .inl (cZ, 201, .inl mo_wins)), (mo_been_a, .inl (cJ, 9, .inr (.inl r10_131))), (mo_image_a, .inl (cI, 100, .inl mo_image)), (mo_isKept_a, .inl (cZ, 2, .inl mo_isKept))] H → va_D (va_In [(mo, .inr (9, [.ref mo_book_a, .ref mo_now_a, .int mo_there, .ref mo_beside_a, .int (nI mo_sights), .ref mo_sight_a, .int (nI mo_signs), .ref mo_pad_a, .int mo_heldAt, .int mo_heldThing, .int mo_reason, .int mo_acts, .ref mo_lefts_a, .ref mo_inWays_a, .ref mo_more_a, .ref mo_wins_a, .ref mo_been_a, .ref mo_image_a, .ref mo_isKept_a])), (mo_book_a, .inl (cI, 19, .inl mo_book)), (mo_now_a, .inl (cI, 19, .inl mo_now)), (mo_beside_a, .inl (cI, 7, .inl mo_beside)), (mo_sight_a, .inl (cI, 16, .inl mo_sight)), (mo_pad_a, .inl (cI, 60, .inl mo_pad)), (mo_lefts_a, .inl (cI, 256, .inl mo_lefts)), (mo_inWays_a, .inl (cI, 128, .inl mo_inWays)), (mo_more_a, .inl (cI, 128, .inl mo_more)), (mo_wins_a, .inl (cZ, 201, .inl mo_wins)), (mo_been_a, .inl (cJ, 9, .inr (.inl mo_been))), (mo_image_a, .inl (cI, 100, .inl mo_image)), (mo_isKept_a, .inl (cZ, 2, .inl mo_isKept))]) [(mo, .inr (9, [.ref mo_book_a, .ref mo_now_a, .int mo_there, .ref mo_beside_a, .int (nI mo_sights), .ref mo_sight_a, .int (nI mo_signs), .ref mo_pad_a, .int mo_heldAt, .int mo_heldThing, .int mo_reason, .int mo_acts, .ref mo_lefts_a, .ref mo_inWays_a, .ref mo_more_a, .ref mo_wins_a, .ref mo_been_a, .ref mo_image_a, .ref mo_isKept_a])), (mo_book_a, .inl (cI, 19, .inl mo_book)), (mo_now_a, .inl (cI, 19, .inl mo_now)), (mo_beside_a, .inl (cI, 7, .inl mo_beside)), (mo_sight_a, .inl (cI, 16, .inl mo_sight)), (mo_pad_a, .inl (cI, 60, .inl mo_pad)), (mo_lefts_a, .inl (cI, 256, .inl mo_lefts)), (mo_inWays_a, .inl (cI, 128, .inl mo_inWays)), (mo_more_a, .inl (cI, 128, .inl mo_more)), (mo_wins_a, .inl (cZ, 201, .inl mo_wins)), (mo_been_a, .inl (cJ, 9, .inr (.inl r10_131))), (mo_image_a, .inl (cI, 100, .inl mo_image)), (mo_isKept_a, .inl (cZ, 2, .inl mo_isKept))] → va_S (va_In [(mo, .inr (9, [.ref mo_book_a, .ref mo_now_a, .int mo_there, .ref mo_beside_a, .int (nI mo_sights), .ref mo_sight_a, .int (nI mo_signs), .ref mo_pad_a, .int mo_heldAt, .int mo_heldThing, .int mo_reason, .int mo_acts, .ref mo_lefts_a, .ref mo_inWays_a, .ref mo_more_a, .ref mo_wins_a, .ref mo_been_a, .ref mo_image_a, .ref mo_isKept_a])), (mo_book_a, .inl (cI, 19, .inl mo_book)), (mo_now_a, .inl (cI, 19, .inl mo_now)), (mo_beside_a, .inl (cI, 7, .inl mo_beside)), (mo_sight_a, .inl (cI, 16, .inl mo_sight)), (mo_pad_a, .inl (cI, 60, .inl mo_pad)), (mo_lefts_a, .inl (cI, 256, .inl mo_lefts)), (mo_inWays_a, .inl (cI, 128, .inl mo_inWays)), (mo_more_a, .inl (cI, 128, .inl mo_more)), (mo_wins_a, .inl (cZ, 201, .inl mo_wins)), (mo_been_a, .inl (cJ, 9, .inr (.inl mo_been))), (mo_image_a, .inl (cI, 100, .inl mo_image)), (mo_isKept_a, .inl (cZ, 2, .inl mo_isKept))]) s.heap H locs → ∀ (ls : Array Slot), lv_has ls 9 [(7, .int (nI i131)), (5, .long v5_131), (0, .ref mo), (1, .int (nI xm.toNatClampNeg)), (2, .int (nI xn.toNatClampNeg)), (3, .int xk), (4, .int xq)] → lp_X9_everywhere_131 xm xq k131 i131 r10_131 v5_131 = (R0, R1) → W p l e ({ frames := 1, cells := 0, slots := 0, locals := 30 }) s m args below meth c H locs 0 0 (MQ below (rw_Q D (some (.long R0)) [(mo, .inr (9, [.ref mo_book_a, .ref mo_now_a, .int mo_there, .ref mo_beside_a, .int (nI mo_sights), .ref mo_sight_a, .int (nI mo_signs), .ref mo_pad_a, .int mo_heldAt, .int mo_heldThing, .int mo_reason, .int mo_acts, .ref mo_lefts_a, .ref mo_inWays_a, .ref mo_more_a, .ref mo_wins_a, .ref mo_been_a, .ref mo_image_a, .ref mo_isKept_a])), (mo_book_a, .inl (cI, 19, .inl mo_book)), (mo_now_a, .inl (cI, 19, .inl mo_now)), (mo_beside_a, .inl (cI, 7, .inl mo_beside)), (mo_sight_a, .inl (cI, 16, .inl mo_sight)), (mo_pad_a, .inl (cI, 60, .inl mo_pad)), (mo_lefts_a, .inl (cI, 256, .inl mo_lefts)), (mo_inWays_a, .inl (cI, 128, .inl mo_inWays)), (mo_more_a, .inl (cI, 128, .inl mo_more)), (mo_wins_a, .inl (cZ, 201, .inl mo_wins)), (mo_been_a, .inl (cJ, 9, .inr (.inl mo_been))), (mo_image_a, .inl (cI, 100, .inl mo_image)), (mo_isKept_a, .inl (cZ, 2, .inl mo_isKept))] [(mo, .inr (9, [.ref mo_book_a, .ref mo_now_a, .int mo_there, .ref mo_beside_a, .int (nI mo_sights), .ref mo_sight_a, .int (nI mo_signs), .ref mo_pad_a, .int mo_heldAt, .int mo_heldThing, .int mo_reason, .int mo_acts, .ref mo_lefts_a, .ref mo_inWays_a, .ref mo_more_a, .ref mo_wins_a, .ref mo_been_a, .ref mo_image_a, .ref mo_isKept_a])), (mo_book_a, .inl (cI, 19, .inl mo_book)), (mo_now_a, .inl (cI, 19, .inl mo_now)), (mo_beside_a, .inl (cI, 7, .inl mo_beside)), (mo_sight_a, .inl (cI, 16, .inl mo_sight)), (mo_pad_a, .inl (cI, 60, .inl mo_pad)), (mo_lefts_a, .inl (cI, 256, .inl mo_lefts)), (mo_inWays_a, .inl (cI, 128, .inl mo_inWays)), (mo_more_a, .inl (cI, 128, .inl mo_more)), (mo_wins_a, .inl (cZ, 201, .inl mo_wins)), (mo_been_a, .inl (cJ, 9, .inr (.inl R1))), (mo_image_a, .inl (cI, 100, .inl mo_image)), (mo_isKept_a, .inl (cZ, 2, .inl mo_isKept))]) args s 0 0 (va_In [(mo, .inr (9, [.ref mo_book_a, .ref mo_now_a, .int mo_there, .ref mo_beside_a, .int (nI mo_sights), .ref mo_sight_a, .int (nI mo_signs), .ref mo_pad_a, .int mo_heldAt, .int mo_heldThing, .int mo_reason, .int mo_acts, .ref mo_lefts_a, .ref mo_inWays_a, .ref mo_more_a, .ref mo_wins_a, .ref mo_been_a, .ref mo_image_a, .ref mo_isKept_a])), (mo_book_a, .inl (cI, 19, .inl mo_book)), (mo_now_a, .inl (cI, 19, .inl mo_now)), (mo_beside_a, .inl (cI, 7, .inl mo_beside)), (mo_sight_a, .inl (cI, 16, .inl mo_sight)), (mo_pad_a, .inl (cI, 60, .inl mo_pad)), (mo_lefts_a, .inl (cI, 256, .inl mo_lefts)), (mo_inWays_a, .inl (cI, 128, .inl mo_inWays)), (mo_more_a, .inl (cI, 128, .inl mo_more)), (mo_wins_a, .inl (cZ, 201, .inl mo_wins)), (mo_been_a, .inl (cJ, 9, .inr (.inl mo_been))), (mo_image_a, .inl (cI, 100, .inl mo_image)), (mo_isKept_a, .inl (cZ, 2, .inl mo_isKept))])) (F0 m 131 ls []) := by
                intro k131
                induction k131 with
                | zero =>
                  intro i131 r10_131 v5_131 h131 hlow H locs hP hD hS ls hl hR
                  obtain rfl : xn.toNatClampNeg = i131 := by omega
                  rw [lp_X9_everywhere_131] at hR
                  refine lv_iload hx hb dX9_everywhere_131 (lv_at hl 0 rfl) ?_
                  refine lv_iload_n hx hb dX9_everywhere_133 rfl (lv_at hl 4 rfl) ?_
                  refine lv_icmp_ge (tgt := 220) hx hb dX9_everywhere_134 (by decide) (fun _ => ?_) (fun h => absurd (cle_t (a := xn.toNatClampNeg) (b := xn.toNatClampNeg) rfl rfl (by omega) (by omega)) h)
                  refine lv_aload_n hx hb dX9_everywhere_220 rfl (lv_at hl 2 rfl) ?_
                  refine va_get (D := D) (ci := 9) (v := .ref mo_been_a) (C := RX9) (T := TX9) (N := 19) hx hb hts in_X9_everywhere_X9 hown hK.1 hP 0 rfl rfl 16 (by decide) hq2 (fun _ h9 => h9) rfl dX9_everywhere_221 ?_
                  refine lv_iload_n hx hb dX9_everywhere_224 rfl (lv_at hl 3 rfl) ?_
                  refine la_ld hx hb hK hP 10 rfl (i := xm.toNatClampNeg) (by omega) (by decide) dX9_everywhere_225 ?_
                  refine lv_lload hx hb dX9_everywhere_226 (lv_at hl 1 rfl) ?_
                  refine lv_iload hx hb dX9_everywhere_228 (lv_at hl 6 rfl) ?_
                  refine ro_S (As := [.long (r10_131 xm.toNatClampNeg), .long v5_131, .int xq]) (rest := []) ⟨hx, hb, hml, hown, hts⟩ hK (c_X9_lowest l D cI cJ cZ (r10_131 xm.toNatClampNeg) v5_131 xq (by rw [hlow]; exact lowpow (by omega) (by omega) (by omega))) va_P_nil (va_cwS 3 hts gX9_everywhere_X9_lowest rfl rfl rfl hd_X9_lowest ⟨(Nat.le_of_ble_eq_true rfl), (Nat.le_of_ble_eq_true rfl)⟩) rfl hl.1 rfl (Nat.le_of_ble_eq_true rfl) dX9_everywhere_230 (Nat.zero_le _) (Nat.zero_le _) ?_
                  obtain ⟨rfl, rfl⟩ := prodI2 hR
                  exact rw_lret hx hb hr hlocks hP hS dX9_everywhere_233
                | succ k131 ih131 =>
                  intro i131 r10_131 v5_131 h131 hlow H locs hP hD hS ls hl hR
                  rw [lp_X9_everywhere_131] at hR
                  refine lv_iload hx hb dX9_everywhere_131 (lv_at hl 0 rfl) ?_
                  refine lv_iload_n hx hb dX9_everywhere_133 rfl (lv_at hl 4 rfl) ?_
                  refine lv_icmp_ge (tgt := 220) hx hb dX9_everywhere_134 (by decide) (fun h => absurd h (cle_f (a := xn.toNatClampNeg) (b := i131) rfl rfl (by omega) (by omega))) (fun _ => ?_)
                  refine lv_lload hx hb dX9_everywhere_137 (lv_at hl 1 rfl) ?_
                  refine lv_iload_n hx hb dX9_everywhere_139 rfl (lv_at hl 3 rfl) ?_
                  refine lv_i2l (v := ((nI xm.toNatClampNeg).toInt64)) hx hb dX9_everywhere_140 rfl ?_
                  refine lv_lmul hx hb dX9_everywhere_141 ?_
                  refine lv_lstore (lv' := [(5, .long (v5_131 * ((nI xm.toNatClampNeg).toInt64))), (7, .int (nI i131)), (0, .ref mo), (1, .int (nI xm.toNatClampNeg)), (2, .int (nI xn.toNatClampNeg)), (3, .int xk), (4, .int xq)]) hx hb dX9_everywhere_142 hl (by decide) rfl (fun ls hl => ?_)
                  refine lv_bipush (v := (8 : Int32)) hx hb dX9_everywhere_144 (by decide +kernel) ?_
                  refine lv_istore (lv' := [(8, .int (8 : Int32)), (5, .long (v5_131 * ((nI xm.toNatClampNeg).toInt64))), (7, .int (nI i131)), (0, .ref mo), (1, .int (nI xm.toNatClampNeg)), (2, .int (nI xn.toNatClampNeg)), (3, .int xk), (4, .int xq)]) hx hb dX9_everywhere_146 hl (by decide) rfl (fun ls hl => ?_)
                  obtain ⟨F148_4, hF148_4⟩ : ∃ x, (lp_X9_everywhere_148 xm 9 r10_131) = x := ⟨_, rfl⟩
                  try rw [hF148_4] at hR
                  have hexit148 : ∀ (H : Heap) (locs : List Loc), va_P D vwCl [(mo, .inr (9, [.ref mo_book_a, .ref mo_now_a, .int mo_there, .ref mo_beside_a, .int (nI mo_sights), .ref mo_sight_a, .int (nI mo_signs), .ref mo_pad_a, .int mo_heldAt, .int mo_heldThing, .int mo_reason, .int mo_acts, .ref mo_lefts_a, .ref mo_inWays_a, .ref mo_more_a, .ref mo_wins_a, .ref mo_been_a, .ref mo_image_a, .ref mo_isKept_a])), (mo_book_a, .inl (cI, 19, .inl mo_book)), (mo_now_a, .inl (cI, 19, .inl mo_now)), (mo_beside_a, .inl (cI, 7, .inl mo_beside)), (mo_sight_a, .inl (cI, 16, .inl mo_sight)), (mo_pad_a, .inl (cI, 60, .inl mo_pad)), (mo_lefts_a, .inl (cI, 256, .inl mo_lefts)), (mo_inWays_a, .inl (cI, 128, .inl mo_inWays)), (mo_more_a, .inl (cI, 128, .inl mo_more)), (mo_wins_a, .inl (cZ, 201, .inl mo_wins)), (mo_been_a, .inl (cJ, 9, .inr (.inl F148_4))), (mo_image_a, .inl (cI, 100, .inl mo_image)), (mo_isKept_a, .inl (cZ, 2, .inl mo_isKept))] H → va_D (va_In [(mo, .inr (9, [.ref mo_book_a, .ref mo_now_a, .int mo_there, .ref mo_beside_a, .int (nI mo_sights), .ref mo_sight_a, .int (nI mo_signs), .ref mo_pad_a, .int mo_heldAt, .int mo_heldThing, .int mo_reason, .int mo_acts, .ref mo_lefts_a, .ref mo_inWays_a, .ref mo_more_a, .ref mo_wins_a, .ref mo_been_a, .ref mo_image_a, .ref mo_isKept_a])), (mo_book_a, .inl (cI, 19, .inl mo_book)), (mo_now_a, .inl (cI, 19, .inl mo_now)), (mo_beside_a, .inl (cI, 7, .inl mo_beside)), (mo_sight_a, .inl (cI, 16, .inl mo_sight)), (mo_pad_a, .inl (cI, 60, .inl mo_pad)), (mo_lefts_a, .inl (cI, 256, .inl mo_lefts)), (mo_inWays_a, .inl (cI, 128, .inl mo_inWays)), (mo_more_a, .inl (cI, 128, .inl mo_more)), (mo_wins_a, .inl (cZ, 201, .inl mo_wins)), (mo_been_a, .inl (cJ, 9, .inr (.inl mo_been))), (mo_image_a, .inl (cI, 100, .inl mo_image)), (mo_isKept_a, .inl (cZ, 2, .inl mo_isKept))]) [(mo, .inr (9, [.ref mo_book_a, .ref mo_now_a, .int mo_there, .ref mo_beside_a, .int (nI mo_sights), .ref mo_sight_a, .int (nI mo_signs), .ref mo_pad_a, .int mo_heldAt, .int mo_heldThing, .int mo_reason, .int mo_acts, .ref mo_lefts_a, .ref mo_inWays_a, .ref mo_more_a, .ref mo_wins_a, .ref mo_been_a, .ref mo_image_a, .ref mo_isKept_a])), (mo_book_a, .inl (cI, 19, .inl mo_book)), (mo_now_a, .inl (cI, 19, .inl mo_now)), (mo_beside_a, .inl (cI, 7, .inl mo_beside)), (mo_sight_a, .inl (cI, 16, .inl mo_sight)), (mo_pad_a, .inl (cI, 60, .inl mo_pad)), (mo_lefts_a, .inl (cI, 256, .inl mo_lefts)), (mo_inWays_a, .inl (cI, 128, .inl mo_inWays)), (mo_more_a, .inl (cI, 128, .inl mo_more)), (mo_wins_a, .inl (cZ, 201, .inl mo_wins)), (mo_been_a, .inl (cJ, 9, .inr (.inl F148_4))), (mo_image_a, .inl (cI, 100, .inl mo_image)), (mo_isKept_a, .inl (cZ, 2, .inl mo_isKept))] → va_S (va_In [(mo, .inr (9, [.ref mo_book_a, .ref mo_now_a, .int mo_there, .ref mo_beside_a, .int (nI mo_sights), .ref mo_sight_a, .int (nI mo_signs), .ref mo_pad_a, .int mo_heldAt, .int mo_heldThing, .int mo_reason, .int mo_acts, .ref mo_lefts_a, .ref mo_inWays_a, .ref mo_more_a, .ref mo_wins_a, .ref mo_been_a, .ref mo_image_a, .ref mo_isKept_a])), (mo_book_a, .inl (cI, 19, .inl mo_book)), (mo_now_a, .inl (cI, 19, .inl mo_now)), (mo_beside_a, .inl (cI, 7, .inl mo_beside)), (mo_sight_a, .inl (cI, 16, .inl mo_sight)), (mo_pad_a, .inl (cI, 60, .inl mo_pad)), (mo_lefts_a, .inl (cI, 256, .inl mo_lefts)), (mo_inWays_a, .inl (cI, 128, .inl mo_inWays)), (mo_more_a, .inl (cI, 128, .inl mo_more)), (mo_wins_a, .inl (cZ, 201, .inl mo_wins)), (mo_been_a, .inl (cJ, 9, .inr (.inl mo_been))), (mo_image_a, .inl (cI, 100, .inl mo_image)), (mo_isKept_a, .inl (cZ, 2, .inl mo_isKept))]) s.heap H locs → ∀ (ls : Array Slot), lv_has ls 9 [(5, .long (v5_131 * ((nI xm.toNatClampNeg).toInt64))), (7, .int (nI i131)), (0, .ref mo), (1, .int (nI xm.toNatClampNeg)), (2, .int (nI xn.toNatClampNeg)), (3, .int xk), (4, .int xq)] → W p l e ({ frames := 1, cells := 0, slots := 0, locals := 30 }) s m args below meth c H locs 0 0 (MQ below (rw_Q D (some (.long R0)) [(mo, .inr (9, [.ref mo_book_a, .ref mo_now_a, .int mo_there, .ref mo_beside_a, .int (nI mo_sights), .ref mo_sight_a, .int (nI mo_signs), .ref mo_pad_a, .int mo_heldAt, .int mo_heldThing, .int mo_reason, .int mo_acts, .ref mo_lefts_a, .ref mo_inWays_a, .ref mo_more_a, .ref mo_wins_a, .ref mo_been_a, .ref mo_image_a, .ref mo_isKept_a])), (mo_book_a, .inl (cI, 19, .inl mo_book)), (mo_now_a, .inl (cI, 19, .inl mo_now)), (mo_beside_a, .inl (cI, 7, .inl mo_beside)), (mo_sight_a, .inl (cI, 16, .inl mo_sight)), (mo_pad_a, .inl (cI, 60, .inl mo_pad)), (mo_lefts_a, .inl (cI, 256, .inl mo_lefts)), (mo_inWays_a, .inl (cI, 128, .inl mo_inWays)), (mo_more_a, .inl (cI, 128, .inl mo_more)), (mo_wins_a, .inl (cZ, 201, .inl mo_wins)), (mo_been_a, .inl (cJ, 9, .inr (.inl mo_been))), (mo_image_a, .inl (cI, 100, .inl mo_image)), (mo_isKept_a, .inl (cZ, 2, .inl mo_isKept))] [(mo, .inr (9, [.ref mo_book_a, .ref mo_now_a, .int mo_there, .ref mo_beside_a, .int (nI mo_sights), .ref mo_sight_a, .int (nI mo_signs), .ref mo_pad_a, .int mo_heldAt, .int mo_heldThing, .int mo_reason, .int mo_acts, .ref mo_lefts_a, .ref mo_inWays_a, .ref mo_more_a, .ref mo_wins_a, .ref mo_been_a, .ref mo_image_a, .ref mo_isKept_a])), (mo_book_a, .inl (cI, 19, .inl mo_book)), (mo_now_a, .inl (cI, 19, .inl mo_now)), (mo_beside_a, .inl (cI, 7, .inl mo_beside)), (mo_sight_a, .inl (cI, 16, .inl mo_sight)), (mo_pad_a, .inl (cI, 60, .inl mo_pad)), (mo_lefts_a, .inl (cI, 256, .inl mo_lefts)), (mo_inWays_a, .inl (cI, 128, .inl mo_inWays)), (mo_more_a, .inl (cI, 128, .inl mo_more)), (mo_wins_a, .inl (cZ, 201, .inl mo_wins)), (mo_been_a, .inl (cJ, 9, .inr (.inl R1))), (mo_image_a, .inl (cI, 100, .inl mo_image)), (mo_isKept_a, .inl (cZ, 2, .inl mo_isKept))]) args s 0 0 (va_In [(mo, .inr (9, [.ref mo_book_a, .ref mo_now_a, .int mo_there, .ref mo_beside_a, .int (nI mo_sights), .ref mo_sight_a, .int (nI mo_signs), .ref mo_pad_a, .int mo_heldAt, .int mo_heldThing, .int mo_reason, .int mo_acts, .ref mo_lefts_a, .ref mo_inWays_a, .ref mo_more_a, .ref mo_wins_a, .ref mo_been_a, .ref mo_image_a, .ref mo_isKept_a])), (mo_book_a, .inl (cI, 19, .inl mo_book)), (mo_now_a, .inl (cI, 19, .inl mo_now)), (mo_beside_a, .inl (cI, 7, .inl mo_beside)), (mo_sight_a, .inl (cI, 16, .inl mo_sight)), (mo_pad_a, .inl (cI, 60, .inl mo_pad)), (mo_lefts_a, .inl (cI, 256, .inl mo_lefts)), (mo_inWays_a, .inl (cI, 128, .inl mo_inWays)), (mo_more_a, .inl (cI, 128, .inl mo_more)), (mo_wins_a, .inl (cZ, 201, .inl mo_wins)), (mo_been_a, .inl (cJ, 9, .inr (.inl mo_been))), (mo_image_a, .inl (cI, 100, .inl mo_image)), (mo_isKept_a, .inl (cZ, 2, .inl mo_isKept))])) (F0 m 214 ls []) := by
                    intro H locs hP hD hS ls hl
                    refine lv_iinc (v := (nI (i131 + 1))) (lv' := [(7, .int (nI (i131 + 1))), (5, .long (v5_131 * ((nI xm.toNatClampNeg).toInt64))), (0, .ref mo), (1, .int (nI xm.toNatClampNeg)), (2, .int (nI xn.toNatClampNeg)), (3, .int xk), (4, .int xq)]) hx hb dX9_everywhere_214 hl (k := 1) rfl (by exact nI_add i131 1) (by decide) rfl (fun ls hl => ?_)
                    refine lv_goto (tgt := 131) hx hb dX9_everywhere_217 (by decide) ?_
                    exact ih131 _ _ _ (by omega) (lowstep hlow (by omega)) _ _ hP hD hS _ (lv_sub hl [0, 1, 2, 3, 4, 5, 6] rfl) hR
                  have hloop148 : ∀ (k148 : Nat) (r10_148 : Nat → Int64), k148 ≤ 9 → ∀ (H : Heap) (locs : List Loc), va_P D vwCl [(mo, .inr (9, [.ref mo_book_a, .ref mo_now_a, .int mo_there, .ref mo_beside_a, .int (nI mo_sights), .ref mo_sight_a, .int (nI mo_signs), .ref mo_pad_a, .int mo_heldAt, .int mo_heldThing, .int mo_reason, .int mo_acts, .ref mo_lefts_a, .ref mo_inWays_a, .ref mo_more_a, .ref mo_wins_a, .ref mo_been_a, .ref mo_image_a, .ref mo_isKept_a])), (mo_book_a, .inl (cI, 19, .inl mo_book)), (mo_now_a, .inl (cI, 19, .inl mo_now)), (mo_beside_a, .inl (cI, 7, .inl mo_beside)), (mo_sight_a, .inl (cI, 16, .inl mo_sight)), (mo_pad_a, .inl (cI, 60, .inl mo_pad)), (mo_lefts_a, .inl (cI, 256, .inl mo_lefts)), (mo_inWays_a, .inl (cI, 128, .inl mo_inWays)), (mo_more_a, .inl (cI, 128, .inl mo_more)), (mo_wins_a, .inl (cZ, 201, .inl mo_wins)), (mo_been_a, .inl (cJ, 9, .inr (.inl r10_148))), (mo_image_a, .inl (cI, 100, .inl mo_image)), (mo_isKept_a, .inl (cZ, 2, .inl mo_isKept))] H → va_D (va_In [(mo, .inr (9, [.ref mo_book_a, .ref mo_now_a, .int mo_there, .ref mo_beside_a, .int (nI mo_sights), .ref mo_sight_a, .int (nI mo_signs), .ref mo_pad_a, .int mo_heldAt, .int mo_heldThing, .int mo_reason, .int mo_acts, .ref mo_lefts_a, .ref mo_inWays_a, .ref mo_more_a, .ref mo_wins_a, .ref mo_been_a, .ref mo_image_a, .ref mo_isKept_a])), (mo_book_a, .inl (cI, 19, .inl mo_book)), (mo_now_a, .inl (cI, 19, .inl mo_now)), (mo_beside_a, .inl (cI, 7, .inl mo_beside)), (mo_sight_a, .inl (cI, 16, .inl mo_sight)), (mo_pad_a, .inl (cI, 60, .inl mo_pad)), (mo_lefts_a, .inl (cI, 256, .inl mo_lefts)), (mo_inWays_a, .inl (cI, 128, .inl mo_inWays)), (mo_more_a, .inl (cI, 128, .inl mo_more)), (mo_wins_a, .inl (cZ, 201, .inl mo_wins)), (mo_been_a, .inl (cJ, 9, .inr (.inl mo_been))), (mo_image_a, .inl (cI, 100, .inl mo_image)), (mo_isKept_a, .inl (cZ, 2, .inl mo_isKept))]) [(mo, .inr (9, [.ref mo_book_a, .ref mo_now_a, .int mo_there, .ref mo_beside_a, .int (nI mo_sights), .ref mo_sight_a, .int (nI mo_signs), .ref mo_pad_a, .int mo_heldAt, .int mo_heldThing, .int mo_reason, .int mo_acts, .ref mo_lefts_a, .ref mo_inWays_a, .ref mo_more_a, .ref mo_wins_a, .ref mo_been_a, .ref mo_image_a, .ref mo_isKept_a])), (mo_book_a, .inl (cI, 19, .inl mo_book)), (mo_now_a, .inl (cI, 19, .inl mo_now)), (mo_beside_a, .inl (cI, 7, .inl mo_beside)), (mo_sight_a, .inl (cI, 16, .inl mo_sight)), (mo_pad_a, .inl (cI, 60, .inl mo_pad)), (mo_lefts_a, .inl (cI, 256, .inl mo_lefts)), (mo_inWays_a, .inl (cI, 128, .inl mo_inWays)), (mo_more_a, .inl (cI, 128, .inl mo_more)), (mo_wins_a, .inl (cZ, 201, .inl mo_wins)), (mo_been_a, .inl (cJ, 9, .inr (.inl r10_148))), (mo_image_a, .inl (cI, 100, .inl mo_image)), (mo_isKept_a, .inl (cZ, 2, .inl mo_isKept))] → va_S (va_In [(mo, .inr (9, [.ref mo_book_a, .ref mo_now_a, .int mo_there, .ref mo_beside_a, .int (nI mo_sights), .ref mo_sight_a, .int (nI mo_signs), .ref mo_pad_a, .int mo_heldAt, .int mo_heldThing, .int mo_reason, .int mo_acts, .ref mo_lefts_a, .ref mo_inWays_a, .ref mo_more_a, .ref mo_wins_a, .ref mo_been_a, .ref mo_image_a, .ref mo_isKept_a])), (mo_book_a, .inl (cI, 19, .inl mo_book)), (mo_now_a, .inl (cI, 19, .inl mo_now)), (mo_beside_a, .inl (cI, 7, .inl mo_beside)), (mo_sight_a, .inl (cI, 16, .inl mo_sight)), (mo_pad_a, .inl (cI, 60, .inl mo_pad)), (mo_lefts_a, .inl (cI, 256, .inl mo_lefts)), (mo_inWays_a, .inl (cI, 128, .inl mo_inWays)), (mo_more_a, .inl (cI, 128, .inl mo_more)), (mo_wins_a, .inl (cZ, 201, .inl mo_wins)), (mo_been_a, .inl (cJ, 9, .inr (.inl mo_been))), (mo_image_a, .inl (cI, 100, .inl mo_image)), (mo_isKept_a, .inl (cZ, 2, .inl mo_isKept))]) s.heap H locs → ∀ (ls : Array Slot), lv_has ls 9 [(8, .int (nI k148 - 1)), (5, .long (v5_131 * ((nI xm.toNatClampNeg).toInt64))), (7, .int (nI i131)), (0, .ref mo), (1, .int (nI xm.toNatClampNeg)), (2, .int (nI xn.toNatClampNeg)), (3, .int xk), (4, .int xq)] → lp_X9_everywhere_148 xm k148 r10_148 = F148_4 → W p l e ({ frames := 1, cells := 0, slots := 0, locals := 30 }) s m args below meth c H locs 0 0 (MQ below (rw_Q D (some (.long R0)) [(mo, .inr (9, [.ref mo_book_a, .ref mo_now_a, .int mo_there, .ref mo_beside_a, .int (nI mo_sights), .ref mo_sight_a, .int (nI mo_signs), .ref mo_pad_a, .int mo_heldAt, .int mo_heldThing, .int mo_reason, .int mo_acts, .ref mo_lefts_a, .ref mo_inWays_a, .ref mo_more_a, .ref mo_wins_a, .ref mo_been_a, .ref mo_image_a, .ref mo_isKept_a])), (mo_book_a, .inl (cI, 19, .inl mo_book)), (mo_now_a, .inl (cI, 19, .inl mo_now)), (mo_beside_a, .inl (cI, 7, .inl mo_beside)), (mo_sight_a, .inl (cI, 16, .inl mo_sight)), (mo_pad_a, .inl (cI, 60, .inl mo_pad)), (mo_lefts_a, .inl (cI, 256, .inl mo_lefts)), (mo_inWays_a, .inl (cI, 128, .inl mo_inWays)), (mo_more_a, .inl (cI, 128, .inl mo_more)), (mo_wins_a, .inl (cZ, 201, .inl mo_wins)), (mo_been_a, .inl (cJ, 9, .inr (.inl mo_been))), (mo_image_a, .inl (cI, 100, .inl mo_image)), (mo_isKept_a, .inl (cZ, 2, .inl mo_isKept))] [(mo, .inr (9, [.ref mo_book_a, .ref mo_now_a, .int mo_there, .ref mo_beside_a, .int (nI mo_sights), .ref mo_sight_a, .int (nI mo_signs), .ref mo_pad_a, .int mo_heldAt, .int mo_heldThing, .int mo_reason, .int mo_acts, .ref mo_lefts_a, .ref mo_inWays_a, .ref mo_more_a, .ref mo_wins_a, .ref mo_been_a, .ref mo_image_a, .ref mo_isKept_a])), (mo_book_a, .inl (cI, 19, .inl mo_book)), (mo_now_a, .inl (cI, 19, .inl mo_now)), (mo_beside_a, .inl (cI, 7, .inl mo_beside)), (mo_sight_a, .inl (cI, 16, .inl mo_sight)), (mo_pad_a, .inl (cI, 60, .inl mo_pad)), (mo_lefts_a, .inl (cI, 256, .inl mo_lefts)), (mo_inWays_a, .inl (cI, 128, .inl mo_inWays)), (mo_more_a, .inl (cI, 128, .inl mo_more)), (mo_wins_a, .inl (cZ, 201, .inl mo_wins)), (mo_been_a, .inl (cJ, 9, .inr (.inl R1))), (mo_image_a, .inl (cI, 100, .inl mo_image)), (mo_isKept_a, .inl (cZ, 2, .inl mo_isKept))]) args s 0 0 (va_In [(mo, .inr (9, [.ref mo_book_a, .ref mo_now_a, .int mo_there, .ref mo_beside_a, .int (nI mo_sights), .ref mo_sight_a, .int (nI mo_signs), .ref mo_pad_a, .int mo_heldAt, .int mo_heldThing, .int mo_reason, .int mo_acts, .ref mo_lefts_a, .ref mo_inWays_a, .ref mo_more_a, .ref mo_wins_a, .ref mo_been_a, .ref mo_image_a, .ref mo_isKept_a])), (mo_book_a, .inl (cI, 19, .inl mo_book)), (mo_now_a, .inl (cI, 19, .inl mo_now)), (mo_beside_a, .inl (cI, 7, .inl mo_beside)), (mo_sight_a, .inl (cI, 16, .inl mo_sight)), (mo_pad_a, .inl (cI, 60, .inl mo_pad)), (mo_lefts_a, .inl (cI, 256, .inl mo_lefts)), (mo_inWays_a, .inl (cI, 128, .inl mo_inWays)), (mo_more_a, .inl (cI, 128, .inl mo_more)), (mo_wins_a, .inl (cZ, 201, .inl mo_wins)), (mo_been_a, .inl (cJ, 9, .inr (.inl mo_been))), (mo_image_a, .inl (cI, 100, .inl mo_image)), (mo_isKept_a, .inl (cZ, 2, .inl mo_isKept))])) (F0 m 148 ls []) := by
                    intro k148
                    induction k148 with
                    | zero =>
                      intro r10_148 h148  H locs hP hD hS ls hl hR
                      have hl : lv_has ls 9 [(8, .int (-1 : Int32)), (5, .long (v5_131 * ((nI xm.toNatClampNeg).toInt64))), (7, .int (nI i131)), (0, .ref mo), (1, .int (nI xm.toNatClampNeg)), (2, .int (nI xn.toNatClampNeg)), (3, .int xk), (4, .int xq)] := hl
                      rw [lp_X9_everywhere_148] at hR
                      refine lv_iload hx hb dX9_everywhere_148 (lv_at hl 0 rfl) ?_
                      refine lv_if_lt (tgt := 214) hx hb dX9_everywhere_150 (by decide) (fun _ => ?_) (fun h => absurd (by decide) h)
                      subst hR
                      exact hexit148 _ _ hP hD hS _ (lv_sub hl [1, 2, 3, 4, 5, 6, 7] rfl)
                    | succ k148 ih148 =>
                      intro r10_148 h148  H locs hP hD hS ls hl hR
                      rw [nI_pred] at hl
                      rw [lp_X9_everywhere_148] at hR
                      refine lv_iload hx hb dX9_everywhere_148 (lv_at hl 0 rfl) ?_
                      refine lv_if_lt (tgt := 214) hx hb dX9_everywhere_150 (by decide) (fun h => absurd h (clt_f (a := k148) (b := 0) rfl rfl (by omega) (by omega))) (fun _ => ?_)
                      refine lv_aload_n hx hb dX9_everywhere_153 rfl (lv_at hl 3 rfl) ?_
                      refine va_get (D := D) (ci := 9) (v := .ref mo_been_a) (C := RX9) (T := TX9) (N := 19) hx hb hts in_X9_everywhere_X9 hown hK.1 hP 0 rfl rfl 16 (by decide) hq2 (fun _ h9 => h9) rfl dX9_everywhere_154 ?_
                      refine lv_iload hx hb dX9_everywhere_157 (lv_at hl 0 rfl) ?_
                      refine lv_iload hx hb dX9_everywhere_159 (lv_at hl 0 rfl) ?_
                      refine lv_iload_n hx hb dX9_everywhere_161 rfl (lv_at hl 4 rfl) ?_
                      refine lv_icmp_le (tgt := 169) hx hb dX9_everywhere_162 (by decide) (fun c162 => ?_) (fun c162 => ?_)
                      · rw [if_pos c162] at hR
                        refine lv_aload_n hx hb dX9_everywhere_169 rfl (lv_at hl 3 rfl) ?_
                        refine va_get (D := D) (ci := 9) (v := .ref mo_been_a) (C := RX9) (T := TX9) (N := 19) hx hb hts in_X9_everywhere_X9 hown hK.1 hP 0 rfl rfl 16 (by decide) hq2 (fun _ h9 => h9) rfl dX9_everywhere_170 ?_
                        refine lv_iload hx hb dX9_everywhere_173 (lv_at hl 0 rfl) ?_
                        refine la_ld hx hb hK hP 10 rfl (i := k148) (by omega) (by decide) dX9_everywhere_175 ?_
                        refine lv_iload hx hb dX9_everywhere_176 (lv_at hl 0 rfl) ?_
                        refine lv_i2l (v := ((nI k148).toInt64)) hx hb dX9_everywhere_178 rfl ?_
                        refine lv_lmul hx hb dX9_everywhere_179 ?_
                        refine lv_iload hx hb dX9_everywhere_180 (lv_at hl 0 rfl) ?_
                        refine lv_if_le (tgt := 205) hx hb dX9_everywhere_182 (by decide) (fun c182 => ?_) (fun c182 => ?_)
                        · rw [if_pos c182] at hR
                          refine lv_lconst (v := (0 : Int64)) hx hb dX9_everywhere_205 (by decide) ?_
                          refine lv_ladd hx hb dX9_everywhere_206 ?_
                          refine la_st hx hb hK hP hD hS 10 rfl (i := k148) (by omega) (by decide) dX9_everywhere_207 (fun H locs hP hD hS => ?_)
                          have hP : va_P D vwCl [(mo, .inr (9, [.ref mo_book_a, .ref mo_now_a, .int mo_there, .ref mo_beside_a, .int (nI mo_sights), .ref mo_sight_a, .int (nI mo_signs), .ref mo_pad_a, .int mo_heldAt, .int mo_heldThing, .int mo_reason, .int mo_acts, .ref mo_lefts_a, .ref mo_inWays_a, .ref mo_more_a, .ref mo_wins_a, .ref mo_been_a, .ref mo_image_a, .ref mo_isKept_a])), (mo_book_a, .inl (cI, 19, .inl mo_book)), (mo_now_a, .inl (cI, 19, .inl mo_now)), (mo_beside_a, .inl (cI, 7, .inl mo_beside)), (mo_sight_a, .inl (cI, 16, .inl mo_sight)), (mo_pad_a, .inl (cI, 60, .inl mo_pad)), (mo_lefts_a, .inl (cI, 256, .inl mo_lefts)), (mo_inWays_a, .inl (cI, 128, .inl mo_inWays)), (mo_more_a, .inl (cI, 128, .inl mo_more)), (mo_wins_a, .inl (cZ, 201, .inl mo_wins)), (mo_been_a, .inl (cJ, 9, .inr (.inl (vp_updL r10_148 k148 (((r10_148 k148) * ((nI k148).toInt64)) + (0 : Int64)))))), (mo_image_a, .inl (cI, 100, .inl mo_image)), (mo_isKept_a, .inl (cZ, 2, .inl mo_isKept))] H := hP
                          have hD : va_D _ [(mo, .inr (9, [.ref mo_book_a, .ref mo_now_a, .int mo_there, .ref mo_beside_a, .int (nI mo_sights), .ref mo_sight_a, .int (nI mo_signs), .ref mo_pad_a, .int mo_heldAt, .int mo_heldThing, .int mo_reason, .int mo_acts, .ref mo_lefts_a, .ref mo_inWays_a, .ref mo_more_a, .ref mo_wins_a, .ref mo_been_a, .ref mo_image_a, .ref mo_isKept_a])), (mo_book_a, .inl (cI, 19, .inl mo_book)), (mo_now_a, .inl (cI, 19, .inl mo_now)), (mo_beside_a, .inl (cI, 7, .inl mo_beside)), (mo_sight_a, .inl (cI, 16, .inl mo_sight)), (mo_pad_a, .inl (cI, 60, .inl mo_pad)), (mo_lefts_a, .inl (cI, 256, .inl mo_lefts)), (mo_inWays_a, .inl (cI, 128, .inl mo_inWays)), (mo_more_a, .inl (cI, 128, .inl mo_more)), (mo_wins_a, .inl (cZ, 201, .inl mo_wins)), (mo_been_a, .inl (cJ, 9, .inr (.inl (vp_updL r10_148 k148 (((r10_148 k148) * ((nI k148).toInt64)) + (0 : Int64)))))), (mo_image_a, .inl (cI, 100, .inl mo_image)), (mo_isKept_a, .inl (cZ, 2, .inl mo_isKept))] := hD
                          refine lv_iinc (v := ((nI k148) - 1)) (lv' := [(8, .int ((nI k148) - 1)), (5, .long (v5_131 * ((nI xm.toNatClampNeg).toInt64))), (7, .int (nI i131)), (0, .ref mo), (1, .int (nI xm.toNatClampNeg)), (2, .int (nI xn.toNatClampNeg)), (3, .int xk), (4, .int xq)]) hx hb dX9_everywhere_208 hl (k := 0) rfl (iinc_m1 _) (by decide) rfl (fun ls hl => ?_)
                          refine lv_goto (tgt := 148) hx hb dX9_everywhere_211 (by decide) ?_
                          exact ih148 _ (by omega) _ _ hP hD hS _ (lv_sub hl [0, 1, 2, 3, 4, 5, 6, 7] rfl) hR
                        · rw [if_neg c182] at hR
                          refine lv_aload_n hx hb dX9_everywhere_185 rfl (lv_at hl 3 rfl) ?_
                          refine va_get (D := D) (ci := 9) (v := .ref mo_been_a) (C := RX9) (T := TX9) (N := 19) hx hb hts in_X9_everywhere_X9 hown hK.1 hP 0 rfl rfl 16 (by decide) hq2 (fun _ h9 => h9) rfl dX9_everywhere_186 ?_
                          refine lv_iload hx hb dX9_everywhere_189 (lv_at hl 0 rfl) ?_
                          refine lv_iconst (v := (1 : Int32)) hx hb dX9_everywhere_191 (by decide) ?_
                          refine lv_isub hx hb dX9_everywhere_192 ?_
                          rw [show ((nI k148) - (1 : Int32)) = (nI (k148 - 1)) from pk_sub (a := k148) (b := 1) (by have := of_nle (a := 0) (b := k148) (by decide) (by omega) c182; omega)]
                          refine la_ld hx hb hK hP 10 rfl (i := (k148 - 1)) (by omega) (by decide) dX9_everywhere_193 ?_
                          refine lv_iload_n hx hb dX9_everywhere_194 rfl (lv_at hl 4 rfl) ?_
                          refine lv_iload hx hb dX9_everywhere_195 (lv_at hl 0 rfl) ?_
                          refine lv_isub hx hb dX9_everywhere_197 ?_
                          refine lv_iconst (v := (1 : Int32)) hx hb dX9_everywhere_198 (by decide) ?_
                          refine lv_iadd hx hb dX9_everywhere_199 ?_
                          refine lv_i2l (v := ((((nI xm.toNatClampNeg) - (nI k148)) + (1 : Int32)).toInt64)) hx hb dX9_everywhere_200 rfl ?_
                          refine lv_lmul hx hb dX9_everywhere_201 ?_
                          refine lv_goto (tgt := 206) hx hb dX9_everywhere_202 (by decide) ?_
                          refine lv_ladd hx hb dX9_everywhere_206 ?_
                          refine la_st hx hb hK hP hD hS 10 rfl (i := k148) (by omega) (by decide) dX9_everywhere_207 (fun H locs hP hD hS => ?_)
                          have hP : va_P D vwCl [(mo, .inr (9, [.ref mo_book_a, .ref mo_now_a, .int mo_there, .ref mo_beside_a, .int (nI mo_sights), .ref mo_sight_a, .int (nI mo_signs), .ref mo_pad_a, .int mo_heldAt, .int mo_heldThing, .int mo_reason, .int mo_acts, .ref mo_lefts_a, .ref mo_inWays_a, .ref mo_more_a, .ref mo_wins_a, .ref mo_been_a, .ref mo_image_a, .ref mo_isKept_a])), (mo_book_a, .inl (cI, 19, .inl mo_book)), (mo_now_a, .inl (cI, 19, .inl mo_now)), (mo_beside_a, .inl (cI, 7, .inl mo_beside)), (mo_sight_a, .inl (cI, 16, .inl mo_sight)), (mo_pad_a, .inl (cI, 60, .inl mo_pad)), (mo_lefts_a, .inl (cI, 256, .inl mo_lefts)), (mo_inWays_a, .inl (cI, 128, .inl mo_inWays)), (mo_more_a, .inl (cI, 128, .inl mo_more)), (mo_wins_a, .inl (cZ, 201, .inl mo_wins)), (mo_been_a, .inl (cJ, 9, .inr (.inl (vp_updL r10_148 k148 (((r10_148 k148) * ((nI k148).toInt64)) + ((r10_148 (k148 - 1)) * ((((nI xm.toNatClampNeg) - (nI k148)) + (1 : Int32)).toInt64))))))), (mo_image_a, .inl (cI, 100, .inl mo_image)), (mo_isKept_a, .inl (cZ, 2, .inl mo_isKept))] H := hP
                          have hD : va_D _ [(mo, .inr (9, [.ref mo_book_a, .ref mo_now_a, .int mo_there, .ref mo_beside_a, .int (nI mo_sights), .ref mo_sight_a, .int (nI mo_signs), .ref mo_pad_a, .int mo_heldAt, .int mo_heldThing, .int mo_reason, .int mo_acts, .ref mo_lefts_a, .ref mo_inWays_a, .ref mo_more_a, .ref mo_wins_a, .ref mo_been_a, .ref mo_image_a, .ref mo_isKept_a])), (mo_book_a, .inl (cI, 19, .inl mo_book)), (mo_now_a, .inl (cI, 19, .inl mo_now)), (mo_beside_a, .inl (cI, 7, .inl mo_beside)), (mo_sight_a, .inl (cI, 16, .inl mo_sight)), (mo_pad_a, .inl (cI, 60, .inl mo_pad)), (mo_lefts_a, .inl (cI, 256, .inl mo_lefts)), (mo_inWays_a, .inl (cI, 128, .inl mo_inWays)), (mo_more_a, .inl (cI, 128, .inl mo_more)), (mo_wins_a, .inl (cZ, 201, .inl mo_wins)), (mo_been_a, .inl (cJ, 9, .inr (.inl (vp_updL r10_148 k148 (((r10_148 k148) * ((nI k148).toInt64)) + ((r10_148 (k148 - 1)) * ((((nI xm.toNatClampNeg) - (nI k148)) + (1 : Int32)).toInt64))))))), (mo_image_a, .inl (cI, 100, .inl mo_image)), (mo_isKept_a, .inl (cZ, 2, .inl mo_isKept))] := hD
                          refine lv_iinc (v := ((nI k148) - 1)) (lv' := [(8, .int ((nI k148) - 1)), (5, .long (v5_131 * ((nI xm.toNatClampNeg).toInt64))), (7, .int (nI i131)), (0, .ref mo), (1, .int (nI xm.toNatClampNeg)), (2, .int (nI xn.toNatClampNeg)), (3, .int xk), (4, .int xq)]) hx hb dX9_everywhere_208 hl (k := 0) rfl (iinc_m1 _) (by decide) rfl (fun ls hl => ?_)
                          refine lv_goto (tgt := 148) hx hb dX9_everywhere_211 (by decide) ?_
                          exact ih148 _ (by omega) _ _ hP hD hS _ (lv_sub hl [0, 1, 2, 3, 4, 5, 6, 7] rfl) hR
                      · rw [if_neg c162] at hR
                        refine lv_lconst (v := (0 : Int64)) hx hb dX9_everywhere_165 (by decide) ?_
                        refine lv_goto (tgt := 207) hx hb dX9_everywhere_166 (by decide) ?_
                        refine la_st hx hb hK hP hD hS 10 rfl (i := k148) (by omega) (by decide) dX9_everywhere_207 (fun H locs hP hD hS => ?_)
                        have hP : va_P D vwCl [(mo, .inr (9, [.ref mo_book_a, .ref mo_now_a, .int mo_there, .ref mo_beside_a, .int (nI mo_sights), .ref mo_sight_a, .int (nI mo_signs), .ref mo_pad_a, .int mo_heldAt, .int mo_heldThing, .int mo_reason, .int mo_acts, .ref mo_lefts_a, .ref mo_inWays_a, .ref mo_more_a, .ref mo_wins_a, .ref mo_been_a, .ref mo_image_a, .ref mo_isKept_a])), (mo_book_a, .inl (cI, 19, .inl mo_book)), (mo_now_a, .inl (cI, 19, .inl mo_now)), (mo_beside_a, .inl (cI, 7, .inl mo_beside)), (mo_sight_a, .inl (cI, 16, .inl mo_sight)), (mo_pad_a, .inl (cI, 60, .inl mo_pad)), (mo_lefts_a, .inl (cI, 256, .inl mo_lefts)), (mo_inWays_a, .inl (cI, 128, .inl mo_inWays)), (mo_more_a, .inl (cI, 128, .inl mo_more)), (mo_wins_a, .inl (cZ, 201, .inl mo_wins)), (mo_been_a, .inl (cJ, 9, .inr (.inl (vp_updL r10_148 k148 (0 : Int64))))), (mo_image_a, .inl (cI, 100, .inl mo_image)), (mo_isKept_a, .inl (cZ, 2, .inl mo_isKept))] H := hP
                        have hD : va_D _ [(mo, .inr (9, [.ref mo_book_a, .ref mo_now_a, .int mo_there, .ref mo_beside_a, .int (nI mo_sights), .ref mo_sight_a, .int (nI mo_signs), .ref mo_pad_a, .int mo_heldAt, .int mo_heldThing, .int mo_reason, .int mo_acts, .ref mo_lefts_a, .ref mo_inWays_a, .ref mo_more_a, .ref mo_wins_a, .ref mo_been_a, .ref mo_image_a, .ref mo_isKept_a])), (mo_book_a, .inl (cI, 19, .inl mo_book)), (mo_now_a, .inl (cI, 19, .inl mo_now)), (mo_beside_a, .inl (cI, 7, .inl mo_beside)), (mo_sight_a, .inl (cI, 16, .inl mo_sight)), (mo_pad_a, .inl (cI, 60, .inl mo_pad)), (mo_lefts_a, .inl (cI, 256, .inl mo_lefts)), (mo_inWays_a, .inl (cI, 128, .inl mo_inWays)), (mo_more_a, .inl (cI, 128, .inl mo_more)), (mo_wins_a, .inl (cZ, 201, .inl mo_wins)), (mo_been_a, .inl (cJ, 9, .inr (.inl (vp_updL r10_148 k148 (0 : Int64))))), (mo_image_a, .inl (cI, 100, .inl mo_image)), (mo_isKept_a, .inl (cZ, 2, .inl mo_isKept))] := hD
                        refine lv_iinc (v := ((nI k148) - 1)) (lv' := [(8, .int ((nI k148) - 1)), (5, .long (v5_131 * ((nI xm.toNatClampNeg).toInt64))), (7, .int (nI i131)), (0, .ref mo), (1, .int (nI xm.toNatClampNeg)), (2, .int (nI xn.toNatClampNeg)), (3, .int xk), (4, .int xq)]) hx hb dX9_everywhere_208 hl (k := 0) rfl (iinc_m1 _) (by decide) rfl (fun ls hl => ?_)
                        refine lv_goto (tgt := 148) hx hb dX9_everywhere_211 (by decide) ?_
                        exact ih148 _ (by omega) _ _ hP hD hS _ (lv_sub hl [0, 1, 2, 3, 4, 5, 6, 7] rfl) hR
                  exact hloop148 9 _ (Nat.le_refl _) _ _ hP hD hS _ hl hF148_4
              exact hloop131 xn.toNatClampNeg 0 _ _ (by omega) rfl _ _ hP hD hS _ hl hR
            have hloop98 : ∀ (k98 i98 : Nat) (r10_98 : Nat → Int64), i98 + k98 = 9 → ∀ (H : Heap) (locs : List Loc), va_P D vwCl [(mo, .inr (9, [.ref mo_book_a, .ref mo_now_a, .int mo_there, .ref mo_beside_a, .int (nI mo_sights), .ref mo_sight_a, .int (nI mo_signs), .ref mo_pad_a, .int mo_heldAt, .int mo_heldThing, .int mo_reason, .int mo_acts, .ref mo_lefts_a, .ref mo_inWays_a, .ref mo_more_a, .ref mo_wins_a, .ref mo_been_a, .ref mo_image_a, .ref mo_isKept_a])), (mo_book_a, .inl (cI, 19, .inl mo_book)), (mo_now_a, .inl (cI, 19, .inl mo_now)), (mo_beside_a, .inl (cI, 7, .inl mo_beside)), (mo_sight_a, .inl (cI, 16, .inl mo_sight)), (mo_pad_a, .inl (cI, 60, .inl mo_pad)), (mo_lefts_a, .inl (cI, 256, .inl mo_lefts)), (mo_inWays_a, .inl (cI, 128, .inl mo_inWays)), (mo_more_a, .inl (cI, 128, .inl mo_more)), (mo_wins_a, .inl (cZ, 201, .inl mo_wins)), (mo_been_a, .inl (cJ, 9, .inr (.inl r10_98))), (mo_image_a, .inl (cI, 100, .inl mo_image)), (mo_isKept_a, .inl (cZ, 2, .inl mo_isKept))] H → va_D (va_In [(mo, .inr (9, [.ref mo_book_a, .ref mo_now_a, .int mo_there, .ref mo_beside_a, .int (nI mo_sights), .ref mo_sight_a, .int (nI mo_signs), .ref mo_pad_a, .int mo_heldAt, .int mo_heldThing, .int mo_reason, .int mo_acts, .ref mo_lefts_a, .ref mo_inWays_a, .ref mo_more_a, .ref mo_wins_a, .ref mo_been_a, .ref mo_image_a, .ref mo_isKept_a])), (mo_book_a, .inl (cI, 19, .inl mo_book)), (mo_now_a, .inl (cI, 19, .inl mo_now)), (mo_beside_a, .inl (cI, 7, .inl mo_beside)), (mo_sight_a, .inl (cI, 16, .inl mo_sight)), (mo_pad_a, .inl (cI, 60, .inl mo_pad)), (mo_lefts_a, .inl (cI, 256, .inl mo_lefts)), (mo_inWays_a, .inl (cI, 128, .inl mo_inWays)), (mo_more_a, .inl (cI, 128, .inl mo_more)), (mo_wins_a, .inl (cZ, 201, .inl mo_wins)), (mo_been_a, .inl (cJ, 9, .inr (.inl mo_been))), (mo_image_a, .inl (cI, 100, .inl mo_image)), (mo_isKept_a, .inl (cZ, 2, .inl mo_isKept))]) [(mo, .inr (9, [.ref mo_book_a, .ref mo_now_a, .int mo_there, .ref mo_beside_a, .int (nI mo_sights), .ref mo_sight_a, .int (nI mo_signs), .ref mo_pad_a, .int mo_heldAt, .int mo_heldThing, .int mo_reason, .int mo_acts, .ref mo_lefts_a, .ref mo_inWays_a, .ref mo_more_a, .ref mo_wins_a, .ref mo_been_a, .ref mo_image_a, .ref mo_isKept_a])), (mo_book_a, .inl (cI, 19, .inl mo_book)), (mo_now_a, .inl (cI, 19, .inl mo_now)), (mo_beside_a, .inl (cI, 7, .inl mo_beside)), (mo_sight_a, .inl (cI, 16, .inl mo_sight)), (mo_pad_a, .inl (cI, 60, .inl mo_pad)), (mo_lefts_a, .inl (cI, 256, .inl mo_lefts)), (mo_inWays_a, .inl (cI, 128, .inl mo_inWays)), (mo_more_a, .inl (cI, 128, .inl mo_more)), (mo_wins_a, .inl (cZ, 201, .inl mo_wins)), (mo_been_a, .inl (cJ, 9, .inr (.inl r10_98))), (mo_image_a, .inl (cI, 100, .inl mo_image)), (mo_isKept_a, .inl (cZ, 2, .inl mo_isKept))] → va_S (va_In [(mo, .inr (9, [.ref mo_book_a, .ref mo_now_a, .int mo_there, .ref mo_beside_a, .int (nI mo_sights), .ref mo_sight_a, .int (nI mo_signs), .ref mo_pad_a, .int mo_heldAt, .int mo_heldThing, .int mo_reason, .int mo_acts, .ref mo_lefts_a, .ref mo_inWays_a, .ref mo_more_a, .ref mo_wins_a, .ref mo_been_a, .ref mo_image_a, .ref mo_isKept_a])), (mo_book_a, .inl (cI, 19, .inl mo_book)), (mo_now_a, .inl (cI, 19, .inl mo_now)), (mo_beside_a, .inl (cI, 7, .inl mo_beside)), (mo_sight_a, .inl (cI, 16, .inl mo_sight)), (mo_pad_a, .inl (cI, 60, .inl mo_pad)), (mo_lefts_a, .inl (cI, 256, .inl mo_lefts)), (mo_inWays_a, .inl (cI, 128, .inl mo_inWays)), (mo_more_a, .inl (cI, 128, .inl mo_more)), (mo_wins_a, .inl (cZ, 201, .inl mo_wins)), (mo_been_a, .inl (cJ, 9, .inr (.inl mo_been))), (mo_image_a, .inl (cI, 100, .inl mo_image)), (mo_isKept_a, .inl (cZ, 2, .inl mo_isKept))]) s.heap H locs → ∀ (ls : Array Slot), lv_has ls 9 [(7, .int (nI i98)), (5, .long (1 : Int64)), (0, .ref mo), (1, .int (nI xm.toNatClampNeg)), (2, .int (nI xn.toNatClampNeg)), (3, .int xk), (4, .int xq)] → lp_X9_everywhere_98 k98 i98 r10_98 = F98_2 → W p l e ({ frames := 1, cells := 0, slots := 0, locals := 30 }) s m args below meth c H locs 0 0 (MQ below (rw_Q D (some (.long R0)) [(mo, .inr (9, [.ref mo_book_a, .ref mo_now_a, .int mo_there, .ref mo_beside_a, .int (nI mo_sights), .ref mo_sight_a, .int (nI mo_signs), .ref mo_pad_a, .int mo_heldAt, .int mo_heldThing, .int mo_reason, .int mo_acts, .ref mo_lefts_a, .ref mo_inWays_a, .ref mo_more_a, .ref mo_wins_a, .ref mo_been_a, .ref mo_image_a, .ref mo_isKept_a])), (mo_book_a, .inl (cI, 19, .inl mo_book)), (mo_now_a, .inl (cI, 19, .inl mo_now)), (mo_beside_a, .inl (cI, 7, .inl mo_beside)), (mo_sight_a, .inl (cI, 16, .inl mo_sight)), (mo_pad_a, .inl (cI, 60, .inl mo_pad)), (mo_lefts_a, .inl (cI, 256, .inl mo_lefts)), (mo_inWays_a, .inl (cI, 128, .inl mo_inWays)), (mo_more_a, .inl (cI, 128, .inl mo_more)), (mo_wins_a, .inl (cZ, 201, .inl mo_wins)), (mo_been_a, .inl (cJ, 9, .inr (.inl mo_been))), (mo_image_a, .inl (cI, 100, .inl mo_image)), (mo_isKept_a, .inl (cZ, 2, .inl mo_isKept))] [(mo, .inr (9, [.ref mo_book_a, .ref mo_now_a, .int mo_there, .ref mo_beside_a, .int (nI mo_sights), .ref mo_sight_a, .int (nI mo_signs), .ref mo_pad_a, .int mo_heldAt, .int mo_heldThing, .int mo_reason, .int mo_acts, .ref mo_lefts_a, .ref mo_inWays_a, .ref mo_more_a, .ref mo_wins_a, .ref mo_been_a, .ref mo_image_a, .ref mo_isKept_a])), (mo_book_a, .inl (cI, 19, .inl mo_book)), (mo_now_a, .inl (cI, 19, .inl mo_now)), (mo_beside_a, .inl (cI, 7, .inl mo_beside)), (mo_sight_a, .inl (cI, 16, .inl mo_sight)), (mo_pad_a, .inl (cI, 60, .inl mo_pad)), (mo_lefts_a, .inl (cI, 256, .inl mo_lefts)), (mo_inWays_a, .inl (cI, 128, .inl mo_inWays)), (mo_more_a, .inl (cI, 128, .inl mo_more)), (mo_wins_a, .inl (cZ, 201, .inl mo_wins)), (mo_been_a, .inl (cJ, 9, .inr (.inl R1))), (mo_image_a, .inl (cI, 100, .inl mo_image)), (mo_isKept_a, .inl (cZ, 2, .inl mo_isKept))]) args s 0 0 (va_In [(mo, .inr (9, [.ref mo_book_a, .ref mo_now_a, .int mo_there, .ref mo_beside_a, .int (nI mo_sights), .ref mo_sight_a, .int (nI mo_signs), .ref mo_pad_a, .int mo_heldAt, .int mo_heldThing, .int mo_reason, .int mo_acts, .ref mo_lefts_a, .ref mo_inWays_a, .ref mo_more_a, .ref mo_wins_a, .ref mo_been_a, .ref mo_image_a, .ref mo_isKept_a])), (mo_book_a, .inl (cI, 19, .inl mo_book)), (mo_now_a, .inl (cI, 19, .inl mo_now)), (mo_beside_a, .inl (cI, 7, .inl mo_beside)), (mo_sight_a, .inl (cI, 16, .inl mo_sight)), (mo_pad_a, .inl (cI, 60, .inl mo_pad)), (mo_lefts_a, .inl (cI, 256, .inl mo_lefts)), (mo_inWays_a, .inl (cI, 128, .inl mo_inWays)), (mo_more_a, .inl (cI, 128, .inl mo_more)), (mo_wins_a, .inl (cZ, 201, .inl mo_wins)), (mo_been_a, .inl (cJ, 9, .inr (.inl mo_been))), (mo_image_a, .inl (cI, 100, .inl mo_image)), (mo_isKept_a, .inl (cZ, 2, .inl mo_isKept))])) (F0 m 98 ls []) := by
              intro k98
              induction k98 with
              | zero =>
                intro i98 r10_98 h98  H locs hP hD hS ls hl hR
                obtain rfl : 9 = i98 := by omega
                rw [lp_X9_everywhere_98] at hR
                refine lv_iload hx hb dX9_everywhere_98 (lv_at hl 0 rfl) ?_
                refine lv_bipush (v := (9 : Int32)) hx hb dX9_everywhere_100 (by decide +kernel) ?_
                refine lv_icmp_ge (tgt := 128) hx hb dX9_everywhere_102 (by decide) (fun _ => ?_) (fun h => absurd (cle_t (a := 9) (b := 9) rfl rfl (by omega) (by omega)) h)
                subst hR
                exact hexit98 _ _ hP hD hS _ (lv_sub hl [1, 2, 3, 4, 5, 6] rfl)
              | succ k98 ih98 =>
                intro i98 r10_98 h98  H locs hP hD hS ls hl hR
                rw [lp_X9_everywhere_98] at hR
                refine lv_iload hx hb dX9_everywhere_98 (lv_at hl 0 rfl) ?_
                refine lv_bipush (v := (9 : Int32)) hx hb dX9_everywhere_100 (by decide +kernel) ?_
                refine lv_icmp_ge (tgt := 128) hx hb dX9_everywhere_102 (by decide) (fun h => absurd h (cle_f (a := 9) (b := i98) rfl rfl (by omega) (by omega))) (fun _ => ?_)
                refine lv_aload_n hx hb dX9_everywhere_105 rfl (lv_at hl 2 rfl) ?_
                refine va_get (D := D) (ci := 9) (v := .ref mo_been_a) (C := RX9) (T := TX9) (N := 19) hx hb hts in_X9_everywhere_X9 hown hK.1 hP 0 rfl rfl 16 (by decide) hq2 (fun _ h9 => h9) rfl dX9_everywhere_106 ?_
                refine lv_iload hx hb dX9_everywhere_109 (lv_at hl 0 rfl) ?_
                refine lv_iload hx hb dX9_everywhere_111 (lv_at hl 0 rfl) ?_
                refine lv_if_ne (tgt := 120) hx hb dX9_everywhere_113 (by decide) (fun c113 => ?_) (fun c113 => ?_)
                · rw [if_neg c113] at hR
                  refine lv_lconst (v := (0 : Int64)) hx hb dX9_everywhere_120 (by decide) ?_
                  refine la_st hx hb hK hP hD hS 10 rfl (i := i98) (by omega) (by decide) dX9_everywhere_121 (fun H locs hP hD hS => ?_)
                  have hP : va_P D vwCl [(mo, .inr (9, [.ref mo_book_a, .ref mo_now_a, .int mo_there, .ref mo_beside_a, .int (nI mo_sights), .ref mo_sight_a, .int (nI mo_signs), .ref mo_pad_a, .int mo_heldAt, .int mo_heldThing, .int mo_reason, .int mo_acts, .ref mo_lefts_a, .ref mo_inWays_a, .ref mo_more_a, .ref mo_wins_a, .ref mo_been_a, .ref mo_image_a, .ref mo_isKept_a])), (mo_book_a, .inl (cI, 19, .inl mo_book)), (mo_now_a, .inl (cI, 19, .inl mo_now)), (mo_beside_a, .inl (cI, 7, .inl mo_beside)), (mo_sight_a, .inl (cI, 16, .inl mo_sight)), (mo_pad_a, .inl (cI, 60, .inl mo_pad)), (mo_lefts_a, .inl (cI, 256, .inl mo_lefts)), (mo_inWays_a, .inl (cI, 128, .inl mo_inWays)), (mo_more_a, .inl (cI, 128, .inl mo_more)), (mo_wins_a, .inl (cZ, 201, .inl mo_wins)), (mo_been_a, .inl (cJ, 9, .inr (.inl (vp_updL r10_98 i98 (0 : Int64))))), (mo_image_a, .inl (cI, 100, .inl mo_image)), (mo_isKept_a, .inl (cZ, 2, .inl mo_isKept))] H := hP
                  have hD : va_D _ [(mo, .inr (9, [.ref mo_book_a, .ref mo_now_a, .int mo_there, .ref mo_beside_a, .int (nI mo_sights), .ref mo_sight_a, .int (nI mo_signs), .ref mo_pad_a, .int mo_heldAt, .int mo_heldThing, .int mo_reason, .int mo_acts, .ref mo_lefts_a, .ref mo_inWays_a, .ref mo_more_a, .ref mo_wins_a, .ref mo_been_a, .ref mo_image_a, .ref mo_isKept_a])), (mo_book_a, .inl (cI, 19, .inl mo_book)), (mo_now_a, .inl (cI, 19, .inl mo_now)), (mo_beside_a, .inl (cI, 7, .inl mo_beside)), (mo_sight_a, .inl (cI, 16, .inl mo_sight)), (mo_pad_a, .inl (cI, 60, .inl mo_pad)), (mo_lefts_a, .inl (cI, 256, .inl mo_lefts)), (mo_inWays_a, .inl (cI, 128, .inl mo_inWays)), (mo_more_a, .inl (cI, 128, .inl mo_more)), (mo_wins_a, .inl (cZ, 201, .inl mo_wins)), (mo_been_a, .inl (cJ, 9, .inr (.inl (vp_updL r10_98 i98 (0 : Int64))))), (mo_image_a, .inl (cI, 100, .inl mo_image)), (mo_isKept_a, .inl (cZ, 2, .inl mo_isKept))] := hD
                  refine lv_iinc (v := (nI (i98 + 1))) (lv' := [(7, .int (nI (i98 + 1))), (5, .long (1 : Int64)), (0, .ref mo), (1, .int (nI xm.toNatClampNeg)), (2, .int (nI xn.toNatClampNeg)), (3, .int xk), (4, .int xq)]) hx hb dX9_everywhere_122 hl (k := 0) rfl (by exact nI_add i98 1) (by decide) rfl (fun ls hl => ?_)
                  refine lv_goto (tgt := 98) hx hb dX9_everywhere_125 (by decide) ?_
                  exact ih98 _ _ (by omega) _ _ hP hD hS _ (lv_sub hl [0, 1, 2, 3, 4, 5, 6] rfl) hR
                · rw [if_pos c113] at hR
                  refine lv_lconst (v := (1 : Int64)) hx hb dX9_everywhere_116 (by decide) ?_
                  refine lv_goto (tgt := 121) hx hb dX9_everywhere_117 (by decide) ?_
                  refine la_st hx hb hK hP hD hS 10 rfl (i := i98) (by omega) (by decide) dX9_everywhere_121 (fun H locs hP hD hS => ?_)
                  have hP : va_P D vwCl [(mo, .inr (9, [.ref mo_book_a, .ref mo_now_a, .int mo_there, .ref mo_beside_a, .int (nI mo_sights), .ref mo_sight_a, .int (nI mo_signs), .ref mo_pad_a, .int mo_heldAt, .int mo_heldThing, .int mo_reason, .int mo_acts, .ref mo_lefts_a, .ref mo_inWays_a, .ref mo_more_a, .ref mo_wins_a, .ref mo_been_a, .ref mo_image_a, .ref mo_isKept_a])), (mo_book_a, .inl (cI, 19, .inl mo_book)), (mo_now_a, .inl (cI, 19, .inl mo_now)), (mo_beside_a, .inl (cI, 7, .inl mo_beside)), (mo_sight_a, .inl (cI, 16, .inl mo_sight)), (mo_pad_a, .inl (cI, 60, .inl mo_pad)), (mo_lefts_a, .inl (cI, 256, .inl mo_lefts)), (mo_inWays_a, .inl (cI, 128, .inl mo_inWays)), (mo_more_a, .inl (cI, 128, .inl mo_more)), (mo_wins_a, .inl (cZ, 201, .inl mo_wins)), (mo_been_a, .inl (cJ, 9, .inr (.inl (vp_updL r10_98 i98 (1 : Int64))))), (mo_image_a, .inl (cI, 100, .inl mo_image)), (mo_isKept_a, .inl (cZ, 2, .inl mo_isKept))] H := hP
                  have hD : va_D _ [(mo, .inr (9, [.ref mo_book_a, .ref mo_now_a, .int mo_there, .ref mo_beside_a, .int (nI mo_sights), .ref mo_sight_a, .int (nI mo_signs), .ref mo_pad_a, .int mo_heldAt, .int mo_heldThing, .int mo_reason, .int mo_acts, .ref mo_lefts_a, .ref mo_inWays_a, .ref mo_more_a, .ref mo_wins_a, .ref mo_been_a, .ref mo_image_a, .ref mo_isKept_a])), (mo_book_a, .inl (cI, 19, .inl mo_book)), (mo_now_a, .inl (cI, 19, .inl mo_now)), (mo_beside_a, .inl (cI, 7, .inl mo_beside)), (mo_sight_a, .inl (cI, 16, .inl mo_sight)), (mo_pad_a, .inl (cI, 60, .inl mo_pad)), (mo_lefts_a, .inl (cI, 256, .inl mo_lefts)), (mo_inWays_a, .inl (cI, 128, .inl mo_inWays)), (mo_more_a, .inl (cI, 128, .inl mo_more)), (mo_wins_a, .inl (cZ, 201, .inl mo_wins)), (mo_been_a, .inl (cJ, 9, .inr (.inl (vp_updL r10_98 i98 (1 : Int64))))), (mo_image_a, .inl (cI, 100, .inl mo_image)), (mo_isKept_a, .inl (cZ, 2, .inl mo_isKept))] := hD
                  refine lv_iinc (v := (nI (i98 + 1))) (lv' := [(7, .int (nI (i98 + 1))), (5, .long (1 : Int64)), (0, .ref mo), (1, .int (nI xm.toNatClampNeg)), (2, .int (nI xn.toNatClampNeg)), (3, .int xk), (4, .int xq)]) hx hb dX9_everywhere_122 hl (k := 0) rfl (by exact nI_add i98 1) (by decide) rfl (fun ls hl => ?_)
                  refine lv_goto (tgt := 98) hx hb dX9_everywhere_125 (by decide) ?_
                  exact ih98 _ _ (by omega) _ _ hP hD hS _ (lv_sub hl [0, 1, 2, 3, 4, 5, 6] rfl) hR
            exact hloop98 9 0 _ (by omega) _ _ hP hD hS _ hl hF98_2
          · rw [if_pos c45] at hR
            refine lv_lconst (v := (0 : Int64)) hx hb dX9_everywhere_48 (by decide) ?_
            refine lv_lstore (lv' := [(5, .long (0 : Int64)), (0, .ref mo), (1, .int (nI xm.toNatClampNeg)), (2, .int (nI xn.toNatClampNeg)), (3, .int xk), (4, .int xq)]) hx hb dX9_everywhere_49 hl (by decide) rfl (fun ls hl => ?_)
            refine lv_iconst (v := (1 : Int32)) hx hb dX9_everywhere_51 (by decide) ?_
            refine lv_istore (lv' := [(7, .int (1 : Int32)), (5, .long (0 : Int64)), (0, .ref mo), (1, .int (nI xm.toNatClampNeg)), (2, .int (nI xn.toNatClampNeg)), (3, .int xk), (4, .int xq)]) hx hb dX9_everywhere_52 hl (by decide) rfl (fun ls hl => ?_)
            obtain ⟨F54_1, hF54_1⟩ : ∃ x, (lp_X9_everywhere_54 ((xm.toNatClampNeg + 1) - 1) 1 (0 : Int64)) = x := ⟨_, rfl⟩
            try rw [hF54_1] at hR
            have hexit54 : ∀ (H : Heap) (locs : List Loc), va_P D vwCl [(mo, .inr (9, [.ref mo_book_a, .ref mo_now_a, .int mo_there, .ref mo_beside_a, .int (nI mo_sights), .ref mo_sight_a, .int (nI mo_signs), .ref mo_pad_a, .int mo_heldAt, .int mo_heldThing, .int mo_reason, .int mo_acts, .ref mo_lefts_a, .ref mo_inWays_a, .ref mo_more_a, .ref mo_wins_a, .ref mo_been_a, .ref mo_image_a, .ref mo_isKept_a])), (mo_book_a, .inl (cI, 19, .inl mo_book)), (mo_now_a, .inl (cI, 19, .inl mo_now)), (mo_beside_a, .inl (cI, 7, .inl mo_beside)), (mo_sight_a, .inl (cI, 16, .inl mo_sight)), (mo_pad_a, .inl (cI, 60, .inl mo_pad)), (mo_lefts_a, .inl (cI, 256, .inl mo_lefts)), (mo_inWays_a, .inl (cI, 128, .inl mo_inWays)), (mo_more_a, .inl (cI, 128, .inl mo_more)), (mo_wins_a, .inl (cZ, 201, .inl mo_wins)), (mo_been_a, .inl (cJ, 9, .inr (.inl mo_been))), (mo_image_a, .inl (cI, 100, .inl mo_image)), (mo_isKept_a, .inl (cZ, 2, .inl mo_isKept))] H → va_D (va_In [(mo, .inr (9, [.ref mo_book_a, .ref mo_now_a, .int mo_there, .ref mo_beside_a, .int (nI mo_sights), .ref mo_sight_a, .int (nI mo_signs), .ref mo_pad_a, .int mo_heldAt, .int mo_heldThing, .int mo_reason, .int mo_acts, .ref mo_lefts_a, .ref mo_inWays_a, .ref mo_more_a, .ref mo_wins_a, .ref mo_been_a, .ref mo_image_a, .ref mo_isKept_a])), (mo_book_a, .inl (cI, 19, .inl mo_book)), (mo_now_a, .inl (cI, 19, .inl mo_now)), (mo_beside_a, .inl (cI, 7, .inl mo_beside)), (mo_sight_a, .inl (cI, 16, .inl mo_sight)), (mo_pad_a, .inl (cI, 60, .inl mo_pad)), (mo_lefts_a, .inl (cI, 256, .inl mo_lefts)), (mo_inWays_a, .inl (cI, 128, .inl mo_inWays)), (mo_more_a, .inl (cI, 128, .inl mo_more)), (mo_wins_a, .inl (cZ, 201, .inl mo_wins)), (mo_been_a, .inl (cJ, 9, .inr (.inl mo_been))), (mo_image_a, .inl (cI, 100, .inl mo_image)), (mo_isKept_a, .inl (cZ, 2, .inl mo_isKept))]) [(mo, .inr (9, [.ref mo_book_a, .ref mo_now_a, .int mo_there, .ref mo_beside_a, .int (nI mo_sights), .ref mo_sight_a, .int (nI mo_signs), .ref mo_pad_a, .int mo_heldAt, .int mo_heldThing, .int mo_reason, .int mo_acts, .ref mo_lefts_a, .ref mo_inWays_a, .ref mo_more_a, .ref mo_wins_a, .ref mo_been_a, .ref mo_image_a, .ref mo_isKept_a])), (mo_book_a, .inl (cI, 19, .inl mo_book)), (mo_now_a, .inl (cI, 19, .inl mo_now)), (mo_beside_a, .inl (cI, 7, .inl mo_beside)), (mo_sight_a, .inl (cI, 16, .inl mo_sight)), (mo_pad_a, .inl (cI, 60, .inl mo_pad)), (mo_lefts_a, .inl (cI, 256, .inl mo_lefts)), (mo_inWays_a, .inl (cI, 128, .inl mo_inWays)), (mo_more_a, .inl (cI, 128, .inl mo_more)), (mo_wins_a, .inl (cZ, 201, .inl mo_wins)), (mo_been_a, .inl (cJ, 9, .inr (.inl mo_been))), (mo_image_a, .inl (cI, 100, .inl mo_image)), (mo_isKept_a, .inl (cZ, 2, .inl mo_isKept))] → va_S (va_In [(mo, .inr (9, [.ref mo_book_a, .ref mo_now_a, .int mo_there, .ref mo_beside_a, .int (nI mo_sights), .ref mo_sight_a, .int (nI mo_signs), .ref mo_pad_a, .int mo_heldAt, .int mo_heldThing, .int mo_reason, .int mo_acts, .ref mo_lefts_a, .ref mo_inWays_a, .ref mo_more_a, .ref mo_wins_a, .ref mo_been_a, .ref mo_image_a, .ref mo_isKept_a])), (mo_book_a, .inl (cI, 19, .inl mo_book)), (mo_now_a, .inl (cI, 19, .inl mo_now)), (mo_beside_a, .inl (cI, 7, .inl mo_beside)), (mo_sight_a, .inl (cI, 16, .inl mo_sight)), (mo_pad_a, .inl (cI, 60, .inl mo_pad)), (mo_lefts_a, .inl (cI, 256, .inl mo_lefts)), (mo_inWays_a, .inl (cI, 128, .inl mo_inWays)), (mo_more_a, .inl (cI, 128, .inl mo_more)), (mo_wins_a, .inl (cZ, 201, .inl mo_wins)), (mo_been_a, .inl (cJ, 9, .inr (.inl mo_been))), (mo_image_a, .inl (cI, 100, .inl mo_image)), (mo_isKept_a, .inl (cZ, 2, .inl mo_isKept))]) s.heap H locs → ∀ (ls : Array Slot), lv_has ls 9 [(5, .long F54_1), (0, .ref mo), (1, .int (nI xm.toNatClampNeg)), (2, .int (nI xn.toNatClampNeg)), (3, .int xk), (4, .int xq)] → W p l e ({ frames := 1, cells := 0, slots := 0, locals := 30 }) s m args below meth c H locs 0 0 (MQ below (rw_Q D (some (.long R0)) [(mo, .inr (9, [.ref mo_book_a, .ref mo_now_a, .int mo_there, .ref mo_beside_a, .int (nI mo_sights), .ref mo_sight_a, .int (nI mo_signs), .ref mo_pad_a, .int mo_heldAt, .int mo_heldThing, .int mo_reason, .int mo_acts, .ref mo_lefts_a, .ref mo_inWays_a, .ref mo_more_a, .ref mo_wins_a, .ref mo_been_a, .ref mo_image_a, .ref mo_isKept_a])), (mo_book_a, .inl (cI, 19, .inl mo_book)), (mo_now_a, .inl (cI, 19, .inl mo_now)), (mo_beside_a, .inl (cI, 7, .inl mo_beside)), (mo_sight_a, .inl (cI, 16, .inl mo_sight)), (mo_pad_a, .inl (cI, 60, .inl mo_pad)), (mo_lefts_a, .inl (cI, 256, .inl mo_lefts)), (mo_inWays_a, .inl (cI, 128, .inl mo_inWays)), (mo_more_a, .inl (cI, 128, .inl mo_more)), (mo_wins_a, .inl (cZ, 201, .inl mo_wins)), (mo_been_a, .inl (cJ, 9, .inr (.inl mo_been))), (mo_image_a, .inl (cI, 100, .inl mo_image)), (mo_isKept_a, .inl (cZ, 2, .inl mo_isKept))] [(mo, .inr (9, [.ref mo_book_a, .ref mo_now_a, .int mo_there, .ref mo_beside_a, .int (nI mo_sights), .ref mo_sight_a, .int (nI mo_signs), .ref mo_pad_a, .int mo_heldAt, .int mo_heldThing, .int mo_reason, .int mo_acts, .ref mo_lefts_a, .ref mo_inWays_a, .ref mo_more_a, .ref mo_wins_a, .ref mo_been_a, .ref mo_image_a, .ref mo_isKept_a])), (mo_book_a, .inl (cI, 19, .inl mo_book)), (mo_now_a, .inl (cI, 19, .inl mo_now)), (mo_beside_a, .inl (cI, 7, .inl mo_beside)), (mo_sight_a, .inl (cI, 16, .inl mo_sight)), (mo_pad_a, .inl (cI, 60, .inl mo_pad)), (mo_lefts_a, .inl (cI, 256, .inl mo_lefts)), (mo_inWays_a, .inl (cI, 128, .inl mo_inWays)), (mo_more_a, .inl (cI, 128, .inl mo_more)), (mo_wins_a, .inl (cZ, 201, .inl mo_wins)), (mo_been_a, .inl (cJ, 9, .inr (.inl R1))), (mo_image_a, .inl (cI, 100, .inl mo_image)), (mo_isKept_a, .inl (cZ, 2, .inl mo_isKept))]) args s 0 0 (va_In [(mo, .inr (9, [.ref mo_book_a, .ref mo_now_a, .int mo_there, .ref mo_beside_a, .int (nI mo_sights), .ref mo_sight_a, .int (nI mo_signs), .ref mo_pad_a, .int mo_heldAt, .int mo_heldThing, .int mo_reason, .int mo_acts, .ref mo_lefts_a, .ref mo_inWays_a, .ref mo_more_a, .ref mo_wins_a, .ref mo_been_a, .ref mo_image_a, .ref mo_isKept_a])), (mo_book_a, .inl (cI, 19, .inl mo_book)), (mo_now_a, .inl (cI, 19, .inl mo_now)), (mo_beside_a, .inl (cI, 7, .inl mo_beside)), (mo_sight_a, .inl (cI, 16, .inl mo_sight)), (mo_pad_a, .inl (cI, 60, .inl mo_pad)), (mo_lefts_a, .inl (cI, 256, .inl mo_lefts)), (mo_inWays_a, .inl (cI, 128, .inl mo_inWays)), (mo_more_a, .inl (cI, 128, .inl mo_more)), (mo_wins_a, .inl (cZ, 201, .inl mo_wins)), (mo_been_a, .inl (cJ, 9, .inr (.inl mo_been))), (mo_image_a, .inl (cI, 100, .inl mo_image)), (mo_isKept_a, .inl (cZ, 2, .inl mo_isKept))])) (F0 m 78 ls []) := by
              intro H locs hP hD hS ls hl
              refine lv_iload_n hx hb dX9_everywhere_78 rfl (lv_at hl 2 rfl) ?_
              refine lv_i2l (v := ((nI xm.toNatClampNeg).toInt64)) hx hb dX9_everywhere_79 rfl ?_
              refine lv_lload hx hb dX9_everywhere_80 (lv_at hl 0 rfl) ?_
              refine lv_lmul hx hb dX9_everywhere_82 ?_
              refine lv_ldc2 (v := (840 : Int64)) hx hb hown hq1 dX9_everywhere_83 ?_
              refine lv_iload hx hb dX9_everywhere_86 (lv_at hl 5 rfl) ?_
              refine ro_S (As := [.long (((nI xm.toNatClampNeg).toInt64) * F54_1), .long (840 : Int64), .int xq]) (rest := []) ⟨hx, hb, hml, hown, hts⟩ hK (c_X9_lowest l D cI cJ cZ (((nI xm.toNatClampNeg).toInt64) * F54_1) (840 : Int64) xq (by decide)) va_P_nil (va_cwS 3 hts gX9_everywhere_X9_lowest rfl rfl rfl hd_X9_lowest ⟨(Nat.le_of_ble_eq_true rfl), (Nat.le_of_ble_eq_true rfl)⟩) rfl hl.1 rfl (Nat.le_of_ble_eq_true rfl) dX9_everywhere_88 (Nat.zero_le _) (Nat.zero_le _) ?_
              obtain ⟨rfl, rfl⟩ := prodI2 hR
              exact rw_lret hx hb hr hlocks hP hS dX9_everywhere_91
            have hloop54 : ∀ (k54 i54 : Nat) (v5_54 : Int64), i54 + k54 = (xm.toNatClampNeg + 1) → 1 ≤ i54 → ∀ (H : Heap) (locs : List Loc), va_P D vwCl [(mo, .inr (9, [.ref mo_book_a, .ref mo_now_a, .int mo_there, .ref mo_beside_a, .int (nI mo_sights), .ref mo_sight_a, .int (nI mo_signs), .ref mo_pad_a, .int mo_heldAt, .int mo_heldThing, .int mo_reason, .int mo_acts, .ref mo_lefts_a, .ref mo_inWays_a, .ref mo_more_a, .ref mo_wins_a, .ref mo_been_a, .ref mo_image_a, .ref mo_isKept_a])), (mo_book_a, .inl (cI, 19, .inl mo_book)), (mo_now_a, .inl (cI, 19, .inl mo_now)), (mo_beside_a, .inl (cI, 7, .inl mo_beside)), (mo_sight_a, .inl (cI, 16, .inl mo_sight)), (mo_pad_a, .inl (cI, 60, .inl mo_pad)), (mo_lefts_a, .inl (cI, 256, .inl mo_lefts)), (mo_inWays_a, .inl (cI, 128, .inl mo_inWays)), (mo_more_a, .inl (cI, 128, .inl mo_more)), (mo_wins_a, .inl (cZ, 201, .inl mo_wins)), (mo_been_a, .inl (cJ, 9, .inr (.inl mo_been))), (mo_image_a, .inl (cI, 100, .inl mo_image)), (mo_isKept_a, .inl (cZ, 2, .inl mo_isKept))] H → va_D (va_In [(mo, .inr (9, [.ref mo_book_a, .ref mo_now_a, .int mo_there, .ref mo_beside_a, .int (nI mo_sights), .ref mo_sight_a, .int (nI mo_signs), .ref mo_pad_a, .int mo_heldAt, .int mo_heldThing, .int mo_reason, .int mo_acts, .ref mo_lefts_a, .ref mo_inWays_a, .ref mo_more_a, .ref mo_wins_a, .ref mo_been_a, .ref mo_image_a, .ref mo_isKept_a])), (mo_book_a, .inl (cI, 19, .inl mo_book)), (mo_now_a, .inl (cI, 19, .inl mo_now)), (mo_beside_a, .inl (cI, 7, .inl mo_beside)), (mo_sight_a, .inl (cI, 16, .inl mo_sight)), (mo_pad_a, .inl (cI, 60, .inl mo_pad)), (mo_lefts_a, .inl (cI, 256, .inl mo_lefts)), (mo_inWays_a, .inl (cI, 128, .inl mo_inWays)), (mo_more_a, .inl (cI, 128, .inl mo_more)), (mo_wins_a, .inl (cZ, 201, .inl mo_wins)), (mo_been_a, .inl (cJ, 9, .inr (.inl mo_been))), (mo_image_a, .inl (cI, 100, .inl mo_image)), (mo_isKept_a, .inl (cZ, 2, .inl mo_isKept))]) [(mo, .inr (9, [.ref mo_book_a, .ref mo_now_a, .int mo_there, .ref mo_beside_a, .int (nI mo_sights), .ref mo_sight_a, .int (nI mo_signs), .ref mo_pad_a, .int mo_heldAt, .int mo_heldThing, .int mo_reason, .int mo_acts, .ref mo_lefts_a, .ref mo_inWays_a, .ref mo_more_a, .ref mo_wins_a, .ref mo_been_a, .ref mo_image_a, .ref mo_isKept_a])), (mo_book_a, .inl (cI, 19, .inl mo_book)), (mo_now_a, .inl (cI, 19, .inl mo_now)), (mo_beside_a, .inl (cI, 7, .inl mo_beside)), (mo_sight_a, .inl (cI, 16, .inl mo_sight)), (mo_pad_a, .inl (cI, 60, .inl mo_pad)), (mo_lefts_a, .inl (cI, 256, .inl mo_lefts)), (mo_inWays_a, .inl (cI, 128, .inl mo_inWays)), (mo_more_a, .inl (cI, 128, .inl mo_more)), (mo_wins_a, .inl (cZ, 201, .inl mo_wins)), (mo_been_a, .inl (cJ, 9, .inr (.inl mo_been))), (mo_image_a, .inl (cI, 100, .inl mo_image)), (mo_isKept_a, .inl (cZ, 2, .inl mo_isKept))] → va_S (va_In [(mo, .inr (9, [.ref mo_book_a, .ref mo_now_a, .int mo_there, .ref mo_beside_a, .int (nI mo_sights), .ref mo_sight_a, .int (nI mo_signs), .ref mo_pad_a, .int mo_heldAt, .int mo_heldThing, .int mo_reason, .int mo_acts, .ref mo_lefts_a, .ref mo_inWays_a, .ref mo_more_a, .ref mo_wins_a, .ref mo_been_a, .ref mo_image_a, .ref mo_isKept_a])), (mo_book_a, .inl (cI, 19, .inl mo_book)), (mo_now_a, .inl (cI, 19, .inl mo_now)), (mo_beside_a, .inl (cI, 7, .inl mo_beside)), (mo_sight_a, .inl (cI, 16, .inl mo_sight)), (mo_pad_a, .inl (cI, 60, .inl mo_pad)), (mo_lefts_a, .inl (cI, 256, .inl mo_lefts)), (mo_inWays_a, .inl (cI, 128, .inl mo_inWays)), (mo_more_a, .inl (cI, 128, .inl mo_more)), (mo_wins_a, .inl (cZ, 201, .inl mo_wins)), (mo_been_a, .inl (cJ, 9, .inr (.inl mo_been))), (mo_image_a, .inl (cI, 100, .inl mo_image)), (mo_isKept_a, .inl (cZ, 2, .inl mo_isKept))]) s.heap H locs → ∀ (ls : Array Slot), lv_has ls 9 [(7, .int (nI i54)), (5, .long v5_54), (0, .ref mo), (1, .int (nI xm.toNatClampNeg)), (2, .int (nI xn.toNatClampNeg)), (3, .int xk), (4, .int xq)] → lp_X9_everywhere_54 k54 i54 v5_54 = F54_1 → W p l e ({ frames := 1, cells := 0, slots := 0, locals := 30 }) s m args below meth c H locs 0 0 (MQ below (rw_Q D (some (.long R0)) [(mo, .inr (9, [.ref mo_book_a, .ref mo_now_a, .int mo_there, .ref mo_beside_a, .int (nI mo_sights), .ref mo_sight_a, .int (nI mo_signs), .ref mo_pad_a, .int mo_heldAt, .int mo_heldThing, .int mo_reason, .int mo_acts, .ref mo_lefts_a, .ref mo_inWays_a, .ref mo_more_a, .ref mo_wins_a, .ref mo_been_a, .ref mo_image_a, .ref mo_isKept_a])), (mo_book_a, .inl (cI, 19, .inl mo_book)), (mo_now_a, .inl (cI, 19, .inl mo_now)), (mo_beside_a, .inl (cI, 7, .inl mo_beside)), (mo_sight_a, .inl (cI, 16, .inl mo_sight)), (mo_pad_a, .inl (cI, 60, .inl mo_pad)), (mo_lefts_a, .inl (cI, 256, .inl mo_lefts)), (mo_inWays_a, .inl (cI, 128, .inl mo_inWays)), (mo_more_a, .inl (cI, 128, .inl mo_more)), (mo_wins_a, .inl (cZ, 201, .inl mo_wins)), (mo_been_a, .inl (cJ, 9, .inr (.inl mo_been))), (mo_image_a, .inl (cI, 100, .inl mo_image)), (mo_isKept_a, .inl (cZ, 2, .inl mo_isKept))] [(mo, .inr (9, [.ref mo_book_a, .ref mo_now_a, .int mo_there, .ref mo_beside_a, .int (nI mo_sights), .ref mo_sight_a, .int (nI mo_signs), .ref mo_pad_a, .int mo_heldAt, .int mo_heldThing, .int mo_reason, .int mo_acts, .ref mo_lefts_a, .ref mo_inWays_a, .ref mo_more_a, .ref mo_wins_a, .ref mo_been_a, .ref mo_image_a, .ref mo_isKept_a])), (mo_book_a, .inl (cI, 19, .inl mo_book)), (mo_now_a, .inl (cI, 19, .inl mo_now)), (mo_beside_a, .inl (cI, 7, .inl mo_beside)), (mo_sight_a, .inl (cI, 16, .inl mo_sight)), (mo_pad_a, .inl (cI, 60, .inl mo_pad)), (mo_lefts_a, .inl (cI, 256, .inl mo_lefts)), (mo_inWays_a, .inl (cI, 128, .inl mo_inWays)), (mo_more_a, .inl (cI, 128, .inl mo_more)), (mo_wins_a, .inl (cZ, 201, .inl mo_wins)), (mo_been_a, .inl (cJ, 9, .inr (.inl R1))), (mo_image_a, .inl (cI, 100, .inl mo_image)), (mo_isKept_a, .inl (cZ, 2, .inl mo_isKept))]) args s 0 0 (va_In [(mo, .inr (9, [.ref mo_book_a, .ref mo_now_a, .int mo_there, .ref mo_beside_a, .int (nI mo_sights), .ref mo_sight_a, .int (nI mo_signs), .ref mo_pad_a, .int mo_heldAt, .int mo_heldThing, .int mo_reason, .int mo_acts, .ref mo_lefts_a, .ref mo_inWays_a, .ref mo_more_a, .ref mo_wins_a, .ref mo_been_a, .ref mo_image_a, .ref mo_isKept_a])), (mo_book_a, .inl (cI, 19, .inl mo_book)), (mo_now_a, .inl (cI, 19, .inl mo_now)), (mo_beside_a, .inl (cI, 7, .inl mo_beside)), (mo_sight_a, .inl (cI, 16, .inl mo_sight)), (mo_pad_a, .inl (cI, 60, .inl mo_pad)), (mo_lefts_a, .inl (cI, 256, .inl mo_lefts)), (mo_inWays_a, .inl (cI, 128, .inl mo_inWays)), (mo_more_a, .inl (cI, 128, .inl mo_more)), (mo_wins_a, .inl (cZ, 201, .inl mo_wins)), (mo_been_a, .inl (cJ, 9, .inr (.inl mo_been))), (mo_image_a, .inl (cI, 100, .inl mo_image)), (mo_isKept_a, .inl (cZ, 2, .inl mo_isKept))])) (F0 m 54 ls []) := by
              intro k54
              induction k54 with
              | zero =>
                intro i54 v5_54 h54 hs54  H locs hP hD hS ls hl hR
                obtain rfl : (xm.toNatClampNeg + 1) = i54 := by omega
                rw [lp_X9_everywhere_54] at hR
                refine lv_iload hx hb dX9_everywhere_54 (lv_at hl 0 rfl) ?_
                refine lv_iload_n hx hb dX9_everywhere_56 rfl (lv_at hl 3 rfl) ?_
                refine lv_icmp_gt (tgt := 78) hx hb dX9_everywhere_57 (by decide) (fun _ => ?_) (fun h => absurd (clt_t (a := xm.toNatClampNeg) (b := (xm.toNatClampNeg + 1)) rfl rfl (by omega) (by omega)) h)
                subst hR
                exact hexit54 _ _ hP hD hS _ (lv_sub hl [1, 2, 3, 4, 5, 6] rfl)
              | succ k54 ih54 =>
                intro i54 v5_54 h54 hs54  H locs hP hD hS ls hl hR
                rw [lp_X9_everywhere_54] at hR
                refine lv_iload hx hb dX9_everywhere_54 (lv_at hl 0 rfl) ?_
                refine lv_iload_n hx hb dX9_everywhere_56 rfl (lv_at hl 3 rfl) ?_
                refine lv_icmp_gt (tgt := 78) hx hb dX9_everywhere_57 (by decide) (fun h => absurd h (clt_f (a := xm.toNatClampNeg) (b := i54) rfl rfl (by omega) (by omega))) (fun _ => ?_)
                refine lv_lload hx hb dX9_everywhere_60 (lv_at hl 1 rfl) ?_
                refine lv_ldc2 (v := (840 : Int64)) hx hb hown hq1 dX9_everywhere_62 ?_
                refine lv_iload hx hb dX9_everywhere_65 (lv_at hl 0 rfl) ?_
                refine lv_i2l (v := ((nI i54).toInt64)) hx hb dX9_everywhere_67 rfl ?_
                refine lv_ldiv hx hb dX9_everywhere_68 (i2l_ne (by omega) (by omega)) ?_
                refine lv_ladd hx hb dX9_everywhere_69 ?_
                refine lv_lstore (lv' := [(5, .long (v5_54 + ((840 : Int64) / ((nI i54).toInt64)))), (7, .int (nI i54)), (0, .ref mo), (1, .int (nI xm.toNatClampNeg)), (2, .int (nI xn.toNatClampNeg)), (3, .int xk), (4, .int xq)]) hx hb dX9_everywhere_70 hl (by decide) rfl (fun ls hl => ?_)
                refine lv_iinc (v := (nI (i54 + 1))) (lv' := [(7, .int (nI (i54 + 1))), (5, .long (v5_54 + ((840 : Int64) / ((nI i54).toInt64)))), (0, .ref mo), (1, .int (nI xm.toNatClampNeg)), (2, .int (nI xn.toNatClampNeg)), (3, .int xk), (4, .int xq)]) hx hb dX9_everywhere_72 hl (k := 1) rfl (by exact nI_add i54 1) (by decide) rfl (fun ls hl => ?_)
                refine lv_goto (tgt := 54) hx hb dX9_everywhere_75 (by decide) ?_
                exact ih54 _ _ (by omega) (by omega) _ _ hP hD hS _ (lv_sub hl [0, 1, 2, 3, 4, 5, 6] rfl) hR
            exact hloop54 ((xm.toNatClampNeg + 1) - 1) 1 _ (by omega) (Nat.le_refl _) _ _ hP hD hS _ hl hF54_1
        · rw [if_pos c36] at hR
          refine lv_ldc2 (v := (-1000000000000000002 : Int64)) hx hb hown hq0 dX9_everywhere_39 ?_
          obtain ⟨rfl, rfl⟩ := prodI2 hR
          exact rw_lret hx hb hr hlocks hP hS dX9_everywhere_42

