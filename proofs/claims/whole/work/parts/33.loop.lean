/-! THE CLAIM OUT OF ONE WALK OF THE LAW'S BODY. Your part is whole_start (and what it stands on); all else here is the same for every law, but numbers. -/
def R_law : String := "StuckVanesLaw"
def lw_P (b : Addr) (xs : List Int32) (args : Array Value) (s : State) : Prop := args = #[.ref b] ∧ s.IntsAt b xs ∧ xs.length ≤ 320 ∧ (Jvm.Cond.and given_1 narrow_1).before args s = true
def lw_Q (_ : Array Value) (s : State) (o : Outcome) (t : State) : Prop := o = .returned (some (.int 1)) ∧ Framed s o t [] 600000 7302249
def lw_Z (below : List Frame) (a : Array Value) (s : State) : State → Prop := fun t => ∃ o, t.status = .running ∧ Ended t below o ∧ lw_Q a s o t
/-- the law's own end, with 1 on the stack, nothing written that was there before, its room as the claim has it -/
theorem lw_ret {p : Program} {l : Launch} {e : Env} {s : State} {m : MethodId} {below : List Frame} {meth : Method} {c : Code} {b : Nat} (hx : p.tables.exec = Jvm.exec) (hb : c.code = code) (hr : meth.sig.returnType = ret) (hlocks : meth.locks = false) {pc : Nat} {H : Heap} {ls : Array Slot} (hdg : decode code pc = .ok (.ireturn, 1)) : W p l e room_1 s m #[Value.ref b] below meth c H [] 600000 7302249 (lw_Z below #[Value.ref b] s) (F0 m pc ls [.int 1]) := by
  intro T hT X
  obtain ⟨fs, hret, hrun, hended, hW, hframe⟩ := X.leave (v := some (.int 1)) (hlocks := hlocks) (fun h => by rw [hr] at h; cases h)
  have hmeth' : T.vm.method? m = some meth := X.method'
  refine ⟨T.setFrames fs, ?_, .returned (some (.int 1)), hrun, hended, rfl, ⟨_, rfl⟩, hW, hframe⟩
  jvm_step X.here [X.here.top, hx, hb, hdg, hmeth', hr, ret, narrow_b1]
  (try refine ⟨rfl, ?_⟩); (try refine ⟨rfl, ?_⟩)
  first | (intro acts; rw [hret _ acts rfl rfl rfl]) | rw [hret _ _ rfl rfl rfl]
  exact Steps.refl _
/-- what holds at the law's entry: the machine, the code, the tables' words (any of lw_tbl by 'hts w (by decide +kernel)'), the script of L ints xs at the cell b, what the Statement gives of the start (any of its parts by flat_of_before) -/
def lw_At (p : Program) (s : State) (m : MethodId) (meth : Method) (c : Code) (b L : Nat) (xs : Nat → Int32) : Prop :=
  p.tables.exec = Jvm.exec ∧ c.code = code ∧ meth.sig.returnType = ret ∧ c.maxLocals = 4 ∧ s.vm.findClass R_law = some m.cls ∧ (∀ w ∈ lw_tbl, w.before #[Value.ref b] s = true) ∧ va_X b L xs s s.heap ∧ b < s.heap.size ∧ meth.locks = false ∧ (Jvm.Cond.and given_1 narrow_1).before #[Value.ref b] s = true

theorem law_ge {i L : Nat} (hL : L ≤ 320) (hi : i ≤ L) (h : ¬ (nI L - 5) < nI i) : i + 5 ≤ L := by
  rcases Nat.lt_or_ge L 5 with q | q
  · exfalso
    apply h
    have e : ∀ n, n < 5 → nI n - 5 < 0 := by decide
    have h1 := e L q
    rw [Int32.lt_iff_toInt_lt] at h1 ⊢
    rw [nI_toInt (by omega)]
    rw [Int32.toInt_zero] at h1
    omega
  · rw [show nI L - 5 = nI (L - 5) from pk_sub (a := L) (b := 5) q] at h
    have := of_nlt (a := L - 5) (b := i) (by omega) (by omega) h
    omega
theorem law_lt {i L : Nat} (hL : L ≤ 320) (hi : i ≤ L) (h : (nI L - 5) < nI i) : ¬ i + 5 ≤ L := by
  intro q
  rw [show nI L - 5 = nI (L - 5) from pk_sub (a := L) (b := 5) (by omega)] at h
  have := of_lt (a := L - 5) (b := i) (by omega) (by omega) h
  omega
set_option maxHeartbeats 4000000 in
set_option maxRecDepth 100000 in
theorem law_head {p : Program} {e : Env} {s : State} {m : MethodId} {meth : Method} {c : Code} {below : List Frame} {b L : Nat} {xs : Nat → Int32} {D : va_G} {cI cJ cZ : ClassId} (l : Launch) (C0 : LC p s m c b L xs D cI cJ cZ) (hr : meth.sig.returnType = ret) (hlocks : meth.locks = false) (i : Nat) (hi : i ≤ L) (hn : i + 5 ≤ L → LW p l e s m meth c below b D cI cJ cZ (lw_Z below #[Value.ref b] s) (i + 5)) : LW p l e s m meth c below b D cI cJ cZ (lw_Z below #[Value.ref b] s) i := by
  intro x x_now x_image0 x_image1 x_kept x_pad x_weeks x_agendas x_pointings x_guesses x_squares x_chances nw_points_a nw_tired_a nw_near_a nw_there nw_free nw_held nw_wind nw_oil nw_hour nw_sights nw_agreedTo nw_refused nw_points nw_tired nw_near i0_points_a i0_tired_a i0_near_a i0_there i0_free i0_held i0_wind i0_oil i0_hour i0_sights i0_agreedTo i0_refused i0_points i0_tired i0_near i1_points_a i1_tired_a i1_near_a i1_there i1_free i1_held i1_wind i1_oil i1_hour i1_sights i1_agreedTo i1_refused i1_points i1_tired i1_near pd_signs_a pd_length pd_kinds_a pd_parishes_a pd_numbers_a pd_acts pd_signs pd_kinds pd_parishes pd_numbers wk_world wk_acts wk_heldAct wk_heldThing ww_points_a ww_tired_a ww_near_a ww_there ww_free ww_held ww_wind ww_oil ww_hour ww_sights ww_agreedTo ww_refused ww_points ww_tired ww_near ag_row_a ag_beaten_a ag_row ag_beaten pp_pointing_a pp_pointing gs_agreeing_a gs_thing gs_left gs_agreeing sq_takes_a sq_known sq_takes ch_courses_a ch_upper ch_lower ch_courses mo mo_book_a mo_now_a mo_there mo_beside_a mo_sights mo_sight_a mo_signs mo_pad_a mo_heldAt mo_heldThing mo_reason mo_acts mo_lefts_a mo_inWays_a mo_more_a mo_wins_a mo_been_a mo_image_a mo_isKept_a mo_book mo_now mo_beside mo_sight mo_pad mo_lefts mo_inWays mo_more mo_wins mo_been mo_image mo_isKept H locs ls hR hP hD hS hl
  obtain ⟨hx, hb, hml, hown, hts, hX, hbl, hK, hL⟩ := id C0
  have hbA : ¬ (fun q : Nat => s.heap.size ≤ q) b := Nat.not_le.mpr hbl
  refine lv_iload_n hx hb dL_law_18 rfl (lv_at hl 0 rfl) ?_
  refine lv_aload_n hx hb dL_law_19 rfl (lv_at hl 3 rfl) ?_
  refine va_slen hx hb hX hbl hbA hS dL_law_20 ?_
  refine lv_iconst (v := (5 : Int32)) hx hb dL_law_21 (by decide) ?_
  refine lv_isub hx hb dL_law_22 ?_
  refine lv_icmp_gt (tgt := 945) hx hb dL_law_23 (by decide) (fun _ => ?_) (fun c23 => ?_)
  · refine lv_iconst (v := (1 : Int32)) hx hb dL_law_945 (by decide) ?_
    refine va_forget (fun q hq => hS.2.2 q hq) ?_
    refine W.widen (k := 600000) (n := 7302249) (Nat.le_of_ble_eq_true rfl) (Nat.le_of_ble_eq_true rfl) ?_
    exact lw_ret hx hb hr hlocks dL_law_946
  · have h5 : i + 5 ≤ L := law_ge hL hi c23
    have hn := hn h5
    refine lv_aload_n hx hb dL_law_26 rfl (lv_at hl 3 rfl) ?_
    refine lv_iload_n hx hb dL_law_27 rfl (lv_at hl 0 rfl) ?_
    refine sc_ld hx hb hX hbl hbA hS (i := i) (by omega) (by omega) dL_law_28 ?_
    refine lv_bipush (v := (31 : Int32)) hx hb dL_law_29 (by decide +kernel) ?_
    refine lv_iand hx hb dL_law_31 ?_
    generalize hy : (xs i &&& (31 : Int32)) = y
    by_cases k0 : y = (0 : Int32)
    · subst k0
      refine lv_tableIn (off := 120) (tgt := 152) hx hb dL_law_32 (by decide) (by decide) rfl (by decide) ?_
      exact step_parish l C0 i h5 hn _ _ _ _ _ _ _ _ _ _ _ _ _ _ _ _ _ _ _ _ _ _ _ _ _ _ _ _ _ _ _ _ _ _ _ _ _ _ _ _ _ _ _ _ _ _ _ _ _ _ _ _ _ _ _ _ _ _ _ _ _ _ _ _ _ _ _ _ _ _ _ _ _ _ _ _ _ _ _ _ _ _ _ _ _ _ _ _ _ _ _ _ _ _ _ _ _ _ _ _ _ _ _ _ _ _ _ _ _ _ _ _ _ _ _ _ _ _ _ _ _ _ _ _ _ _ _ _ _ _ _ _ _ _ _ H locs ls hR hP hD hS hl
    by_cases k1 : y = (1 : Int32)
    · subst k1
      refine lv_tableIn (off := 189) (tgt := 221) hx hb dL_law_32 (by decide) (by decide) rfl (by decide) ?_
      exact step_neighbours l C0 i h5 hn _ _ _ _ _ _ _ _ _ _ _ _ _ _ _ _ _ _ _ _ _ _ _ _ _ _ _ _ _ _ _ _ _ _ _ _ _ _ _ _ _ _ _ _ _ _ _ _ _ _ _ _ _ _ _ _ _ _ _ _ _ _ _ _ _ _ _ _ _ _ _ _ _ _ _ _ _ _ _ _ _ _ _ _ _ _ _ _ _ _ _ _ _ _ _ _ _ _ _ _ _ _ _ _ _ _ _ _ _ _ _ _ _ _ _ _ _ _ _ _ _ _ _ _ _ _ _ _ _ _ _ _ _ _ _ H locs ls hR hP hD hS hl
    by_cases k2 : y = (2 : Int32)
    · subst k2
      refine lv_tableIn (off := 248) (tgt := 280) hx hb dL_law_32 (by decide) (by decide) rfl (by decide) ?_
      exact step_weather l C0 i h5 hn _ _ _ _ _ _ _ _ _ _ _ _ _ _ _ _ _ _ _ _ _ _ _ _ _ _ _ _ _ _ _ _ _ _ _ _ _ _ _ _ _ _ _ _ _ _ _ _ _ _ _ _ _ _ _ _ _ _ _ _ _ _ _ _ _ _ _ _ _ _ _ _ _ _ _ _ _ _ _ _ _ _ _ _ _ _ _ _ _ _ _ _ _ _ _ _ _ _ _ _ _ _ _ _ _ _ _ _ _ _ _ _ _ _ _ _ _ _ _ _ _ _ _ _ _ _ _ _ _ _ _ _ _ _ _ H locs ls hR hP hD hS hl
    by_cases k3 : y = (3 : Int32)
    · subst k3
      refine lv_tableIn (off := 281) (tgt := 313) hx hb dL_law_32 (by decide) (by decide) rfl (by decide) ?_
      exact step_creed l C0 i h5 hn _ _ _ _ _ _ _ _ _ _ _ _ _ _ _ _ _ _ _ _ _ _ _ _ _ _ _ _ _ _ _ _ _ _ _ _ _ _ _ _ _ _ _ _ _ _ _ _ _ _ _ _ _ _ _ _ _ _ _ _ _ _ _ _ _ _ _ _ _ _ _ _ _ _ _ _ _ _ _ _ _ _ _ _ _ _ _ _ _ _ _ _ _ _ _ _ _ _ _ _ _ _ _ _ _ _ _ _ _ _ _ _ _ _ _ _ _ _ _ _ _ _ _ _ _ _ _ _ _ _ _ _ _ _ _ H locs ls hR hP hD hS hl
    by_cases k4 : y = (4 : Int32)
    · subst k4
      refine lv_tableIn (off := 304) (tgt := 336) hx hb dL_law_32 (by decide) (by decide) rfl (by decide) ?_
      exact step_say l C0 i h5 hn _ _ _ _ _ _ _ _ _ _ _ _ _ _ _ _ _ _ _ _ _ _ _ _ _ _ _ _ _ _ _ _ _ _ _ _ _ _ _ _ _ _ _ _ _ _ _ _ _ _ _ _ _ _ _ _ _ _ _ _ _ _ _ _ _ _ _ _ _ _ _ _ _ _ _ _ _ _ _ _ _ _ _ _ _ _ _ _ _ _ _ _ _ _ _ _ _ _ _ _ _ _ _ _ _ _ _ _ _ _ _ _ _ _ _ _ _ _ _ _ _ _ _ _ _ _ _ _ _ _ _ _ _ _ _ H locs ls hR hP hD hS hl
    by_cases k5 : y = (5 : Int32)
    · subst k5
      refine lv_tableIn (off := 327) (tgt := 359) hx hb dL_law_32 (by decide) (by decide) rfl (by decide) ?_
      exact step_wipe l C0 i h5 hn _ _ _ _ _ _ _ _ _ _ _ _ _ _ _ _ _ _ _ _ _ _ _ _ _ _ _ _ _ _ _ _ _ _ _ _ _ _ _ _ _ _ _ _ _ _ _ _ _ _ _ _ _ _ _ _ _ _ _ _ _ _ _ _ _ _ _ _ _ _ _ _ _ _ _ _ _ _ _ _ _ _ _ _ _ _ _ _ _ _ _ _ _ _ _ _ _ _ _ _ _ _ _ _ _ _ _ _ _ _ _ _ _ _ _ _ _ _ _ _ _ _ _ _ _ _ _ _ _ _ _ _ _ _ _ H locs ls hR hP hD hS hl
    by_cases k6 : y = (6 : Int32)
    · subst k6
      refine lv_tableIn (off := 340) (tgt := 372) hx hb dL_law_32 (by decide) (by decide) rfl (by decide) ?_
      exact step_fault l C0 i h5 hn _ _ _ _ _ _ _ _ _ _ _ _ _ _ _ _ _ _ _ _ _ _ _ _ _ _ _ _ _ _ _ _ _ _ _ _ _ _ _ _ _ _ _ _ _ _ _ _ _ _ _ _ _ _ _ _ _ _ _ _ _ _ _ _ _ _ _ _ _ _ _ _ _ _ _ _ _ _ _ _ _ _ _ _ _ _ _ _ _ _ _ _ _ _ _ _ _ _ _ _ _ _ _ _ _ _ _ _ _ _ _ _ _ _ _ _ _ _ _ _ _ _ _ _ _ _ _ _ _ _ _ _ _ _ _ H locs ls hR hP hD hS hl
    by_cases k7 : y = (7 : Int32)
    · subst k7
      refine lv_tableIn (off := 353) (tgt := 385) hx hb dL_law_32 (by decide) (by decide) rfl (by decide) ?_
      exact step_judge l C0 i h5 hn _ _ _ _ _ _ _ _ _ _ _ _ _ _ _ _ _ _ _ _ _ _ _ _ _ _ _ _ _ _ _ _ _ _ _ _ _ _ _ _ _ _ _ _ _ _ _ _ _ _ _ _ _ _ _ _ _ _ _ _ _ _ _ _ _ _ _ _ _ _ _ _ _ _ _ _ _ _ _ _ _ _ _ _ _ _ _ _ _ _ _ _ _ _ _ _ _ _ _ _ _ _ _ _ _ _ _ _ _ _ _ _ _ _ _ _ _ _ _ _ _ _ _ _ _ _ _ _ _ _ _ _ _ _ _ H locs ls hR hP hD hS hl
    by_cases k8 : y = (8 : Int32)
    · subst k8
      refine lv_tableIn (off := 376) (tgt := 408) hx hb dL_law_32 (by decide) (by decide) rfl (by decide) ?_
      exact step_done l C0 i h5 hn _ _ _ _ _ _ _ _ _ _ _ _ _ _ _ _ _ _ _ _ _ _ _ _ _ _ _ _ _ _ _ _ _ _ _ _ _ _ _ _ _ _ _ _ _ _ _ _ _ _ _ _ _ _ _ _ _ _ _ _ _ _ _ _ _ _ _ _ _ _ _ _ _ _ _ _ _ _ _ _ _ _ _ _ _ _ _ _ _ _ _ _ _ _ _ _ _ _ _ _ _ _ _ _ _ _ _ _ _ _ _ _ _ _ _ _ _ _ _ _ _ _ _ _ _ _ _ _ _ _ _ _ _ _ _ H locs ls hR hP hD hS hl
    by_cases k9 : y = (9 : Int32)
    · subst k9
      refine lv_tableIn (off := 389) (tgt := 421) hx hb dL_law_32 (by decide) (by decide) rfl (by decide) ?_
      exact step_behind l C0 i h5 hn _ _ _ _ _ _ _ _ _ _ _ _ _ _ _ _ _ _ _ _ _ _ _ _ _ _ _ _ _ _ _ _ _ _ _ _ _ _ _ _ _ _ _ _ _ _ _ _ _ _ _ _ _ _ _ _ _ _ _ _ _ _ _ _ _ _ _ _ _ _ _ _ _ _ _ _ _ _ _ _ _ _ _ _ _ _ _ _ _ _ _ _ _ _ _ _ _ _ _ _ _ _ _ _ _ _ _ _ _ _ _ _ _ _ _ _ _ _ _ _ _ _ _ _ _ _ _ _ _ _ _ _ _ _ _ H locs ls hR hP hD hS hl
    by_cases k10 : y = (10 : Int32)
    · subst k10
      refine lv_tableIn (off := 422) (tgt := 454) hx hb dL_law_32 (by decide) (by decide) rfl (by decide) ?_
      exact step_then l C0 i h5 hn _ _ _ _ _ _ _ _ _ _ _ _ _ _ _ _ _ _ _ _ _ _ _ _ _ _ _ _ _ _ _ _ _ _ _ _ _ _ _ _ _ _ _ _ _ _ _ _ _ _ _ _ _ _ _ _ _ _ _ _ _ _ _ _ _ _ _ _ _ _ _ _ _ _ _ _ _ _ _ _ _ _ _ _ _ _ _ _ _ _ _ _ _ _ _ _ _ _ _ _ _ _ _ _ _ _ _ _ _ _ _ _ _ _ _ _ _ _ _ _ _ _ _ _ _ _ _ _ _ _ _ _ _ _ _ H locs ls hR hP hD hS hl
    by_cases k11 : y = (11 : Int32)
    · subst k11
      refine lv_tableIn (off := 445) (tgt := 477) hx hb dL_law_32 (by decide) (by decide) rfl (by decide) ?_
      exact step_agrees l C0 i h5 hn _ _ _ _ _ _ _ _ _ _ _ _ _ _ _ _ _ _ _ _ _ _ _ _ _ _ _ _ _ _ _ _ _ _ _ _ _ _ _ _ _ _ _ _ _ _ _ _ _ _ _ _ _ _ _ _ _ _ _ _ _ _ _ _ _ _ _ _ _ _ _ _ _ _ _ _ _ _ _ _ _ _ _ _ _ _ _ _ _ _ _ _ _ _ _ _ _ _ _ _ _ _ _ _ _ _ _ _ _ _ _ _ _ _ _ _ _ _ _ _ _ _ _ _ _ _ _ _ _ _ _ _ _ _ _ H locs ls hR hP hD hS hl
    by_cases k12 : y = (12 : Int32)
    · subst k12
      refine lv_tableIn (off := 468) (tgt := 500) hx hb dL_law_32 (by decide) (by decide) rfl (by decide) ?_
      exact step_soon l C0 i h5 hn _ _ _ _ _ _ _ _ _ _ _ _ _ _ _ _ _ _ _ _ _ _ _ _ _ _ _ _ _ _ _ _ _ _ _ _ _ _ _ _ _ _ _ _ _ _ _ _ _ _ _ _ _ _ _ _ _ _ _ _ _ _ _ _ _ _ _ _ _ _ _ _ _ _ _ _ _ _ _ _ _ _ _ _ _ _ _ _ _ _ _ _ _ _ _ _ _ _ _ _ _ _ _ _ _ _ _ _ _ _ _ _ _ _ _ _ _ _ _ _ _ _ _ _ _ _ _ _ _ _ _ _ _ _ _ H locs ls hR hP hD hS hl
    by_cases k13 : y = (13 : Int32)
    · subst k13
      refine lv_tableIn (off := 501) (tgt := 533) hx hb dL_law_32 (by decide) (by decide) rfl (by decide) ?_
      exact step_agenda l C0 i h5 hn _ _ _ _ _ _ _ _ _ _ _ _ _ _ _ _ _ _ _ _ _ _ _ _ _ _ _ _ _ _ _ _ _ _ _ _ _ _ _ _ _ _ _ _ _ _ _ _ _ _ _ _ _ _ _ _ _ _ _ _ _ _ _ _ _ _ _ _ _ _ _ _ _ _ _ _ _ _ _ _ _ _ _ _ _ _ _ _ _ _ _ _ _ _ _ _ _ _ _ _ _ _ _ _ _ _ _ _ _ _ _ _ _ _ _ _ _ _ _ _ _ _ _ _ _ _ _ _ _ _ _ _ _ _ _ H locs ls hR hP hD hS hl
    by_cases k14 : y = (14 : Int32)
    · subst k14
      refine lv_tableIn (off := 534) (tgt := 566) hx hb dL_law_32 (by decide) (by decide) rfl (by decide) ?_
      exact step_can l C0 i h5 hn _ _ _ _ _ _ _ _ _ _ _ _ _ _ _ _ _ _ _ _ _ _ _ _ _ _ _ _ _ _ _ _ _ _ _ _ _ _ _ _ _ _ _ _ _ _ _ _ _ _ _ _ _ _ _ _ _ _ _ _ _ _ _ _ _ _ _ _ _ _ _ _ _ _ _ _ _ _ _ _ _ _ _ _ _ _ _ _ _ _ _ _ _ _ _ _ _ _ _ _ _ _ _ _ _ _ _ _ _ _ _ _ _ _ _ _ _ _ _ _ _ _ _ _ _ _ _ _ _ _ _ _ _ _ _ H locs ls hR hP hD hS hl
    by_cases k15 : y = (15 : Int32)
    · subst k15
      refine lv_tableIn (off := 567) (tgt := 599) hx hb dL_law_32 (by decide) (by decide) rfl (by decide) ?_
      exact step_ways l C0 i h5 hn _ _ _ _ _ _ _ _ _ _ _ _ _ _ _ _ _ _ _ _ _ _ _ _ _ _ _ _ _ _ _ _ _ _ _ _ _ _ _ _ _ _ _ _ _ _ _ _ _ _ _ _ _ _ _ _ _ _ _ _ _ _ _ _ _ _ _ _ _ _ _ _ _ _ _ _ _ _ _ _ _ _ _ _ _ _ _ _ _ _ _ _ _ _ _ _ _ _ _ _ _ _ _ _ _ _ _ _ _ _ _ _ _ _ _ _ _ _ _ _ _ _ _ _ _ _ _ _ _ _ _ _ _ _ _ H locs ls hR hP hD hS hl
    by_cases k16 : y = (16 : Int32)
    · subst k16
      refine lv_tableIn (off := 600) (tgt := 632) hx hb dL_law_32 (by decide) (by decide) rfl (by decide) ?_
      exact step_seen l C0 i h5 hn _ _ _ _ _ _ _ _ _ _ _ _ _ _ _ _ _ _ _ _ _ _ _ _ _ _ _ _ _ _ _ _ _ _ _ _ _ _ _ _ _ _ _ _ _ _ _ _ _ _ _ _ _ _ _ _ _ _ _ _ _ _ _ _ _ _ _ _ _ _ _ _ _ _ _ _ _ _ _ _ _ _ _ _ _ _ _ _ _ _ _ _ _ _ _ _ _ _ _ _ _ _ _ _ _ _ _ _ _ _ _ _ _ _ _ _ _ _ _ _ _ _ _ _ _ _ _ _ _ _ _ _ _ _ _ H locs ls hR hP hD hS hl
    by_cases k17 : y = (17 : Int32)
    · subst k17
      refine lv_tableIn (off := 649) (tgt := 681) hx hb dL_law_32 (by decide) (by decide) rfl (by decide) ?_
      exact step_forget l C0 i h5 hn _ _ _ _ _ _ _ _ _ _ _ _ _ _ _ _ _ _ _ _ _ _ _ _ _ _ _ _ _ _ _ _ _ _ _ _ _ _ _ _ _ _ _ _ _ _ _ _ _ _ _ _ _ _ _ _ _ _ _ _ _ _ _ _ _ _ _ _ _ _ _ _ _ _ _ _ _ _ _ _ _ _ _ _ _ _ _ _ _ _ _ _ _ _ _ _ _ _ _ _ _ _ _ _ _ _ _ _ _ _ _ _ _ _ _ _ _ _ _ _ _ _ _ _ _ _ _ _ _ _ _ _ _ _ _ H locs ls hR hP hD hS hl
    by_cases k18 : y = (18 : Int32)
    · subst k18
      refine lv_tableIn (off := 662) (tgt := 694) hx hb dL_law_32 (by decide) (by decide) rfl (by decide) ?_
      exact step_stuck l C0 i h5 hn _ _ _ _ _ _ _ _ _ _ _ _ _ _ _ _ _ _ _ _ _ _ _ _ _ _ _ _ _ _ _ _ _ _ _ _ _ _ _ _ _ _ _ _ _ _ _ _ _ _ _ _ _ _ _ _ _ _ _ _ _ _ _ _ _ _ _ _ _ _ _ _ _ _ _ _ _ _ _ _ _ _ _ _ _ _ _ _ _ _ _ _ _ _ _ _ _ _ _ _ _ _ _ _ _ _ _ _ _ _ _ _ _ _ _ _ _ _ _ _ _ _ _ _ _ _ _ _ _ _ _ _ _ _ _ H locs ls hR hP hD hS hl
    by_cases k19 : y = (19 : Int32)
    · subst k19
      refine lv_tableIn (off := 685) (tgt := 717) hx hb dL_law_32 (by decide) (by decide) rfl (by decide) ?_
      exact step_ask l C0 i h5 hn _ _ _ _ _ _ _ _ _ _ _ _ _ _ _ _ _ _ _ _ _ _ _ _ _ _ _ _ _ _ _ _ _ _ _ _ _ _ _ _ _ _ _ _ _ _ _ _ _ _ _ _ _ _ _ _ _ _ _ _ _ _ _ _ _ _ _ _ _ _ _ _ _ _ _ _ _ _ _ _ _ _ _ _ _ _ _ _ _ _ _ _ _ _ _ _ _ _ _ _ _ _ _ _ _ _ _ _ _ _ _ _ _ _ _ _ _ _ _ _ _ _ _ _ _ _ _ _ _ _ _ _ _ _ _ H locs ls hR hP hD hS hl
    by_cases k20 : y = (20 : Int32)
    · subst k20
      refine lv_tableIn (off := 708) (tgt := 740) hx hb dL_law_32 (by decide) (by decide) rfl (by decide) ?_
      exact step_drops l C0 i h5 hn _ _ _ _ _ _ _ _ _ _ _ _ _ _ _ _ _ _ _ _ _ _ _ _ _ _ _ _ _ _ _ _ _ _ _ _ _ _ _ _ _ _ _ _ _ _ _ _ _ _ _ _ _ _ _ _ _ _ _ _ _ _ _ _ _ _ _ _ _ _ _ _ _ _ _ _ _ _ _ _ _ _ _ _ _ _ _ _ _ _ _ _ _ _ _ _ _ _ _ _ _ _ _ _ _ _ _ _ _ _ _ _ _ _ _ _ _ _ _ _ _ _ _ _ _ _ _ _ _ _ _ _ _ _ _ H locs ls hR hP hD hS hl
    by_cases k21 : y = (21 : Int32)
    · subst k21
      refine lv_tableIn (off := 741) (tgt := 773) hx hb dL_law_32 (by decide) (by decide) rfl (by decide) ?_
      exact step_everywhere l C0 i h5 hn _ _ _ _ _ _ _ _ _ _ _ _ _ _ _ _ _ _ _ _ _ _ _ _ _ _ _ _ _ _ _ _ _ _ _ _ _ _ _ _ _ _ _ _ _ _ _ _ _ _ _ _ _ _ _ _ _ _ _ _ _ _ _ _ _ _ _ _ _ _ _ _ _ _ _ _ _ _ _ _ _ _ _ _ _ _ _ _ _ _ _ _ _ _ _ _ _ _ _ _ _ _ _ _ _ _ _ _ _ _ _ _ _ _ _ _ _ _ _ _ _ _ _ _ _ _ _ _ _ _ _ _ _ _ _ H locs ls hR hP hD hS hl
    by_cases k22 : y = (22 : Int32)
    · subst k22
      refine lv_tableIn (off := 795) (tgt := 827) hx hb dL_law_32 (by decide) (by decide) rfl (by decide) ?_
      exact step_year l C0 i h5 hn _ _ _ _ _ _ _ _ _ _ _ _ _ _ _ _ _ _ _ _ _ _ _ _ _ _ _ _ _ _ _ _ _ _ _ _ _ _ _ _ _ _ _ _ _ _ _ _ _ _ _ _ _ _ _ _ _ _ _ _ _ _ _ _ _ _ _ _ _ _ _ _ _ _ _ _ _ _ _ _ _ _ _ _ _ _ _ _ _ _ _ _ _ _ _ _ _ _ _ _ _ _ _ _ _ _ _ _ _ _ _ _ _ _ _ _ _ _ _ _ _ _ _ _ _ _ _ _ _ _ _ _ _ _ _ H locs ls hR hP hD hS hl
    by_cases k23 : y = (23 : Int32)
    · subst k23
      refine lv_tableIn (off := 838) (tgt := 870) hx hb dL_law_32 (by decide) (by decide) rfl (by decide) ?_
      exact step_image l C0 i h5 hn _ _ _ _ _ _ _ _ _ _ _ _ _ _ _ _ _ _ _ _ _ _ _ _ _ _ _ _ _ _ _ _ _ _ _ _ _ _ _ _ _ _ _ _ _ _ _ _ _ _ _ _ _ _ _ _ _ _ _ _ _ _ _ _ _ _ _ _ _ _ _ _ _ _ _ _ _ _ _ _ _ _ _ _ _ _ _ _ _ _ _ _ _ _ _ _ _ _ _ _ _ _ _ _ _ _ _ _ _ _ _ _ _ _ _ _ _ _ _ _ _ _ _ _ _ _ _ _ _ _ _ _ _ _ _ H locs ls hR hP hD hS hl
    by_cases k24 : y = (24 : Int32)
    · subst k24
      refine lv_tableIn (off := 861) (tgt := 893) hx hb dL_law_32 (by decide) (by decide) rfl (by decide) ?_
      exact step_restore l C0 i h5 hn _ _ _ _ _ _ _ _ _ _ _ _ _ _ _ _ _ _ _ _ _ _ _ _ _ _ _ _ _ _ _ _ _ _ _ _ _ _ _ _ _ _ _ _ _ _ _ _ _ _ _ _ _ _ _ _ _ _ _ _ _ _ _ _ _ _ _ _ _ _ _ _ _ _ _ _ _ _ _ _ _ _ _ _ _ _ _ _ _ _ _ _ _ _ _ _ _ _ _ _ _ _ _ _ _ _ _ _ _ _ _ _ _ _ _ _ _ _ _ _ _ _ _ _ _ _ _ _ _ _ _ _ _ _ _ H locs ls hR hP hD hS hl
    by_cases k25 : y = (25 : Int32)
    · subst k25
      refine lv_tableIn (off := 884) (tgt := 916) hx hb dL_law_32 (by decide) (by decide) rfl (by decide) ?_
      exact step_told l C0 i h5 hn _ _ _ _ _ _ _ _ _ _ _ _ _ _ _ _ _ _ _ _ _ _ _ _ _ _ _ _ _ _ _ _ _ _ _ _ _ _ _ _ _ _ _ _ _ _ _ _ _ _ _ _ _ _ _ _ _ _ _ _ _ _ _ _ _ _ _ _ _ _ _ _ _ _ _ _ _ _ _ _ _ _ _ _ _ _ _ _ _ _ _ _ _ _ _ _ _ _ _ _ _ _ _ _ _ _ _ _ _ _ _ _ _ _ _ _ _ _ _ _ _ _ _ _ _ _ _ _ _ _ _ _ _ _ _ H locs ls hR hP hD hS hl
    refine lv_tableOut (tgt := 939) hx hb dL_law_32 (by have z0 := sw_toInt (n := 0) (by decide) k0; have z1 := sw_toInt (n := 1) (by decide) k1; have z2 := sw_toInt (n := 2) (by decide) k2; have z3 := sw_toInt (n := 3) (by decide) k3; have z4 := sw_toInt (n := 4) (by decide) k4; have z5 := sw_toInt (n := 5) (by decide) k5; have z6 := sw_toInt (n := 6) (by decide) k6; have z7 := sw_toInt (n := 7) (by decide) k7; have z8 := sw_toInt (n := 8) (by decide) k8; have z9 := sw_toInt (n := 9) (by decide) k9; have z10 := sw_toInt (n := 10) (by decide) k10; have z11 := sw_toInt (n := 11) (by decide) k11; have z12 := sw_toInt (n := 12) (by decide) k12; have z13 := sw_toInt (n := 13) (by decide) k13; have z14 := sw_toInt (n := 14) (by decide) k14; have z15 := sw_toInt (n := 15) (by decide) k15; have z16 := sw_toInt (n := 16) (by decide) k16; have z17 := sw_toInt (n := 17) (by decide) k17; have z18 := sw_toInt (n := 18) (by decide) k18; have z19 := sw_toInt (n := 19) (by decide) k19; have z20 := sw_toInt (n := 20) (by decide) k20; have z21 := sw_toInt (n := 21) (by decide) k21; have z22 := sw_toInt (n := 22) (by decide) k22; have z23 := sw_toInt (n := 23) (by decide) k23; have z24 := sw_toInt (n := 24) (by decide) k24; have z25 := sw_toInt (n := 25) (by decide) k25; omega) (by decide) ?_
    refine lv_iinc (v := (nI (i + 5))) (lv' := [(3, .int (nI (i + 5))), (2, .ref mo), (1, .ref x), (0, .ref b)]) hx hb dL_law_939 hl (k := 0) rfl (by exact nI_add i 5) (by decide) rfl (fun ls hl => ?_)
    refine lv_goto (tgt := 18) hx hb dL_law_942 (by decide) ?_
    exact hn _ _ _ _ _ _ _ _ _ _ _ _ _ _ _ _ _ _ _ _ _ _ _ _ _ _ _ _ _ _ _ _ _ _ _ _ _ _ _ _ _ _ _ _ _ _ _ _ _ _ _ _ _ _ _ _ _ _ _ _ _ _ _ _ _ _ _ _ _ _ _ _ _ _ _ _ _ _ _ _ _ _ _ _ _ _ _ _ _ _ _ _ _ _ _ _ _ _ _ _ _ _ _ _ _ _ _ _ _ _ _ _ _ _ _ _ _ _ _ _ _ _ _ _ _ _ _ _ _ _ _ _ _ _ _ H locs ls hR hP hD hS hl
theorem law_loop {p : Program} {e : Env} {s : State} {m : MethodId} {meth : Method} {c : Code} {below : List Frame} {b L : Nat} {xs : Nat → Int32} {D : va_G} {cI cJ cZ : ClassId} (l : Launch) (C0 : LC p s m c b L xs D cI cJ cZ) (hr : meth.sig.returnType = ret) (hlocks : meth.locks = false) : ∀ (n i : Nat), i ≤ L → L < i + n → LW p l e s m meth c below b D cI cJ cZ (lw_Z below #[Value.ref b] s) i := by
  intro n
  induction n with
  | zero => intro i h1 h2; omega
  | succ n ih => intro i h1 h2; exact law_head l C0 hr hlocks i h1 (fun h => ih (i + 5) h (by omega))
theorem join_last {A0 : Nat → Prop} {D : va_G} {w1 w1' : va_W} {q : Nat × va_E} {H H1 : Heap} (hP : va_P D vwCl (w1 ++ [q]) H) (hD : va_D A0 (w1 ++ [q])) (hk : ∀ x : Nat, x < H.size → ¬ va_A [q] H.size x → H1[x]? = H[x]?) (hF : ∀ x, va_A [q] H.size x → A0 x) (hP1 : va_P D vwCl w1' H1) (hD1 : va_D (va_A [q] H.size) w1') : va_P D vwCl (w1 ++ w1') H1 ∧ va_D A0 (w1 ++ w1') := by
  refine va_join (wc := [q]) (wr := w1) hP hD [w1.length] (List.range w1.length) (by simp) ?_ ?_ ?_ hk hF hP1 hD1
  · apply List.ext_getElem?
    intro k
    rw [List.getElem?_map, List.getElem?_map]
    rcases Nat.lt_or_ge k w1.length with h | h
    · rw [List.getElem?_range h, List.getElem?_eq_getElem h]
      simp [List.getElem?_append_left h]
    · simp [h]
  · have key : ∀ (l : List Nat), l.Nodup → va_nd l = true := by
      intro l
      induction l with
      | nil => intro _; rfl
      | cons a l ih =>
        intro hn
        rw [List.nodup_cons] at hn
        simp [va_nd, hn.1, ih hn.2]
    exact key _ List.nodup_range
  · intro i hi
    simp at hi ⊢
    omega

theorem gN_in : ∀ w ∈ gN, w ∈ lw_tbl := by decide +kernel
theorem in_L_law_X8 : ∀ w ∈ u_ws RX8 TX8 11, w ∈ wsL_law := by decide +kernel
theorem in_L_law_X9 : ∀ w ∈ u_ws RX9 TX9 19, w ∈ wsL_law := by decide +kernel
theorem hd_X8_init : yX8_init.cls ≠ "java/lang/invoke/MethodHandle" ∧ yX8_init.cls ≠ "java/lang/invoke/VarHandle" ∧ (parseMethodDescriptor yX8_init.desc).map (fun d => d.parameters.length) = some 0 := by decide +kernel
theorem hd_X9_init : yX9_init.cls ≠ "java/lang/invoke/MethodHandle" ∧ yX9_init.cls ≠ "java/lang/invoke/VarHandle" ∧ (parseMethodDescriptor yX9_init.desc).map (fun d => d.parameters.length) = some 0 := by decide +kernel
