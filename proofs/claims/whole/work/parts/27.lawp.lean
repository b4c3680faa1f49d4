/-! the law: what holds all along; a world in blocks -/
def LC (p : Program) (s : State) (m : MethodId) (c : Code) (b L : Nat) (xs : Nat → Int32) (D : va_G) (cI cJ cZ : ClassId) : Prop :=
  p.tables.exec = Jvm.exec ∧ c.code = cL_law ∧ c.maxLocals = 4 ∧ s.vm.findClass RL = some m.cls ∧ (∀ w ∈ wsL_law, w.before #[Value.ref b] s = true) ∧ va_X b L xs s s.heap ∧ b < s.heap.size ∧ GK D cI cJ cZ s ∧ L ≤ 320
theorem lg_of {x y : Int64} (h : x = y) : lg_cmp x y = 0 := by
  subst h
  unfold lg_cmp
  rw [if_neg (by rw [gt_iff_lt]; exact Int64.lt_irrefl), if_pos rfl]
theorem vp_mem {D : va_G} {cl : List vw_C} {ws : va_W} {H : Heap} : va_P D cl ws H ↔ ∀ q ∈ ws, va_at D cl q H :=
  ⟨fun h q hq => by obtain ⟨k, hk⟩ := List.mem_iff_getElem?.mp hq; exact h k q hk, fun h k q hk => h q (List.mem_of_getElem? hk)⟩
theorem vd_pw {A : Nat → Prop} {ws : va_W} (h : va_D A ws) : ws.Pairwise (fun x y => x.1 ≠ y.1) := by
  rw [List.pairwise_iff_getElem]
  intro i j hi hj hij e
  have := h.1 i j ws[i] ws[j] (List.getElem?_eq_getElem hi) (List.getElem?_eq_getElem hj) e
  omega
theorem fl_mem {bs bc : List va_W} {is : List Nat} (h : is.map (fun i => bs[i]?) = bc.map some) {w : va_W} (hw : w ∈ bc) : ∃ i, i ∈ is ∧ bs[i]? = some w := by
  obtain ⟨k, hk⟩ := List.mem_iff_getElem?.mp hw
  have h1 : (is.map (fun i => bs[i]?))[k]? = some (some w) := by rw [h, List.getElem?_map, hk]; rfl
  rw [List.getElem?_map] at h1
  cases hi : is[k]? with
  | none => rw [hi] at h1; cases h1
  | some i => rw [hi] at h1; exact ⟨i, List.mem_of_getElem? hi, Option.some.inj h1⟩
theorem fl_sub {D : va_G} {bs bc : List va_W} {is : List Nat} {H : Heap} (hP : va_P D vwCl bs.flatten H) (h : is.map (fun i => bs[i]?) = bc.map some) : va_P D vwCl bc.flatten H := by
  rw [vp_mem] at hP ⊢
  intro q hq
  obtain ⟨w, hw, hqw⟩ := List.mem_flatten.mp hq
  obtain ⟨i, -, hi⟩ := fl_mem h hw
  exact hP q (List.mem_flatten.mpr ⟨w, List.mem_of_getElem? hi, hqw⟩)
theorem fl_apart {A : Nat → Prop} {bs : List va_W} (hD : va_D A bs.flatten) {i j : Nat} {w1 w2 : va_W} (h1 : bs[i]? = some w1) (h2 : bs[j]? = some w2) (hij : i ≠ j) {q r : Nat × va_E} (hq : q ∈ w1) (hr : r ∈ w2) : q.1 ≠ r.1 := by
  have hp := (List.pairwise_flatten.mp (vd_pw hD)).2
  rw [List.pairwise_iff_getElem] at hp
  obtain ⟨hi, e1⟩ := List.getElem?_eq_some_iff.mp h1
  obtain ⟨hj, e2⟩ := List.getElem?_eq_some_iff.mp h2
  rcases Nat.lt_or_ge i j with a | a
  · exact hp i j hi hj a q (by rw [e1]; exact hq) r (by rw [e2]; exact hr)
  · exact fun e => hp j i hj hi (by omega) r (by rw [e2]; exact hr) q (by rw [e1]; exact hq) e.symm
theorem fl_addr {A : Nat → Prop} {bs bs2 : List va_W} (h : bs2.map (List.map Prod.fst) = bs.map (List.map Prod.fst)) (hD : va_D A bs.flatten) : va_D A bs2.flatten :=
  rw_addr (by rw [List.map_flatten, List.map_flatten, h]) hD
section MYL
variable {p : Program} {l : Launch} {e : Env} {R : Room} {s : State} {m : MethodId} {args : Array Value} {below : List Frame} {meth : Method} {c : Code} {H : Heap} {locs : List Loc} {cells slots : Nat} {Q : State → Prop}
variable {y : MethodName} {bytes cc : ByteArray} {maxL nL n index pc : Nat} {ret : Option FieldType} {wsw : List Cond} {rm : Room} {Ts : List Cond} {own C : String} {As rest st0 : List Value} {ls : Array Slot} {D : va_G} {cI cJ cZ : ClassId} {wc wc' : va_W} {bs bc bc' br bs2 : List va_W} {v : Value} {r : Option Value} {a b : Nat} {A0 : Nat → Prop} {H0 : Heap}
theorem sc_ld (hx : p.tables.exec = Jvm.exec) (hb : c.code = cc) {b L : Nat} {xs : Nat → Int32} (hX : va_X b L xs s H0) (hbl : b < H0.size) (hbA : ¬ A0 b) (hS : va_S A0 H0 H locs) {i : Nat} (hi : i < L) (hL : L < 2 ^ 31) (hdg : decode cc pc = .ok (.iaload, 1))
    (kk : W p l e R s m args below meth c H locs cells slots Q (F0 m (pc + 1) ls (.int (xs i) :: rest))) : W p l e R s m args below meth c H locs cells slots Q (F0 m pc ls (.int (nI i) :: .ref b :: rest)) :=
  va_sld hx hb hX hbl hbA hS (vp_in_nI hi hL) hdg (by rw [nI_clamp (Nat.lt_trans hi hL)]; exact kk)
theorem rob_V {ci N : Nat} {fs : List Value} {T : u_T} (S : CallFix p m c cc nL s args Ts own) (hK : GK D cI cJ cZ s) (hP : va_P D vwCl bs.flatten H) (hM : RO l y wsw rm (.ref b :: As) D cI cJ cZ wc v) (isC : List Nat) (hC : isC.map (fun i => bs[i]?) = bc.map some) (hwc : bc.flatten = wc) (he : wc[0]? = some (b, .inr (ci, fs))) (hcl : vwCl[ci]? = some (C, T, N)) (cw : CallW R s args own C index y bytes maxL ret wsw rm 0 0 n)
    (hn : As.length = n) (hl : ls.size = nL) (hst : st0 = As.reverse ++ .ref b :: rest) (hW : (rest.map fun v => v.category).sum ≤ 8) (hdg : decode cc pc = .ok (.invokevirtual index, 3)) (hc : cells ≤ R.cells) (hs : slots ≤ R.slots)
    (kk : W p l e R s m args below meth c H locs cells slots Q (F0 m (pc + 3) ls (v :: rest))) : W p l e R s m args below meth c H locs cells slots Q (F0 m pc ls st0) := by
  have hPc : va_P D vwCl wc H := by rw [← hwc]; exact fl_sub hP hC
  exact ro_go (va_runV S hM cw ⟨ro_blind, va_recv hK.1 hPc hcl he, fun U hU hW => ⟨rfl, by rw [hU]; exact hPc, gk_warm hW hK⟩⟩ rfl hn hl hst (lv_room (pc := pc) (ls := ls) (rest := st0) hW) hdg ⟨hc, hs⟩) kk
theorem rwb_V {ci N : Nat} {fs : List Value} {T : u_T} (S : CallFix p m c cc nL s args Ts own) (hK : GK D cI cJ cZ s) (hP : va_P D vwCl bs.flatten H) (hD : va_D A0 bs.flatten) (hS : va_S A0 H0 H locs) (hM : RW l y wsw rm (.ref b :: As) D cI cJ cZ wc r wc') (isC isR isN : List Nat)
    (hC : isC.map (fun i => bs[i]?) = bc.map some) (hnd : isC.Pairwise (fun u v => u ≠ v)) (hwc : bc.flatten = wc) (he : wc[0]? = some (b, .inr (ci, fs))) (hcl : vwCl[ci]? = some (C, T, N)) (hR : isR.map (fun i => bs[i]?) = br.map some) (hdis : ∀ i ∈ isR, i ∉ isC) (hwc' : bc'.flatten = wc') (hN : isN.map (fun i => (br ++ bc')[i]?) = bs2.map some) (hA : bs2.map (List.map Prod.fst) = bs.map (List.map Prod.fst)) {st1 : List Value} (h1 : r.toList ++ rest = st1)
    (cw : CallW R s args own C index y bytes maxL ret wsw rm 0 0 n)
    (hn : As.length = n) (hl : ls.size = nL) (hst : st0 = As.reverse ++ .ref b :: rest) (hW : (rest.map fun v => v.category).sum ≤ 8) (hdg : decode cc pc = .ok (.invokevirtual index, 3)) (hc : cells ≤ R.cells) (hs : slots ≤ R.slots)
    (kk : ∀ (H1 : Heap) (locs1 : List Loc), va_P D vwCl bs2.flatten H1 → va_D A0 bs2.flatten → va_S A0 H0 H1 locs1 → W p l e R s m args below meth c H1 locs1 cells slots Q (F0 m (pc + 3) ls st1)) : W p l e R s m args below meth c H locs cells slots Q (F0 m pc ls st0) := by
  have hPc : va_P D vwCl wc H := by rw [← hwc]; exact fl_sub hP hC
  have hsubm : ∀ q ∈ wc, q ∈ bs.flatten := by
    intro q hq
    rw [← hwc] at hq
    obtain ⟨w, hw, hqw⟩ := List.mem_flatten.mp hq
    obtain ⟨i, -, hi⟩ := fl_mem hC hw
    exact List.mem_flatten.mpr ⟨w, List.mem_of_getElem? hi, hqw⟩
  have hDc : va_D (fun _ => True) wc := by
    refine ⟨fun i j x y hx hy hxy => ?_, fun _ _ _ => trivial⟩
    have hpw : wc.Pairwise (fun x y => x.1 ≠ y.1) := by
      rw [← hwc, List.pairwise_flatten]
      have hp := List.pairwise_flatten.mp (vd_pw hD)
      refine ⟨fun w hw => ?_, ?_⟩
      · obtain ⟨i, -, hi⟩ := fl_mem hC hw
        exact hp.1 w (List.mem_of_getElem? hi)
      · rw [List.pairwise_iff_getElem]
        intro u v hu hv huv q hq t ht
        obtain ⟨iu, e1⟩ : ∃ iu, isC[u]? = some iu ∧ bs[iu]? = some bc[u] := by
          have h1 : (isC.map (fun i => bs[i]?))[u]? = some (some bc[u]) := by rw [hC, List.getElem?_map, List.getElem?_eq_getElem hu]; rfl
          rw [List.getElem?_map] at h1
          cases hi : isC[u]? with
          | none => rw [hi] at h1; cases h1
          | some i => rw [hi] at h1; exact ⟨i, rfl, Option.some.inj h1⟩
        obtain ⟨iv, e2⟩ : ∃ iv, isC[v]? = some iv ∧ bs[iv]? = some bc[v] := by
          have h1 : (isC.map (fun i => bs[i]?))[v]? = some (some bc[v]) := by rw [hC, List.getElem?_map, List.getElem?_eq_getElem hv]; rfl
          rw [List.getElem?_map] at h1
          cases hi : isC[v]? with
          | none => rw [hi] at h1; cases h1
          | some i => rw [hi] at h1; exact ⟨i, rfl, Option.some.inj h1⟩
        obtain ⟨hiu, d1⟩ := List.getElem?_eq_some_iff.mp e1.1
        obtain ⟨hiv, d2⟩ := List.getElem?_eq_some_iff.mp e2.1
        have hne : iu ≠ iv := by
          rw [List.pairwise_iff_getElem] at hnd
          have := hnd u v hiu hiv huv
          rw [d1, d2] at this
          exact this
        exact fl_apart hD e1.2 e2.2 hne hq ht
    rw [List.pairwise_iff_getElem] at hpw
    obtain ⟨hi, e1⟩ := List.getElem?_eq_some_iff.mp hx
    obtain ⟨hj, e2⟩ := List.getElem?_eq_some_iff.mp hy
    rcases Nat.lt_trichotomy i j with a | a | a
    · exact absurd (by rw [e1, e2]; exact hxy) (hpw i j hi hj a)
    · exact a
    · exact absurd (by rw [e1, e2]; exact hxy.symm) (hpw j i hj hi a)
  intro T hT X
  obtain ⟨w, st₀, t, T', L, h0, X', hL, e1, -, ⟨hv, hp1, hz, hk⟩, st⟩ := va_runV S hM cw ⟨rw_blind, va_recv hK.1 hPc hcl he, fun U hU hW => ⟨rfl, by rw [hU]; exact hPc, gk_warm hW hK, hDc⟩⟩ (rest := rest) (locs := locs) rfl hn hl hst (lv_room (pc := pc) (ls := ls) (rest := st0) hW) hdg ⟨hc, hs⟩ T hT X
  cases hv
  subst h1
  rw [h0] at hz hk
  have inA : ∀ q, va_In wc q → A0 q := by
    intro q h
    obtain ⟨k, e', h⟩ := h
    obtain ⟨k2, hk2⟩ := List.mem_iff_getElem?.mp (hsubm _ (List.mem_of_getElem? h))
    exact hD.2 k2 (q, e') hk2
  have hP1 : va_P D vwCl bs2.flatten T'.heap := by
    rw [e1]
    rw [vp_mem]
    intro q hq
    obtain ⟨w, hw, hqw⟩ := List.mem_flatten.mp hq
    obtain ⟨i, -, hi⟩ := fl_mem hN hw
    rcases List.mem_append.mp (List.mem_of_getElem? hi) with hw | hw
    · obtain ⟨i2, hi2, hb2⟩ := fl_mem hR hw
      have hat := vp_mem.mp hP q (List.mem_flatten.mpr ⟨w, List.mem_of_getElem? hb2, hqw⟩)
      refine hat.kept (hk q.1 hat.lt (fun h => ?_))
      obtain ⟨k2, e', h⟩ := h
      have hm := List.mem_of_getElem? h
      rw [← hwc] at hm
      obtain ⟨w2, hw2, hq2⟩ := List.mem_flatten.mp hm
      obtain ⟨i3, hi3, hb3⟩ := fl_mem hC hw2
      exact fl_apart hD hb2 hb3 (fun e => hdis i2 hi2 (by rw [e]; exact hi3)) hqw hq2 rfl
    · exact vp_mem.mp hp1 q (by rw [← hwc']; exact List.mem_flatten.mpr ⟨w, hw, hqw⟩)
  obtain ⟨t2, a1, b1⟩ := kk T'.heap (locs ++ L) hP1 (fl_addr hA hD)
    ⟨Nat.le_trans hS.1 (by rw [e1]; exact hz), fun q h1 h2 => by rw [e1, hk q (Nat.lt_of_lt_of_le h1 hS.1) (fun z => h2 (inA q z))]; exact hS.2.1 q h1 h2, fun q hq => by
      rcases List.mem_append.mp hq with h | h
      · exact hS.2.2 q h
      · exact inA _ (hL q h)⟩ T' rfl X'
  exact ⟨t2, st t2 a1, b1⟩
end MYL

def bX (cI cJ cZ : ClassId) (a0 : Nat) (a1 : Nat) (a2 : Nat) (a3 : Nat) (a4 : Nat) (a5 : Nat) (a6 : Nat) (a7 : Nat) (a8 : Nat) (a9 : Nat) (a10 : Nat) (v0 : Int32) : va_W := [(a0, .inr (8, [.ref a1, .ref a2, .ref a3, .int v0, .ref a4, .ref a5, .ref a6, .ref a7, .ref a8, .ref a9, .ref a10]))]
def bW (cI cJ cZ : ClassId) (a0 : Nat) (a1 : Nat) (a2 : Nat) (a3 : Nat) (a4 : Nat) (a5 : Nat) (a6 : Nat) (v0 : Int32) (v1 : Int32) (v2 : Int32) (v3 : Int32) (v4 : Int32) (v5 : Int32) (v6 : Int32) (v7 : Int32) (v8 : Int32) (v9 : Nat → Int32) (v10 : Nat → Int32) (v11 : Nat → Int32) : va_W := [(a0, .inr (7, [.ref a1, .ref a2, .ref a3, .int v0, .int v1, .int v2, .int v3, .int v4, .int v5, .int v6, .int v7, .int v8])), (a4, .inl (cI, 7, .inl v9)), (a5, .inl (cI, 7, .inl v10)), (a6, .inl (cI, 7, .inl v11))]
def bPD (cI cJ cZ : ClassId) (a0 : Nat) (a1 : Nat) (a2 : Nat) (a3 : Nat) (a4 : Nat) (a5 : Nat) (a6 : Nat) (a7 : Nat) (a8 : Nat) (v0 : Int32) (v1 : Int32) (v2 : Nat → Int32) (v3 : Nat → Int32) (v4 : Nat → Int32) (v5 : Nat → Int32) : va_W := [(a0, .inr (3, [.ref a1, .int v0, .ref a2, .ref a3, .ref a4, .int v1])), (a5, .inl (cI, 60, .inl v2)), (a6, .inl (cI, 60, .inl v3)), (a7, .inl (cI, 60, .inl v4)), (a8, .inl (cI, 60, .inl v5))]
def bWK (cI cJ cZ : ClassId) (a0 : Nat) (a1 : Nat) (v0 : Int32) (v1 : Int32) (v2 : Int32) : va_W := [(a0, .inr (6, [.ref a1, .int v0, .int v1, .int v2]))]
def bAG (cI cJ cZ : ClassId) (a0 : Nat) (a1 : Nat) (a2 : Nat) (a3 : Nat) (a4 : Nat) (v0 : Nat → Int32) (v1 : Nat → Int32) : va_W := [(a0, .inr (0, [.ref a1, .ref a2])), (a3, .inl (cI, 8, .inl v0)), (a4, .inl (cI, 8, .inl v1))]
def bPP (cI cJ cZ : ClassId) (a0 : Nat) (a1 : Nat) (a2 : Nat) (v0 : Nat → Int32) : va_W := [(a0, .inr (4, [.ref a1])), (a2, .inl (cI, 8, .inl v0))]
def bGS (cI cJ cZ : ClassId) (a0 : Nat) (a1 : Nat) (a2 : Nat) (v0 : Int32) (v1 : Int32) (v2 : Nat → Int32) : va_W := [(a0, .inr (2, [.ref a1, .int v0, .int v1])), (a2, .inl (cI, 8, .inl v2))]
def bSQ (cI cJ cZ : ClassId) (a0 : Nat) (a1 : Nat) (a2 : Nat) (v0 : Int32) (v1 : Nat → Int32) : va_W := [(a0, .inr (5, [.ref a1, .int v0])), (a2, .inl (cI, 201, .inl v1))]
def bCH (cI cJ cZ : ClassId) (a0 : Nat) (a1 : Nat) (a2 : Nat) (v0 : Int64) (v1 : Int64) (v2 : Nat → Int64) : va_W := [(a0, .inr (1, [.ref a1, .long v0, .long v1])), (a2, .inl (cJ, 9, .inr (.inl v2)))]
def bMO (cI cJ cZ : ClassId) (a0 : Nat) (a1 : Nat) (a2 : Nat) (a3 : Nat) (a4 : Nat) (a5 : Nat) (a6 : Nat) (a7 : Nat) (a8 : Nat) (a9 : Nat) (a10 : Nat) (a11 : Nat) (a12 : Nat) (a13 : Nat) (a14 : Nat) (a15 : Nat) (a16 : Nat) (a17 : Nat) (a18 : Nat) (a19 : Nat) (a20 : Nat) (a21 : Nat) (a22 : Nat) (a23 : Nat) (a24 : Nat) (v0 : Int32) (v1 : Int32) (v2 : Int32) (v3 : Int32) (v4 : Int32) (v5 : Int32) (v6 : Int32) (v7 : Nat → Int32) (v8 : Nat → Int32) (v9 : Nat → Int32) (v10 : Nat → Int32) (v11 : Nat → Int32) (v12 : Nat → Int32) (v13 : Nat → Int32) (v14 : Nat → Int32) (v15 : Nat → Int32) (v16 : Nat → Int64) (v17 : Nat → Int32) (v18 : Nat → Int32) : va_W := [(a0, .inr (9, [.ref a1, .ref a2, .int v0, .ref a3, .int v1, .ref a4, .int v2, .ref a5, .int v3, .int v4, .int v5, .int v6, .ref a6, .ref a7, .ref a8, .ref a9, .ref a10, .ref a11, .ref a12])), (a13, .inl (cI, 19, .inl v7)), (a14, .inl (cI, 19, .inl v8)), (a15, .inl (cI, 7, .inl v9)), (a16, .inl (cI, 16, .inl v10)), (a17, .inl (cI, 60, .inl v11)), (a18, .inl (cI, 256, .inl v12)), (a19, .inl (cI, 128, .inl v13)), (a20, .inl (cI, 128, .inl v14)), (a21, .inl (cZ, 201, .inl v15)), (a22, .inl (cJ, 9, .inr (.inl v16))), (a23, .inl (cI, 100, .inl v17)), (a24, .inl (cZ, 2, .inl v18))]
