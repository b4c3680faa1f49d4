/-! my own words: what holds of the tables all along; contracts that only read (RO), contracts that write in place (RW) -/
def gN : List Cond := [.methodLinkNest RX8 9 yX7_init "StuckVanes", .fieldLinkNest RX0 55 "StuckVanes$World" "points" "[I" "StuckVanes", .fieldLinkNest RX8 90 "StuckVanes$World" "near" "[I" "StuckVanes", .fieldLinkNest RX4 36 "StuckVanes$World" "near" "[I" "StuckVanes", .fieldLinkNest RX4 19 "StuckVanes$World" "there" "I" "StuckVanes", .fieldLinkNest RX8 252 "StuckVanes$World" "there" "I" "StuckVanes", .fieldLinkNest RX8 108 "StuckVanes$World" "held" "I" "StuckVanes", .fieldLinkNest RX6 66 "StuckVanes$World" "held" "I" "StuckVanes", .fieldLinkNest RX8 101 "StuckVanes$World" "wind" "I" "StuckVanes", .fieldLinkNest RX8 105 "StuckVanes$World" "oil" "I" "StuckVanes", .fieldLinkNest RX8 141 "StuckVanes$World" "hour" "I" "StuckVanes", .fieldLinkNest RX8 190 "StuckVanes$World" "sights" "I" "StuckVanes", .fieldLinkNest RX2 40 "StuckVanes$World" "agreedTo" "I" "StuckVanes", .fieldLinkNest RX8 197 "StuckVanes$World" "agreedTo" "I" "StuckVanes", .fieldLinkNest RX2 45 "StuckVanes$World" "refused" "I" "StuckVanes", .fieldLinkNest RX8 200 "StuckVanes$World" "refused" "I" "StuckVanes", .methodLinkNest RX8 24 yX3_init "StuckVanes", .fieldLinkNest RX8 114 "StuckVanes$Pad" "length" "I" "StuckVanes", .fieldLinkNest RX6 32 "StuckVanes$Pad" "kinds" "[I" "StuckVanes", .fieldLinkNest RX6 36 "StuckVanes$Pad" "parishes" "[I" "StuckVanes", .fieldLinkNest RX6 39 "StuckVanes$Pad" "numbers" "[I" "StuckVanes", .fieldLinkNest RX6 28 "StuckVanes$Pad" "acts" "I" "StuckVanes", .methodLinkNest RX8 31 yX6_init "StuckVanes", .methodLinkNest RX6 11 yX7_init "StuckVanes", .fieldLinkNest RX8 127 "StuckVanes$Weeks" "world" "LStuckVanes$World;" "StuckVanes", .fieldLinkNest RX8 124 "StuckVanes$Weeks" "acts" "I" "StuckVanes", .fieldLinkNest RX8 147 "StuckVanes$Weeks" "heldAct" "I" "StuckVanes", .fieldLinkNest RX8 150 "StuckVanes$Weeks" "heldThing" "I" "StuckVanes", .methodLinkNest RX8 38 yX0_init "StuckVanes", .methodLinkNest RX8 45 yX4_init "StuckVanes", .methodLinkNest RX8 52 yX2_init "StuckVanes", .fieldLinkNest RX8 210 "StuckVanes$Guesses" "thing" "I" "StuckVanes", .fieldLinkNest RX8 213 "StuckVanes$Guesses" "left" "I" "StuckVanes", .methodLinkNest RX8 59 yX5_init "StuckVanes", .methodLinkNest RX8 66 yX1_init "StuckVanes", .methodLinkNest RX7 49 yX8_isParish "StuckVanes", .methodLinkNest RX7 53 yX8_withBit "StuckVanes", .methodLinkNest RX3 46 yX8_isWay "StuckVanes", .methodLinkNest RX3 43 yX8_isParish "StuckVanes", .methodLinkNest RX7 66 yX8_hasBit "StuckVanes", .methodLinkNest RX7 70 yX8_apart "StuckVanes", .methodLinkNest RX0 24 yX8_isWay "StuckVanes", .methodLinkNest RX0 28 yX8_withBit "StuckVanes", .methodLinkNest RX0 58 yX8_apart "StuckVanes", .methodLinkNest RX0 46 yX8_hasBit "StuckVanes", .methodLinkNest RX4 29 yX8_isParish "StuckVanes", .methodLinkNest RX4 39 yX8_withBit "StuckVanes", .methodLinkNest RX2 48 yX8_withBit "StuckVanes", .methodLinkNest RX5 15 yX8_isUpTo "StuckVanes"]

def isNestW (w : Cond) : Bool := match w with
  | .fieldLinkNest _ _ _ _ _ _ => true
  | .methodLinkNest _ _ _ _ => true
  | _ => false
theorem gN_nest : ∀ w ∈ gN, isNestW w = true := by decide +kernel
theorem nestW_tab {w : Cond} (hw : isNestW w = true) : w.onTables = true := by
  cases w with
  | fieldLinkNest a i b n d h => rfl
  | methodLinkNest a i x h => rfl
  | _ => simp [isNestW] at hw
theorem nestW_warm {w : Cond} (hw : isNestW w = true) {s U : State} (hW : s.WarmedH U.vm) (hZ : va_Nw w s) : va_Nw w U := by
  cases w with
  | fieldLinkNest a i b n d h => exact va_Nw.warmF hW hZ
  | methodLinkNest a i x h => exact va_Nw.warmM hW hZ
  | _ => simp [isNestW] at hw
def GK (D : va_G) (cI cJ cZ : ClassId) (U : State) : Prop := va_K D vwCl [(cI, .int), (cJ, .long), (cZ, .boolean)] U ∧ ∀ w ∈ gN, va_Nw w U
theorem gk_warm {D : va_G} {cI cJ cZ : ClassId} {s U : State} (hW : s.WarmedH U.vm) (h : GK D cI cJ cZ s) : GK D cI cJ cZ U :=
  ⟨va_K.moved hW.alike h.1, fun w hw => nestW_warm (gN_nest w hw) hW (h.2 w hw)⟩
theorem gk_calling {D : va_G} {cI cJ cZ : ClassId} {U : State} {g : JFrame} {mk : MethodId} {a : Array Value} (h : GK D cI cJ cZ U) : GK D cI cJ cZ (U.calling g mk a) :=
  ⟨va_K.moved (u := U) (U := U.calling g mk a) (Vm.Alike.refl U.vm) h.1, fun w hw => va_Nw.same (u := U) (U := U.calling g mk a) (nestW_tab (gN_nest w hw)) rfl (h.2 w hw)⟩
def ro_Q (v : Value) : Array Value → State → Outcome → State → Prop := fun _ st o t => o = .returned (some v) ∧ t.heap = st.heap
abbrev RO (l : Launch) (y : MethodName) (wsw : List Cond) (rm : Room) (av : List Value) (D : va_G) (cI cJ cZ : ClassId) (ws : va_W) (v : Value) : Prop :=
  Met l y wsw rm (va_Pc av (fun U => va_P D vwCl ws U.heap ∧ GK D cI cJ cZ U)) (ro_Q v) 0 0 (fun _ => False)
def va_In (ws : va_W) : Nat → Prop := fun q => ∃ (k : Nat) (e : va_E), ws[k]? = some (q, e)
def rw_Q (D : va_G) (o : Option Value) (ws ws' : va_W) : Array Value → State → Outcome → State → Prop := fun _ st oc t => oc = .returned o ∧ va_P D vwCl ws' t.heap ∧ va_F (va_In ws) st t
abbrev RW (l : Launch) (y : MethodName) (wsw : List Cond) (rm : Room) (av : List Value) (D : va_G) (cI cJ cZ : ClassId) (ws : va_W) (r : Option Value) (ws' : va_W) : Prop :=
  Met l y wsw rm (va_Pc av (fun U => va_P D vwCl ws U.heap ∧ GK D cI cJ cZ U ∧ va_D (fun _ => True) ws)) (rw_Q D r ws ws') 0 0 (va_In ws)
theorem ro_blind {av : List Value} {D : va_G} {cI cJ cZ : ClassId} {ws : va_W} : FrameBlind (va_Pc av (fun U => va_P D vwCl ws U.heap ∧ GK D cI cJ cZ U)) :=
  fun _ _ _ _ q => ⟨q.1, q.2.1, gk_calling q.2.2⟩
theorem rw_blind {av : List Value} {D : va_G} {cI cJ cZ : ClassId} {ws : va_W} : FrameBlind (va_Pc av (fun U => va_P D vwCl ws U.heap ∧ GK D cI cJ cZ U ∧ va_D (fun _ => True) ws)) :=
  fun _ _ _ _ q => ⟨q.1, q.2.1, gk_calling q.2.2.1, q.2.2.2⟩
theorem rw_addr {A : Nat → Prop} {ws ws2 : va_W} (h : ws2.map Prod.fst = ws.map Prod.fst) (hD : va_D A ws) : va_D A ws2 := by
  have key : ∀ (k : Nat) (q : Nat × va_E), ws2[k]? = some q → ∃ q' : Nat × va_E, ws[k]? = some q' ∧ q'.1 = q.1 := by
    intro k q hq
    have h1 : (ws2.map Prod.fst)[k]? = some q.1 := by rw [List.getElem?_map, hq]; rfl
    rw [h, List.getElem?_map] at h1
    cases hk : ws[k]? with
    | none => rw [hk] at h1; cases h1
    | some q' => rw [hk] at h1; exact ⟨q', rfl, Option.some.inj h1⟩
  refine ⟨fun i j x y hi hj hxy => ?_, fun k q hk => ?_⟩
  · obtain ⟨x', a1, a2⟩ := key i x hi
    obtain ⟨y', b1, b2⟩ := key j y hj
    exact hD.1 i j x' y' a1 b1 (by rw [a2, b2, hxy])
  · obtain ⟨q', a1, a2⟩ := key k q hk
    rw [← a2]
    exact hD.2 k q' a1
theorem z01 {v : Int32} (h : v = 0 ∨ v = 1) : narrow .boolean (.int v) = .int v := by rcases h with rfl | rfl <;> rfl
theorem nI_cl {n : Nat} (h : n < 2 ^ 31) : (nI n).toNatClampNeg = n := nI_clamp h
theorem cle_t {x y : Int32} {a b : Nat} (hx : x = nI a) (hy : y = nI b) (h : a ≤ b) (hb : b < 2 ^ 31) : x ≤ y := by subst hx; subst hy; exact nI_le h hb
theorem cle_f {x y : Int32} {a b : Nat} (hx : x = nI a) (hy : y = nI b) (h : b < a) (hb : a < 2 ^ 31) : ¬ x ≤ y := by subst hx; subst hy; exact nI_ge h hb
theorem clt_t {x y : Int32} {a b : Nat} (hx : x = nI a) (hy : y = nI b) (h : a < b) (hb : b < 2 ^ 31) : x < y := by subst hx; subst hy; exact nI_lt h hb
theorem clt_f {x y : Int32} {a b : Nat} (hx : x = nI a) (hy : y = nI b) (h : b ≤ a) (hb : a < 2 ^ 31) : ¬ x < y := by subst hx; subst hy; exact nI_nlt h hb
theorem ceq_t {x y : Int32} {a b : Nat} (hx : x = nI a) (hy : y = nI b) (h : a = b) : x = y := by subst hx; subst hy; rw [h]
theorem ceq_f {x y : Int32} {a b : Nat} (hx : x = nI a) (hy : y = nI b) (h : a ≠ b) (ha : a < 2 ^ 31) (hb : b < 2 ^ 31) : ¬ x = y := by subst hx; subst hy; rw [nI_eq ha hb]; exact h
theorem sw_toInt {x : Int32} {n : Nat} (hn : n < 2 ^ 31) (h : ¬ x = nI n) : x.toInt ≠ (n : Int) := by
  intro e
  apply h
  rw [← Int32.toInt_inj, e, nI_toInt hn]
section MYW
variable {p : Program} {l : Launch} {e : Env} {R : Room} {s : State} {m : MethodId} {args : Array Value} {below : List Frame} {meth : Method} {c : Code} {H : Heap} {locs : List Loc} {cells slots : Nat} {Q : State → Prop}
variable {y : MethodName} {bytes cc : ByteArray} {maxL nL n index pc : Nat} {ret : Option FieldType} {wsw wsw' : List Cond} {rm : Room} {Ts : List Cond} {own C host : String} {As rest st0 av : List Value} {ls : Array Slot} {D : va_G} {cI cJ cZ : ClassId} {ws ws' wc wc' wr ws2 : va_W} {v : Value} {r : Option Value} {a b : Nat}
theorem ro_go {aa : Array Value} (hr : va_Run p l e R s m args below meth c H locs cells slots 0 0 (F0 m pc ls st0) rest (ro_Q v aa) (fun _ => False))
    (kk : W p l e R s m args below meth c H locs cells slots Q (F0 m (pc + 3) ls (v :: rest))) : W p l e R s m args below meth c H locs cells slots Q (F0 m pc ls st0) := by
  intro T hT X
  obtain ⟨w, st₀, t, T', L, h0, X', hL, e1, -, ⟨hv, hh⟩, st⟩ := hr T hT X
  cases hv
  obtain ⟨t2, a1, b1⟩ := kk T' (by rw [e1, hh, h0]) (Stand.forget X' (fun q h => (hL q h).elim))
  exact ⟨t2, st t2 a1, b1⟩
theorem ro_S (S : CallFix p m c cc nL s args Ts own) (hK : GK D cI cJ cZ s) (hM : RO l y wsw rm As D cI cJ cZ wc v) (hP : va_P D vwCl wc H) (cw : CallB R s args own index y bytes maxL ret wsw rm 0 0 n ∧ (Cond.static y).before args s = true)
    (hn : As.length = n) (hl : ls.size = nL) (hst : st0 = As.reverse ++ rest) (hW : (rest.map fun v => v.category).sum ≤ 8) (hdg : decode cc pc = .ok (.invokestatic index, 3)) (hc : cells ≤ R.cells) (hs : slots ≤ R.slots)
    (kk : W p l e R s m args below meth c H locs cells slots Q (F0 m (pc + 3) ls (v :: rest))) : W p l e R s m args below meth c H locs cells slots Q (F0 m pc ls st0) :=
  ro_go (va_runS S hM cw ⟨ro_blind, fun U hU hW => ⟨rfl, by rw [hU]; exact hP, gk_warm hW hK⟩⟩ rfl hn hl hst (lv_room (pc := pc) (ls := ls) (rest := st0) hW) hdg ⟨hc, hs⟩) kk
theorem ro_SN (S : CallFix p m c cc nL s args Ts own) (hK : GK D cI cJ cZ s) (hM : RO l y wsw rm As D cI cJ cZ wc v) (hP : va_P D vwCl wc H) (cw : va_CN R s args own index y host bytes maxL ret wsw rm 0 0 n) (hst' : (Cond.static y).before args s = true)
    (hn : As.length = n) (hl : ls.size = nL) (hst : st0 = As.reverse ++ rest) (hW : (rest.map fun v => v.category).sum ≤ 8) (hdg : decode cc pc = .ok (.invokestatic index, 3)) (hc : cells ≤ R.cells) (hs : slots ≤ R.slots)
    (kk : W p l e R s m args below meth c H locs cells slots Q (F0 m (pc + 3) ls (v :: rest))) : W p l e R s m args below meth c H locs cells slots Q (F0 m pc ls st0) :=
  ro_go (va_runSN S hM ⟨cw, hst', trivial⟩ ⟨ro_blind, fun U hU hW => ⟨rfl, by rw [hU]; exact hP, gk_warm hW hK⟩⟩ rfl hn hl hst (lv_room (pc := pc) (ls := ls) (rest := st0) hW) hdg ⟨hc, hs⟩) kk
theorem ro_V {ci N : Nat} {fs : List Value} {T : u_T} (S : CallFix p m c cc nL s args Ts own) (hK : GK D cI cJ cZ s) (hM : RO l y wsw rm (.ref b :: As) D cI cJ cZ wc v) (hPw : va_P D vwCl ws H) (q0 : Nat) (he : ws[q0]? = some (b, .inr (ci, fs))) (hcl : vwCl[ci]? = some (C, T, N)) (hP : va_P D vwCl wc H) (cw : CallW R s args own C index y bytes maxL ret wsw rm 0 0 n)
    (hn : As.length = n) (hl : ls.size = nL) (hst : st0 = As.reverse ++ .ref b :: rest) (hW : (rest.map fun v => v.category).sum ≤ 8) (hdg : decode cc pc = .ok (.invokevirtual index, 3)) (hc : cells ≤ R.cells) (hs : slots ≤ R.slots)
    (kk : W p l e R s m args below meth c H locs cells slots Q (F0 m (pc + 3) ls (v :: rest))) : W p l e R s m args below meth c H locs cells slots Q (F0 m pc ls st0) :=
  ro_go (va_runV S hM cw ⟨ro_blind, va_recv hK.1 hPw hcl he, fun U hU hW => ⟨rfl, by rw [hU]; exact hP, gk_warm hW hK⟩⟩ rfl hn hl hst (lv_room (pc := pc) (ls := ls) (rest := st0) hW) hdg ⟨hc, hs⟩) kk
theorem rw_go {A0 : Nat → Prop} {H0 : Heap} {aa : Array Value} (hr : va_Run p l e R s m args below meth c H locs cells slots 0 0 (F0 m pc ls st0) rest (rw_Q D r wc wc' aa) (va_In wc)) (hP : va_P D vwCl ws H) (hD : va_D A0 ws) (hS : va_S A0 H0 H locs) (isC isR isN : List Nat)
    (hC : isC.map (fun i => ws[i]?) = wc.map some) (hR : isR.map (fun i => ws[i]?) = wr.map some) (hdis : ∀ i ∈ isR, i ∉ isC) (hN : isN.filterMap (fun i => (wr ++ wc')[i]?) = ws2) (hA : ws2.map Prod.fst = ws.map Prod.fst) {st1 : List Value} (h1 : r.toList ++ rest = st1)
    (kk : ∀ (H1 : Heap) (locs1 : List Loc), va_P D vwCl ws2 H1 → va_D A0 ws2 → va_S A0 H0 H1 locs1 → W p l e R s m args below meth c H1 locs1 cells slots Q (F0 m (pc + 3) ls st1)) : W p l e R s m args below meth c H locs cells slots Q (F0 m pc ls st0) := by
  intro T hT X
  obtain ⟨w, st₀, t, T', L, h0, X', hL, e1, -, ⟨hv, hp1, hz, hk⟩, st⟩ := hr T hT X
  cases hv
  subst h1
  rw [h0] at hz hk
  have at' : ∀ {is : List Nat} {w : va_W}, is.map (fun i => ws[i]?) = w.map some → ∀ (k : Nat) (q : Nat × va_E), w[k]? = some q → ∃ i, is[k]? = some i ∧ ws[i]? = some q := by
    intro is w hs k q hq
    have h1 : (is.map (fun i => ws[i]?))[k]? = some (some q) := by rw [hs, List.getElem?_map, hq]; rfl
    rw [List.getElem?_map] at h1
    cases hi : is[k]? with
    | none => rw [hi] at h1; cases h1
    | some i => rw [hi] at h1; exact ⟨i, rfl, Option.some.inj h1⟩
  have inA : ∀ q, va_In wc q → A0 q := by
    intro q h
    obtain ⟨k, e', h⟩ := h
    obtain ⟨i, -, h2⟩ := at' hC k (q, e') h
    exact hD.2 i (q, e') h2
  have hP1 : va_P D vwCl ws2 T'.heap := by
    rw [e1]
    refine va_P.sub (va_P.app (fun k q hq => ?_) hp1) isN hN
    obtain ⟨i, h1, h2⟩ := at' hR k q hq
    have hl := (hP i q h2).lt
    refine (hP i q h2).kept (hk q.1 hl (fun h => ?_))
    obtain ⟨k2, e', h⟩ := h
    obtain ⟨j, h3, h4⟩ := at' hC k2 (q.1, e') h
    have hij := hD.1 i j q (q.1, e') h2 h4 rfl
    subst hij
    exact hdis i (List.mem_of_getElem? h1) (List.mem_of_getElem? h3)
  obtain ⟨t2, a1, b1⟩ := kk T'.heap (locs ++ L) hP1 (rw_addr hA hD)
    ⟨Nat.le_trans hS.1 (by rw [e1]; exact hz), fun q h1 h2 => by rw [e1, hk q (Nat.lt_of_lt_of_le h1 hS.1) (fun z => h2 (inA q z))]; exact hS.2.1 q h1 h2, fun q hq => by
      rcases List.mem_append.mp hq with h | h
      · exact hS.2.2 q h
      · exact inA _ (hL q h)⟩ T' rfl X'
  exact ⟨t2, st t2 a1, b1⟩
theorem rw_Dtrue {A0 : Nat → Prop} (hD : va_D A0 ws) (isC : List Nat) (hn : va_nd isC = true) (hC : isC.map (fun i => ws[i]?) = wc.map some) : va_D (fun _ => True) wc :=
  (hD.sub isC hn hC).weaken (fun _ _ _ _ => trivial)
theorem rw_sub (hP : va_P D vwCl ws H) (isC : List Nat) (hC : isC.map (fun i => ws[i]?) = wc.map some) : va_P D vwCl wc H := by
  intro k q hq
  have h1 : (isC.map (fun i => ws[i]?))[k]? = some (some q) := by rw [hC, List.getElem?_map, hq]; rfl
  rw [List.getElem?_map] at h1
  cases hi : isC[k]? with
  | none => rw [hi] at h1; cases h1
  | some i => rw [hi] at h1; exact hP i q (Option.some.inj h1)
theorem rw_S {A0 : Nat → Prop} {H0 : Heap} (S : CallFix p m c cc nL s args Ts own) (hK : GK D cI cJ cZ s) (hP : va_P D vwCl ws H) (hD : va_D A0 ws) (hS : va_S A0 H0 H locs) (hM : RW l y wsw rm As D cI cJ cZ wc r wc') (isC isR isN : List Nat)
    (hC : isC.map (fun i => ws[i]?) = wc.map some) (hR : isR.map (fun i => ws[i]?) = wr.map some) (hnd : va_nd isC = true) (hdis : ∀ i ∈ isR, i ∉ isC) (hN : isN.filterMap (fun i => (wr ++ wc')[i]?) = ws2) (hA : ws2.map Prod.fst = ws.map Prod.fst) {st1 : List Value} (h1 : r.toList ++ rest = st1)
    (cw : CallB R s args own index y bytes maxL ret wsw rm 0 0 n ∧ (Cond.static y).before args s = true)
    (hn : As.length = n) (hl : ls.size = nL) (hst : st0 = As.reverse ++ rest) (hW : (rest.map fun v => v.category).sum ≤ 8) (hdg : decode cc pc = .ok (.invokestatic index, 3)) (hc : cells ≤ R.cells) (hs : slots ≤ R.slots)
    (kk : ∀ (H1 : Heap) (locs1 : List Loc), va_P D vwCl ws2 H1 → va_D A0 ws2 → va_S A0 H0 H1 locs1 → W p l e R s m args below meth c H1 locs1 cells slots Q (F0 m (pc + 3) ls st1)) : W p l e R s m args below meth c H locs cells slots Q (F0 m pc ls st0) :=
  rw_go (va_runS S hM cw ⟨rw_blind, fun U hU hW => ⟨rfl, by rw [hU]; exact rw_sub hP isC hC, gk_warm hW hK, rw_Dtrue hD isC hnd hC⟩⟩ rfl hn hl hst (lv_room (pc := pc) (ls := ls) (rest := st0) hW) hdg ⟨hc, hs⟩) hP hD hS isC isR isN hC hR hdis hN hA h1 kk
theorem rw_V {A0 : Nat → Prop} {H0 : Heap} {ci N : Nat} {fs : List Value} {T : u_T} (S : CallFix p m c cc nL s args Ts own) (hK : GK D cI cJ cZ s) (hP : va_P D vwCl ws H) (hD : va_D A0 ws) (hS : va_S A0 H0 H locs) (hM : RW l y wsw rm (.ref b :: As) D cI cJ cZ wc r wc') (q0 : Nat) (he : ws[q0]? = some (b, .inr (ci, fs))) (hcl : vwCl[ci]? = some (C, T, N)) (isC isR isN : List Nat)
    (hC : isC.map (fun i => ws[i]?) = wc.map some) (hR : isR.map (fun i => ws[i]?) = wr.map some) (hnd : va_nd isC = true) (hdis : ∀ i ∈ isR, i ∉ isC) (hN : isN.filterMap (fun i => (wr ++ wc')[i]?) = ws2) (hA : ws2.map Prod.fst = ws.map Prod.fst) {st1 : List Value} (h1 : r.toList ++ rest = st1)
    (cw : CallW R s args own C index y bytes maxL ret wsw rm 0 0 n)
    (hn : As.length = n) (hl : ls.size = nL) (hst : st0 = As.reverse ++ .ref b :: rest) (hW : (rest.map fun v => v.category).sum ≤ 8) (hdg : decode cc pc = .ok (.invokevirtual index, 3)) (hc : cells ≤ R.cells) (hs : slots ≤ R.slots)
    (kk : ∀ (H1 : Heap) (locs1 : List Loc), va_P D vwCl ws2 H1 → va_D A0 ws2 → va_S A0 H0 H1 locs1 → W p l e R s m args below meth c H1 locs1 cells slots Q (F0 m (pc + 3) ls st1)) : W p l e R s m args below meth c H locs cells slots Q (F0 m pc ls st0) :=
  rw_go (va_runV S hM cw ⟨rw_blind, va_recv hK.1 hP hcl he, fun U hU hW => ⟨rfl, by rw [hU]; exact rw_sub hP isC hC, gk_warm hW hK, rw_Dtrue hD isC hnd hC⟩⟩ rfl hn hl hst (lv_room (pc := pc) (ls := ls) (rest := st0) hW) hdg ⟨hc, hs⟩) hP hD hS isC isR isN hC hR hdis hN hA h1 kk
theorem ro_start (hy : plainName y.cls = true) (hw : wsw = Cond.code y cc maxL ret :: wsw') (hn : (lg_sl av).length ≤ maxL)
    (body : ∀ (p : Program) (e : Env) (s : State) (m : MethodId) (args : Array Value) (below : List Frame) (meth : Method) (c : Code), p.tables.exec = Jvm.exec → c.code = cc → meth.sig.returnType = ret → c.maxLocals = maxL → s.vm.findClass y.cls = some m.cls → (∀ w ∈ wsw, w.before args s = true) → meth.locks = false → va_P D vwCl ws s.heap → GK D cI cJ cZ s → ∀ ls : Array Slot, lv_has ls maxL (lv_args 0 av) →
      W p l e rm s m args below meth c s.heap [] 0 0 (MQ below (ro_Q v) args s 0 0 (fun _ => False)) (F0 m 0 ls [])) : RO l y wsw rm av D cI cJ cZ ws v := by
  refine Met.ofW (cc := cc) (maxL := maxL) (ret := ret) hy hw ?_
  intro p e s m args below meth c s₁ B hml hv
  obtain ⟨rfl, hP, hK⟩ := hv
  have hl := lv_entry av (n := maxL) hn
  rw [lg_entry_eq]
  exact body p e s m _ below meth c B.exec B.bytes B.returns hml (findClass_of_methodNamed B.named) (atoms_spec (ws := wsw) B.pre) B.notSynchronized hP hK _ hl
theorem rw_start (hy : plainName y.cls = true) (hw : wsw = Cond.code y cc maxL ret :: wsw') (hn : (lg_sl av).length ≤ maxL)
    (body : ∀ (p : Program) (e : Env) (s : State) (m : MethodId) (args : Array Value) (below : List Frame) (meth : Method) (c : Code), p.tables.exec = Jvm.exec → c.code = cc → meth.sig.returnType = ret → c.maxLocals = maxL → s.vm.findClass y.cls = some m.cls → (∀ w ∈ wsw, w.before args s = true) → meth.locks = false → va_P D vwCl ws s.heap → va_D (va_In ws) ws → va_S (va_In ws) s.heap s.heap [] → GK D cI cJ cZ s → ∀ ls : Array Slot, lv_has ls maxL (lv_args 0 av) →
      W p l e rm s m args below meth c s.heap [] 0 0 (MQ below (rw_Q D r ws ws') args s 0 0 (va_In ws)) (F0 m 0 ls [])) : RW l y wsw rm av D cI cJ cZ ws r ws' := by
  refine Met.ofW (cc := cc) (maxL := maxL) (ret := ret) hy hw ?_
  intro p e s m args below meth c s₁ B hml hv
  obtain ⟨rfl, hP, hK, hD⟩ := hv
  have hl := lv_entry av (n := maxL) hn
  rw [lg_entry_eq]
  exact body p e s m _ below meth c B.exec B.bytes B.returns hml (findClass_of_methodNamed B.named) (atoms_spec (ws := wsw) B.pre) B.notSynchronized hP ⟨hD.1, fun k q hk => ⟨k, q.2, hk⟩⟩ va_S.rf hK _ hl
theorem ro_iret {x : Int32} (hx : p.tables.exec = Jvm.exec) (hb : c.code = cc) (hr : meth.sig.returnType = some .int) (hlocks : meth.locks = false) (hdg : decode cc pc = .ok (.ireturn, 1)) : W p l e R s m args below meth c s.heap [] cells slots (MQ below (ro_Q (.int x)) args s cells slots (fun _ => False)) (F0 m pc ls [.int x]) :=
  W.iret hx hb hr (fun _ ht _ => ⟨rfl, ht⟩) (fun _ h => by cases h) hdg hlocks
theorem ro_zret {x : Int32} (hx : p.tables.exec = Jvm.exec) (hb : c.code = cc) (hr : meth.sig.returnType = some .boolean) (hlocks : meth.locks = false) (h01 : x = 0 ∨ x = 1) (hdg : decode cc pc = .ok (.ireturn, 1)) : W p l e R s m args below meth c s.heap [] cells slots (MQ below (ro_Q (.int x)) args s cells slots (fun _ => False)) (F0 m pc ls [.int x]) :=
  W.zret hx hb hr (z01 h01) (fun _ ht _ => ⟨rfl, ht⟩) (fun _ h => by cases h) hdg hlocks
theorem ro_lret {x : Int64} (hx : p.tables.exec = Jvm.exec) (hb : c.code = cc) (hr : meth.sig.returnType = some .long) (hlocks : meth.locks = false) (hdg : decode cc pc = .ok (.lreturn, 1)) : W p l e R s m args below meth c s.heap [] cells slots (MQ below (ro_Q (.long x)) args s cells slots (fun _ => False)) (F0 m pc ls [.long x]) :=
  W.lret hx hb hr (fun _ ht _ => ⟨rfl, ht⟩) (fun _ h => by cases h) hdg hlocks
theorem ro_aret {x : Nat} {nm : String} (hx : p.tables.exec = Jvm.exec) (hb : c.code = cc) (hr : meth.sig.returnType = some (.object nm)) (hlocks : meth.locks = false) (hdg : decode cc pc = .ok (.areturn, 1)) : W p l e R s m args below meth c s.heap [] cells slots (MQ below (ro_Q (.ref x)) args s cells slots (fun _ => False)) (F0 m pc ls [.ref x]) :=
  W.aret hx hb hr (Or.inl ⟨nm, rfl⟩) (Or.inr ⟨x, rfl⟩) (fun _ ht _ => ⟨rfl, ht⟩) (fun _ h => by cases h) hdg hlocks
theorem rw_iret {x : Int32} (hx : p.tables.exec = Jvm.exec) (hb : c.code = cc) (hr : meth.sig.returnType = some .int) (hlocks : meth.locks = false) (hP : va_P D vwCl ws' H) (hS : va_S (va_In ws) s.heap H locs) (hdg : decode cc pc = .ok (.ireturn, 1)) : W p l e R s m args below meth c H locs cells slots (MQ below (rw_Q D (some (.int x)) ws ws') args s cells slots (va_In ws)) (F0 m pc ls [.int x]) :=
  W.iret hx hb hr (fun _ ht _ => ⟨rfl, by rw [ht]; exact hP, hS.F ht⟩) hS.2.2 hdg hlocks
theorem rw_zret {x : Int32} (hx : p.tables.exec = Jvm.exec) (hb : c.code = cc) (hr : meth.sig.returnType = some .boolean) (hlocks : meth.locks = false) (h01 : x = 0 ∨ x = 1) (hP : va_P D vwCl ws' H) (hS : va_S (va_In ws) s.heap H locs) (hdg : decode cc pc = .ok (.ireturn, 1)) : W p l e R s m args below meth c H locs cells slots (MQ below (rw_Q D (some (.int x)) ws ws') args s cells slots (va_In ws)) (F0 m pc ls [.int x]) :=
  W.zret hx hb hr (z01 h01) (fun _ ht _ => ⟨rfl, by rw [ht]; exact hP, hS.F ht⟩) hS.2.2 hdg hlocks
theorem rw_lret {x : Int64} (hx : p.tables.exec = Jvm.exec) (hb : c.code = cc) (hr : meth.sig.returnType = some .long) (hlocks : meth.locks = false) (hP : va_P D vwCl ws' H) (hS : va_S (va_In ws) s.heap H locs) (hdg : decode cc pc = .ok (.lreturn, 1)) : W p l e R s m args below meth c H locs cells slots (MQ below (rw_Q D (some (.long x)) ws ws') args s cells slots (va_In ws)) (F0 m pc ls [.long x]) :=
  W.lret hx hb hr (fun _ ht _ => ⟨rfl, by rw [ht]; exact hP, hS.F ht⟩) hS.2.2 hdg hlocks
theorem rw_vret (hx : p.tables.exec = Jvm.exec) (hb : c.code = cc) (hr : meth.sig.returnType = none) (hlocks : meth.locks = false) (hP : va_P D vwCl ws' H) (hS : va_S (va_In ws) s.heap H locs) (hdg : decode cc pc = .ok (.return_, 1)) : W p l e R s m args below meth c H locs cells slots (MQ below (rw_Q D none ws ws') args s cells slots (va_In ws)) (F0 m pc ls []) :=
  W.vret hx hb hr (fun _ ht _ => ⟨rfl, by rw [ht]; exact hP, hS.F ht⟩) hS.2.2 hdg hlocks
theorem ia_ld (hx : p.tables.exec = Jvm.exec) (hb : c.code = cc) (hK : GK D cI cJ cZ s) (hP : va_P D vwCl ws H) (q0 : Nat) {f : Nat → Int32} {N : Nat} (ha : ws[q0]? = some (a, .inl (cI, N, .inl f))) {i : Nat} (hi : i < N) (hN : N < 2 ^ 31) (hdg : decode cc pc = .ok (.iaload, 1))
    (kk : W p l e R s m args below meth c H locs cells slots Q (F0 m (pc + 1) ls (.int (f i) :: rest))) : W p l e R s m args below meth c H locs cells slots Q (F0 m pc ls (.int (nI i) :: .ref a :: rest)) :=
  va_iald hx hb hK.1 hP q0 0 ha rfl (vp_in_nI hi hN) hdg (by rw [nI_clamp (Nat.lt_trans hi hN)]; exact kk)
theorem za_ld (hx : p.tables.exec = Jvm.exec) (hb : c.code = cc) (hK : GK D cI cJ cZ s) (hP : va_P D vwCl ws H) (q0 : Nat) {f : Nat → Int32} {N : Nat} (ha : ws[q0]? = some (a, .inl (cZ, N, .inl f))) {i : Nat} (hi : i < N) (hN : N < 2 ^ 31) (hdg : decode cc pc = .ok (.baload, 1))
    (kk : W p l e R s m args below meth c H locs cells slots Q (F0 m (pc + 1) ls (.int (f i) :: rest))) : W p l e R s m args below meth c H locs cells slots Q (F0 m pc ls (.int (nI i) :: .ref a :: rest)) :=
  va_zald hx hb hK.1 hP q0 2 ha rfl (vp_in_nI hi hN) hdg (by rw [nI_clamp (Nat.lt_trans hi hN)]; exact kk)
theorem la_ld (hx : p.tables.exec = Jvm.exec) (hb : c.code = cc) (hK : GK D cI cJ cZ s) (hP : va_P D vwCl ws H) (q0 : Nat) {f : Nat → Int64} {N : Nat} (ha : ws[q0]? = some (a, .inl (cJ, N, .inr (.inl f)))) {i : Nat} (hi : i < N) (hN : N < 2 ^ 31) (hdg : decode cc pc = .ok (.laload, 1))
    (kk : W p l e R s m args below meth c H locs cells slots Q (F0 m (pc + 1) ls (.long (f i) :: rest))) : W p l e R s m args below meth c H locs cells slots Q (F0 m pc ls (.int (nI i) :: .ref a :: rest)) :=
  va_lald hx hb hK.1 hP q0 1 ha rfl (vp_in_nI hi hN) hdg (by rw [nI_clamp (Nat.lt_trans hi hN)]; exact kk)
theorem ia_st {A0 : Nat → Prop} {H0 : Heap} (hx : p.tables.exec = Jvm.exec) (hb : c.code = cc) (hK : GK D cI cJ cZ s) (hP : va_P D vwCl ws H) (hD : va_D A0 ws) (hS : va_S A0 H0 H locs) (q0 : Nat) {f : Nat → Int32} {N : Nat} (ha : ws[q0]? = some (a, .inl (cI, N, .inl f))) {i : Nat} {x : Int32} (hi : i < N) (hN : N < 2 ^ 31) (hdg : decode cc pc = .ok (.iastore, 1))
    (kk : ∀ (H1 : Heap) (locs1 : List Loc), va_P D vwCl (ws.set q0 (a, .inl (cI, N, .inl (upd f i x)))) H1 → va_D A0 (ws.set q0 (a, .inl (cI, N, .inl (upd f i x)))) → va_S A0 H0 H1 locs1 → W p l e R s m args below meth c H1 locs1 cells slots Q (F0 m (pc + 1) ls rest)) : W p l e R s m args below meth c H locs cells slots Q (F0 m pc ls (.int x :: .int (nI i) :: .ref a :: rest)) :=
  va_iast hx hb hK.1 hP hD hS q0 0 ha rfl (vp_in_nI hi hN) hdg (by rw [nI_clamp (Nat.lt_trans hi hN)]; exact kk)
theorem za_st {A0 : Nat → Prop} {H0 : Heap} (hx : p.tables.exec = Jvm.exec) (hb : c.code = cc) (hK : GK D cI cJ cZ s) (hP : va_P D vwCl ws H) (hD : va_D A0 ws) (hS : va_S A0 H0 H locs) (q0 : Nat) {f : Nat → Int32} {N : Nat} (ha : ws[q0]? = some (a, .inl (cZ, N, .inl f))) {i : Nat} {x : Int32} (hi : i < N) (hN : N < 2 ^ 31) (hdg : decode cc pc = .ok (.bastore, 1))
    (kk : ∀ (H1 : Heap) (locs1 : List Loc), va_P D vwCl (ws.set q0 (a, .inl (cZ, N, .inl (upd f i (vp_nar .boolean x))))) H1 → va_D A0 (ws.set q0 (a, .inl (cZ, N, .inl (upd f i (vp_nar .boolean x))))) → va_S A0 H0 H1 locs1 → W p l e R s m args below meth c H1 locs1 cells slots Q (F0 m (pc + 1) ls rest)) : W p l e R s m args below meth c H locs cells slots Q (F0 m pc ls (.int x :: .int (nI i) :: .ref a :: rest)) :=
  va_zast hx hb hK.1 hP hD hS q0 2 ha rfl (vp_in_nI hi hN) hdg (by rw [nI_clamp (Nat.lt_trans hi hN)]; exact kk)
theorem la_st {A0 : Nat → Prop} {H0 : Heap} (hx : p.tables.exec = Jvm.exec) (hb : c.code = cc) (hK : GK D cI cJ cZ s) (hP : va_P D vwCl ws H) (hD : va_D A0 ws) (hS : va_S A0 H0 H locs) (q0 : Nat) {f : Nat → Int64} {N : Nat} (ha : ws[q0]? = some (a, .inl (cJ, N, .inr (.inl f)))) {i : Nat} {x : Int64} (hi : i < N) (hN : N < 2 ^ 31) (hdg : decode cc pc = .ok (.lastore, 1))
    (kk : ∀ (H1 : Heap) (locs1 : List Loc), va_P D vwCl (ws.set q0 (a, .inl (cJ, N, .inr (.inl (vp_updL f i x))))) H1 → va_D A0 (ws.set q0 (a, .inl (cJ, N, .inr (.inl (vp_updL f i x))))) → va_S A0 H0 H1 locs1 → W p l e R s m args below meth c H1 locs1 cells slots Q (F0 m (pc + 1) ls rest)) : W p l e R s m args below meth c H locs cells slots Q (F0 m pc ls (.long x :: .int (nI i) :: .ref a :: rest)) :=
  va_last hx hb hK.1 hP hD hS q0 1 ha rfl (vp_in_nI hi hN) hdg (by rw [nI_clamp (Nat.lt_trans hi hN)]; exact kk)
end MYW
