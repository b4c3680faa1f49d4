
def f_X8_isUpTo (xn : Int32) (xm : Int32) : Int32 :=
  (if (xn < 0) then (0 : Int32) else (if (xm < xn) then (0 : Int32) else (1 : Int32)))

set_option maxHeartbeats 4000000 in
set_option maxRecDepth 100000 in
theorem c_X8_isUpTo (l : Launch) (D : va_G) (cI cJ cZ : ClassId) (xn : Int32) (xm : Int32) : RO l yX8_isUpTo wsX8_isUpTo ({ frames := 0, cells := 0, slots := 0, locals := 0 }) [.int xn, .int xm] D cI cJ cZ [] (.int (f_X8_isUpTo xn xm)) := by
  obtain ⟨R, hR⟩ : ∃ R, (f_X8_isUpTo xn xm) = R := ⟨_, rfl⟩
  rw [hR]
  refine ro_start (cc := cX8_isUpTo) (maxL := 2) (ret := (some .boolean)) (by decide) rfl (Nat.le_of_ble_eq_true rfl) ?_
  intro p e s m args below meth c hx hb hr hml hown hts hlocks hP hK ls hl
  have hown : s.vm.findClass RX8 = some m.cls := hown
  have hl : lv_has ls 2 [(0, .int xn), (1, .int xm)] := hl
  rw [f_X8_isUpTo] at hR
  refine lv_iload_n hx hb dX8_isUpTo_0 rfl (lv_at hl 0 rfl) ?_
  refine lv_if_lt (tgt := 13) hx hb dX8_isUpTo_1 (by decide) (fun c1 => ?_) (fun c1 => ?_)
  · rw [if_pos c1] at hR
    refine lv_iconst (v := (0 : Int32)) hx hb dX8_isUpTo_13 (by decide) ?_
    subst hR
    exact ro_zret hx hb hr hlocks (Or.inl rfl) dX8_isUpTo_14
  · rw [if_neg c1] at hR
    refine lv_iload_n hx hb dX8_isUpTo_4 rfl (lv_at hl 0 rfl) ?_
    refine lv_iload_n hx hb dX8_isUpTo_5 rfl (lv_at hl 1 rfl) ?_
    refine lv_icmp_gt (tgt := 13) hx hb dX8_isUpTo_6 (by decide) (fun c6 => ?_) (fun c6 => ?_)
    · rw [if_pos c6] at hR
      refine lv_iconst (v := (0 : Int32)) hx hb dX8_isUpTo_13 (by decide) ?_
      subst hR
      exact ro_zret hx hb hr hlocks (Or.inl rfl) dX8_isUpTo_14
    · rw [if_neg c6] at hR
      refine lv_iconst (v := (1 : Int32)) hx hb dX8_isUpTo_9 (by decide) ?_
      refine lv_goto (tgt := 14) hx hb dX8_isUpTo_10 (by decide) ?_
      subst hR
      exact ro_zret hx hb hr hlocks (Or.inr rfl) dX8_isUpTo_14

theorem z_X8_isUpTo (xn : Int32) (xm : Int32) : (f_X8_isUpTo xn xm) = 0 ∨ (f_X8_isUpTo xn xm) = 1 := by
  unfold f_X8_isUpTo
  (repeat' split) <;> first | exact Or.inl rfl | exact Or.inr rfl

theorem hd_X8_isUpTo : yX8_isUpTo.cls ≠ "java/lang/invoke/MethodHandle" ∧ yX8_isUpTo.cls ≠ "java/lang/invoke/VarHandle" ∧ (parseMethodDescriptor yX8_isUpTo.desc).map (fun d => d.parameters.length) = some 2 := by decide +kernel

def f_X8_isParish (xp : Int32) : Int32 :=
  (f_X8_isUpTo xp (6 : Int32))

set_option maxHeartbeats 4000000 in
set_option maxRecDepth 100000 in
theorem c_X8_isParish (l : Launch) (D : va_G) (cI cJ cZ : ClassId) (xp : Int32) : RO l yX8_isParish wsX8_isParish ({ frames := 1, cells := 0, slots := 0, locals := 21 }) [.int xp] D cI cJ cZ [] (.int (f_X8_isParish xp)) := by
  obtain ⟨R, hR⟩ : ∃ R, (f_X8_isParish xp) = R := ⟨_, rfl⟩
  rw [hR]
  refine ro_start (cc := cX8_isParish) (maxL := 1) (ret := (some .boolean)) (by decide) rfl (Nat.le_of_ble_eq_true rfl) ?_
  intro p e s m args below meth c hx hb hr hml hown hts hlocks hP hK ls hl
  have hown : s.vm.findClass RX8 = some m.cls := hown
  have hl : lv_has ls 1 [(0, .int xp)] := hl
  rw [f_X8_isParish] at hR
  refine lv_iload_n hx hb dX8_isParish_0 rfl (lv_at hl 0 rfl) ?_
  refine lv_bipush (v := (6 : Int32)) hx hb dX8_isParish_1 (by decide +kernel) ?_
  refine ro_S (As := [.int xp, .int (6 : Int32)]) (rest := []) ⟨hx, hb, hml, hown, hts⟩ hK (c_X8_isUpTo l D cI cJ cZ xp (6 : Int32)) va_P_nil (va_cwS 2 hts gX8_isParish_X8_isUpTo rfl rfl rfl hd_X8_isUpTo ⟨(Nat.le_of_ble_eq_true rfl), (Nat.le_of_ble_eq_true rfl)⟩) rfl hl.1 rfl (Nat.le_of_ble_eq_true rfl) dX8_isParish_3 (Nat.zero_le _) (Nat.zero_le _) ?_
  subst hR
  exact ro_zret hx hb hr hlocks (z_X8_isUpTo xp (6 : Int32)) dX8_isParish_6

theorem z_X8_isParish (xp : Int32) : (f_X8_isParish xp) = 0 ∨ (f_X8_isParish xp) = 1 := by
  unfold f_X8_isParish
  (repeat' split) <;> first | exact Or.inl rfl | exact Or.inr rfl | exact z_X8_isUpTo ..


def f_X8_isWay (xw : Int32) : Int32 :=
  (f_X8_isUpTo xw (7 : Int32))

set_option maxHeartbeats 4000000 in
set_option maxRecDepth 100000 in
theorem c_X8_isWay (l : Launch) (D : va_G) (cI cJ cZ : ClassId) (xw : Int32) : RO l yX8_isWay wsX8_isWay ({ frames := 1, cells := 0, slots := 0, locals := 21 }) [.int xw] D cI cJ cZ [] (.int (f_X8_isWay xw)) := by
  obtain ⟨R, hR⟩ : ∃ R, (f_X8_isWay xw) = R := ⟨_, rfl⟩
  rw [hR]
  refine ro_start (cc := cX8_isWay) (maxL := 1) (ret := (some .boolean)) (by decide) rfl (Nat.le_of_ble_eq_true rfl) ?_
  intro p e s m args below meth c hx hb hr hml hown hts hlocks hP hK ls hl
  have hown : s.vm.findClass RX8 = some m.cls := hown
  have hl : lv_has ls 1 [(0, .int xw)] := hl
  rw [f_X8_isWay] at hR
  refine lv_iload_n hx hb dX8_isWay_0 rfl (lv_at hl 0 rfl) ?_
  refine lv_bipush (v := (7 : Int32)) hx hb dX8_isWay_1 (by decide +kernel) ?_
  refine ro_S (As := [.int xw, .int (7 : Int32)]) (rest := []) ⟨hx, hb, hml, hown, hts⟩ hK (c_X8_isUpTo l D cI cJ cZ xw (7 : Int32)) va_P_nil (va_cwS 2 hts gX8_isWay_X8_isUpTo rfl rfl rfl hd_X8_isUpTo ⟨(Nat.le_of_ble_eq_true rfl), (Nat.le_of_ble_eq_true rfl)⟩) rfl hl.1 rfl (Nat.le_of_ble_eq_true rfl) dX8_isWay_3 (Nat.zero_le _) (Nat.zero_le _) ?_
  subst hR
  exact ro_zret hx hb hr hlocks (z_X8_isUpTo xw (7 : Int32)) dX8_isWay_6

theorem z_X8_isWay (xw : Int32) : (f_X8_isWay xw) = 0 ∨ (f_X8_isWay xw) = 1 := by
  unfold f_X8_isWay
  (repeat' split) <;> first | exact Or.inl rfl | exact Or.inr rfl | exact z_X8_isUpTo ..


def f_X8_hasBit (xb : Int32) (xp : Int32) : Int32 :=
  (if (((xb >>> (xp &&& 31)) &&& (1 : Int32)) = 0) then (0 : Int32) else (1 : Int32))

set_option maxHeartbeats 4000000 in
set_option maxRecDepth 100000 in
theorem c_X8_hasBit (l : Launch) (D : va_G) (cI cJ cZ : ClassId) (xb : Int32) (xp : Int32) : RO l yX8_hasBit wsX8_hasBit ({ frames := 0, cells := 0, slots := 0, locals := 0 }) [.int xb, .int xp] D cI cJ cZ [] (.int (f_X8_hasBit xb xp)) := by
  obtain ⟨R, hR⟩ : ∃ R, (f_X8_hasBit xb xp) = R := ⟨_, rfl⟩
  rw [hR]
  refine ro_start (cc := cX8_hasBit) (maxL := 2) (ret := (some .boolean)) (by decide) rfl (Nat.le_of_ble_eq_true rfl) ?_
  intro p e s m args below meth c hx hb hr hml hown hts hlocks hP hK ls hl
  have hown : s.vm.findClass RX8 = some m.cls := hown
  have hl : lv_has ls 2 [(0, .int xb), (1, .int xp)] := hl
  rw [f_X8_hasBit] at hR
  refine lv_iload_n hx hb dX8_hasBit_0 rfl (lv_at hl 0 rfl) ?_
  refine lv_iload_n hx hb dX8_hasBit_1 rfl (lv_at hl 1 rfl) ?_
  refine lv_ishr hx hb dX8_hasBit_2 ?_
  refine lv_iconst (v := (1 : Int32)) hx hb dX8_hasBit_3 (by decide) ?_
  refine lv_iand hx hb dX8_hasBit_4 ?_
  refine lv_if_eq (tgt := 12) hx hb dX8_hasBit_5 (by decide) (fun c5 => ?_) (fun c5 => ?_)
  · rw [if_pos c5] at hR
    refine lv_iconst (v := (0 : Int32)) hx hb dX8_hasBit_12 (by decide) ?_
    subst hR
    exact ro_zret hx hb hr hlocks (Or.inl rfl) dX8_hasBit_13
  · rw [if_neg c5] at hR
    refine lv_iconst (v := (1 : Int32)) hx hb dX8_hasBit_8 (by decide) ?_
    refine lv_goto (tgt := 13) hx hb dX8_hasBit_9 (by decide) ?_
    subst hR
    exact ro_zret hx hb hr hlocks (Or.inr rfl) dX8_hasBit_13

theorem z_X8_hasBit (xb : Int32) (xp : Int32) : (f_X8_hasBit xb xp) = 0 ∨ (f_X8_hasBit xb xp) = 1 := by
  unfold f_X8_hasBit
  (repeat' split) <;> first | exact Or.inl rfl | exact Or.inr rfl


def f_X8_withBit (xb : Int32) (xp : Int32) (xi : Int32) : Int32 :=
  (if (xi = 0) then (xb &&& (((1 : Int32) <<< (xp &&& 31)) ^^^ (-1 : Int32))) else (xb ||| ((1 : Int32) <<< (xp &&& 31))))

set_option maxHeartbeats 4000000 in
set_option maxRecDepth 100000 in
theorem c_X8_withBit (l : Launch) (D : va_G) (cI cJ cZ : ClassId) (xb : Int32) (xp : Int32) (xi : Int32) : RO l yX8_withBit wsX8_withBit ({ frames := 0, cells := 0, slots := 0, locals := 0 }) [.int xb, .int xp, .int xi] D cI cJ cZ [] (.int (f_X8_withBit xb xp xi)) := by
  obtain ⟨R, hR⟩ : ∃ R, (f_X8_withBit xb xp xi) = R := ⟨_, rfl⟩
  rw [hR]
  refine ro_start (cc := cX8_withBit) (maxL := 3) (ret := (some .int)) (by decide) rfl (Nat.le_of_ble_eq_true rfl) ?_
  intro p e s m args below meth c hx hb hr hml hown hts hlocks hP hK ls hl
  have hown : s.vm.findClass RX8 = some m.cls := hown
  have hl : lv_has ls 3 [(0, .int xb), (1, .int xp), (2, .int xi)] := hl
  rw [f_X8_withBit] at hR
  refine lv_iload_n hx hb dX8_withBit_0 rfl (lv_at hl 2 rfl) ?_
  refine lv_if_eq (tgt := 12) hx hb dX8_withBit_1 (by decide) (fun c1 => ?_) (fun c1 => ?_)
  · rw [if_pos c1] at hR
    refine lv_iload_n hx hb dX8_withBit_12 rfl (lv_at hl 0 rfl) ?_
    refine lv_iconst (v := (1 : Int32)) hx hb dX8_withBit_13 (by decide) ?_
    refine lv_iload_n hx hb dX8_withBit_14 rfl (lv_at hl 1 rfl) ?_
    refine lv_ishl hx hb dX8_withBit_15 ?_
    refine lv_iconst (v := (-1 : Int32)) hx hb dX8_withBit_16 (by decide) ?_
    refine lv_ixor hx hb dX8_withBit_17 ?_
    refine lv_iand hx hb dX8_withBit_18 ?_
    subst hR
    exact ro_iret hx hb hr hlocks dX8_withBit_19
  · rw [if_neg c1] at hR
    refine lv_iload_n hx hb dX8_withBit_4 rfl (lv_at hl 0 rfl) ?_
    refine lv_iconst (v := (1 : Int32)) hx hb dX8_withBit_5 (by decide) ?_
    refine lv_iload_n hx hb dX8_withBit_6 rfl (lv_at hl 1 rfl) ?_
    refine lv_ishl hx hb dX8_withBit_7 ?_
    refine lv_ior hx hb dX8_withBit_8 ?_
    refine lv_goto (tgt := 19) hx hb dX8_withBit_9 (by decide) ?_
    subst hR
    exact ro_iret hx hb hr hlocks dX8_withBit_19


def f_X8_apart (xa : Int32) (xb : Int32) : Int32 :=
  (if ((8 : Int32) - ((xa - xb) &&& (7 : Int32))) < ((xa - xb) &&& (7 : Int32)) then ((8 : Int32) - ((xa - xb) &&& (7 : Int32))) else ((xa - xb) &&& (7 : Int32)))

set_option maxHeartbeats 4000000 in
set_option maxRecDepth 100000 in
theorem c_X8_apart (l : Launch) (D : va_G) (cI cJ cZ : ClassId) (xa : Int32) (xb : Int32) : RO l yX8_apart wsX8_apart ({ frames := 1, cells := 0, slots := 0, locals := 21 }) [.int xa, .int xb] D cI cJ cZ [] (.int (f_X8_apart xa xb)) := by
  obtain ⟨R, hR⟩ : ∃ R, (f_X8_apart xa xb) = R := ⟨_, rfl⟩
  rw [hR]
  refine ro_start (cc := cX8_apart) (maxL := 3) (ret := (some .int)) (by decide) rfl (Nat.le_of_ble_eq_true rfl) ?_
  intro p e s m args below meth c hx hb hr hml hown hts hlocks hP hK ls hl
  have hown : s.vm.findClass RX8 = some m.cls := hown
  have hl : lv_has ls 3 [(0, .int xa), (1, .int xb)] := hl
  have hq0 := hts (.methodLink RX8 255 Lib.Math.min.name) (by decide +kernel)
  have hq1 := hts (.static Lib.Math.min.name) (by decide +kernel)
  have hq2 := hts (.initialized "java/lang/Math") (by decide +kernel)
  have hq3 := hts (.code Lib.Math.min.name Lib.Math.min.code 2 (some .int)) (by decide +kernel)
  rw [f_X8_apart] at hR
  refine lv_iload_n hx hb dX8_apart_0 rfl (lv_at hl 0 rfl) ?_
  refine lv_iload_n hx hb dX8_apart_1 rfl (lv_at hl 1 rfl) ?_
  refine lv_isub hx hb dX8_apart_2 ?_
  refine lv_bipush (v := (7 : Int32)) hx hb dX8_apart_3 (by decide +kernel) ?_
  refine lv_iand hx hb dX8_apart_5 ?_
  refine lv_istore_n (lv' := [(2, .int ((xa - xb) &&& (7 : Int32))), (0, .int xa), (1, .int xb)]) hx hb dX8_apart_6 rfl hl (by decide) rfl (fun ls hl => ?_)
  refine lv_iload_n hx hb dX8_apart_7 rfl (lv_at hl 0 rfl) ?_
  refine lv_bipush (v := (8 : Int32)) hx hb dX8_apart_8 (by decide +kernel) ?_
  refine lv_iload_n hx hb dX8_apart_10 rfl (lv_at hl 0 rfl) ?_
  refine lv_isub hx hb dX8_apart_11 ?_
  refine va_mmin (rest := []) hx hb (hml.trans hl.1.symm) hown hq0 hq1 hq2 hq3 (Nat.le_of_ble_eq_true rfl) (Nat.le_of_ble_eq_true rfl) (Nat.zero_le _) (Nat.zero_le _) dX8_apart_12 ?_
  subst hR
  exact ro_iret hx hb hr hlocks dX8_apart_15

theorem in_X7_isThere_X7 : ∀ w ∈ u_ws RX7 TX7 12, w ∈ wsX7_isThere := by decide +kernel

def f_X7_isThere (w_there : Int32) (xp : Int32) : Int32 :=
  (if (xp < 0) then (0 : Int32) else (if ((7 : Int32) ≤ xp) then (0 : Int32) else (if (((w_there >>> (xp &&& 31)) &&& (1 : Int32)) = 0) then (0 : Int32) else (1 : Int32))))

set_option maxHeartbeats 4000000 in
set_option maxRecDepth 100000 in
theorem c_X7_isThere (l : Launch) (D : va_G) (cI cJ cZ : ClassId) (w : Nat) (w_points_a : Nat) (w_tired_a : Nat) (w_near_a : Nat) (w_there : Int32) (w_free : Int32) (w_held : Int32) (w_wind : Int32) (w_oil : Int32) (w_hour : Int32) (w_sights : Int32) (w_agreedTo : Int32) (w_refused : Int32) (xp : Int32) : RO l yX7_isThere wsX7_isThere ({ frames := 0, cells := 0, slots := 0, locals := 0 }) [.ref w, .int xp] D cI cJ cZ [(w, .inr (7, [.ref w_points_a, .ref w_tired_a, .ref w_near_a, .int w_there, .int w_free, .int w_held, .int w_wind, .int w_oil, .int w_hour, .int w_sights, .int w_agreedTo, .int w_refused]))] (.int (f_X7_isThere w_there xp)) := by
  obtain ⟨R, hR⟩ : ∃ R, (f_X7_isThere w_there xp) = R := ⟨_, rfl⟩
  rw [hR]
  refine ro_start (cc := cX7_isThere) (maxL := 2) (ret := (some .boolean)) (by decide) rfl (Nat.le_of_ble_eq_true rfl) ?_
  intro p e s m args below meth c hx hb hr hml hown hts hlocks hP hK ls hl
  have hown : s.vm.findClass RX7 = some m.cls := hown
  have hl : lv_has ls 2 [(0, .ref w), (1, .int xp)] := hl
  have hq0 := hts (.fieldLink RX7 25 "StuckVanes$World" "there" "I") (by decide +kernel)
  rw [f_X7_isThere] at hR
  refine lv_iload_n hx hb dX7_isThere_0 rfl (lv_at hl 1 rfl) ?_
  refine lv_if_lt (tgt := 25) hx hb dX7_isThere_1 (by decide) (fun c1 => ?_) (fun c1 => ?_)
  · rw [if_pos c1] at hR
    refine lv_iconst (v := (0 : Int32)) hx hb dX7_isThere_25 (by decide) ?_
    subst hR
    exact ro_zret hx hb hr hlocks (Or.inl rfl) dX7_isThere_26
  · rw [if_neg c1] at hR
    refine lv_iload_n hx hb dX7_isThere_4 rfl (lv_at hl 1 rfl) ?_
    refine lv_bipush (v := (7 : Int32)) hx hb dX7_isThere_5 (by decide +kernel) ?_
    refine lv_icmp_ge (tgt := 25) hx hb dX7_isThere_7 (by decide) (fun c7 => ?_) (fun c7 => ?_)
    · rw [if_pos c7] at hR
      refine lv_iconst (v := (0 : Int32)) hx hb dX7_isThere_25 (by decide) ?_
      subst hR
      exact ro_zret hx hb hr hlocks (Or.inl rfl) dX7_isThere_26
    · rw [if_neg c7] at hR
      refine lv_aload_n hx hb dX7_isThere_10 rfl (lv_at hl 0 rfl) ?_
      refine va_get (D := D) (ci := 7) (v := .int w_there) (C := RX7) (T := TX7) (N := 12) hx hb hts in_X7_isThere_X7 hown hK.1 hP 0 rfl rfl 3 (by decide) hq0 (fun _ h9 => h9) rfl dX7_isThere_11 ?_
      refine lv_iload_n hx hb dX7_isThere_14 rfl (lv_at hl 1 rfl) ?_
      refine lv_ishr hx hb dX7_isThere_15 ?_
      refine lv_iconst (v := (1 : Int32)) hx hb dX7_isThere_16 (by decide) ?_
      refine lv_iand hx hb dX7_isThere_17 ?_
      refine lv_if_eq (tgt := 25) hx hb dX7_isThere_18 (by decide) (fun c18 => ?_) (fun c18 => ?_)
      · rw [if_pos c18] at hR
        refine lv_iconst (v := (0 : Int32)) hx hb dX7_isThere_25 (by decide) ?_
        subst hR
        exact ro_zret hx hb hr hlocks (Or.inl rfl) dX7_isThere_26
      · rw [if_neg c18] at hR
        refine lv_iconst (v := (1 : Int32)) hx hb dX7_isThere_21 (by decide) ?_
        refine lv_goto (tgt := 26) hx hb dX7_isThere_22 (by decide) ?_
        subst hR
        exact ro_zret hx hb hr hlocks (Or.inr rfl) dX7_isThere_26

theorem z_X7_isThere (w_there : Int32) (xp : Int32) : (f_X7_isThere w_there xp) = 0 ∨ (f_X7_isThere w_there xp) = 1 := by
  unfold f_X7_isThere
  (repeat' split) <;> first | exact Or.inl rfl | exact Or.inr rfl


def f_X7_nearer (xw : Int32) (xg : Int32) : Int32 :=
  (if ((4 : Int32) < ((xg - xw) &&& (7 : Int32))) then ((xw + (-1 : Int32)) &&& (7 : Int32)) else ((xw + (1 : Int32)) &&& (7 : Int32)))

set_option maxHeartbeats 4000000 in
set_option maxRecDepth 100000 in
theorem c_X7_nearer (l : Launch) (D : va_G) (cI cJ cZ : ClassId) (xw : Int32) (xg : Int32) : RO l yX7_nearer wsX7_nearer ({ frames := 0, cells := 0, slots := 0, locals := 0 }) [.int xw, .int xg] D cI cJ cZ [] (.int (f_X7_nearer xw xg)) := by
  obtain ⟨R, hR⟩ : ∃ R, (f_X7_nearer xw xg) = R := ⟨_, rfl⟩
  rw [hR]
  refine ro_start (cc := cX7_nearer) (maxL := 4) (ret := (some .int)) (by decide) rfl (Nat.le_of_ble_eq_true rfl) ?_
  intro p e s m args below meth c hx hb hr hml hown hts hlocks hP hK ls hl
  have hown : s.vm.findClass RX7 = some m.cls := hown
  have hl : lv_has ls 4 [(0, .int xw), (1, .int xg)] := hl
  rw [f_X7_nearer] at hR
  refine lv_iload_n hx hb dX7_nearer_0 rfl (lv_at hl 1 rfl) ?_
  refine lv_iload_n hx hb dX7_nearer_1 rfl (lv_at hl 0 rfl) ?_
  refine lv_isub hx hb dX7_nearer_2 ?_
  refine lv_bipush (v := (7 : Int32)) hx hb dX7_nearer_3 (by decide +kernel) ?_
  refine lv_iand hx hb dX7_nearer_5 ?_
  refine lv_istore_n (lv' := [(2, .int ((xg - xw) &&& (7 : Int32))), (0, .int xw), (1, .int xg)]) hx hb dX7_nearer_6 rfl hl (by decide) rfl (fun ls hl => ?_)
  refine lv_iload_n hx hb dX7_nearer_7 rfl (lv_at hl 0 rfl) ?_
  refine lv_iconst (v := (4 : Int32)) hx hb dX7_nearer_8 (by decide) ?_
  refine lv_icmp_gt (tgt := 16) hx hb dX7_nearer_9 (by decide) (fun c9 => ?_) (fun c9 => ?_)
  · rw [if_pos c9] at hR
    refine lv_iconst (v := (-1 : Int32)) hx hb dX7_nearer_16 (by decide) ?_
    refine lv_istore_n (lv' := [(3, .int (-1 : Int32)), (2, .int ((xg - xw) &&& (7 : Int32))), (0, .int xw), (1, .int xg)]) hx hb dX7_nearer_17 rfl hl (by decide) rfl (fun ls hl => ?_)
    refine lv_iload_n hx hb dX7_nearer_18 rfl (lv_at hl 2 rfl) ?_
    refine lv_iload_n hx hb dX7_nearer_19 rfl (lv_at hl 0 rfl) ?_
    refine lv_iadd hx hb dX7_nearer_20 ?_
    refine lv_bipush (v := (7 : Int32)) hx hb dX7_nearer_21 (by decide +kernel) ?_
    refine lv_iand hx hb dX7_nearer_23 ?_
    subst hR
    exact ro_iret hx hb hr hlocks dX7_nearer_24
  · rw [if_neg c9] at hR
    refine lv_iconst (v := (1 : Int32)) hx hb dX7_nearer_12 (by decide) ?_
    refine lv_goto (tgt := 17) hx hb dX7_nearer_13 (by decide) ?_
    refine lv_istore_n (lv' := [(3, .int (1 : Int32)), (2, .int ((xg - xw) &&& (7 : Int32))), (0, .int xw), (1, .int xg)]) hx hb dX7_nearer_17 rfl hl (by decide) rfl (fun ls hl => ?_)
    refine lv_iload_n hx hb dX7_nearer_18 rfl (lv_at hl 2 rfl) ?_
    refine lv_iload_n hx hb dX7_nearer_19 rfl (lv_at hl 0 rfl) ?_
    refine lv_iadd hx hb dX7_nearer_20 ?_
    refine lv_bipush (v := (7 : Int32)) hx hb dX7_nearer_21 (by decide +kernel) ?_
    refine lv_iand hx hb dX7_nearer_23 ?_
    subst hR
    exact ro_iret hx hb hr hlocks dX7_nearer_24

theorem in_X7_agreeing_X7 : ∀ w ∈ u_ws RX7 TX7 12, w ∈ wsX7_agreeing := by decide +kernel
theorem hd_X7_isThere : yX7_isThere.cls ≠ "java/lang/invoke/MethodHandle" ∧ yX7_isThere.cls ≠ "java/lang/invoke/VarHandle" ∧ (parseMethodDescriptor yX7_isThere.desc).map (fun d => d.parameters.length) = some 1 := by decide +kernel
theorem hd_X8_apart : yX8_apart.cls ≠ "java/lang/invoke/MethodHandle" ∧ yX8_apart.cls ≠ "java/lang/invoke/VarHandle" ∧ (parseMethodDescriptor yX8_apart.desc).map (fun d => d.parameters.length) = some 2 := by decide +kernel
theorem hd_X8_withBit : yX8_withBit.cls ≠ "java/lang/invoke/MethodHandle" ∧ yX8_withBit.cls ≠ "java/lang/invoke/VarHandle" ∧ (parseMethodDescriptor yX8_withBit.desc).map (fun d => d.parameters.length) = some 3 := by decide +kernel

def lp_X7_agreeing_4 (w_there : Int32) (w_points : Nat → Int32) (xt : Int32) : Nat → Nat → Int32 → Int32
  | 0, _, v2_4 => v2_4
  | k4 + 1, i4, v2_4 => (if ((f_X7_isThere w_there (nI i4)) = 0) then (lp_X7_agreeing_4 w_there w_points xt k4 (i4 + 1) v2_4) else (if ((1 : Int32) < (f_X8_apart (w_points i4) xt)) then (lp_X7_agreeing_4 w_there w_points xt k4 (i4 + 1) v2_4) else (lp_X7_agreeing_4 w_there w_points xt k4 (i4 + 1) (f_X8_withBit v2_4 (nI i4) (1 : Int32)))))
def f_X7_agreeing (w_there : Int32) (w_points : Nat → Int32) (xt : Int32) : Int32 :=
  (lp_X7_agreeing_4 w_there w_points xt 7 0 (0 : Int32))

set_option maxHeartbeats 4000000 in
set_option maxRecDepth 100000 in
theorem c_X7_agreeing (l : Launch) (D : va_G) (cI cJ cZ : ClassId) (w : Nat) (w_points_a : Nat) (w_tired_a : Nat) (w_near_a : Nat) (w_there : Int32) (w_free : Int32) (w_held : Int32) (w_wind : Int32) (w_oil : Int32) (w_hour : Int32) (w_sights : Int32) (w_agreedTo : Int32) (w_refused : Int32) (w_points : Nat → Int32) (xt : Int32) : RO l yX7_agreeing wsX7_agreeing ({ frames := 2, cells := 0, slots := 0, locals := 43 }) [.ref w, .int xt] D cI cJ cZ [(w, .inr (7, [.ref w_points_a, .ref w_tired_a, .ref w_near_a, .int w_there, .int w_free, .int w_held, .int w_wind, .int w_oil, .int w_hour, .int w_sights, .int w_agreedTo, .int w_refused])), (w_points_a, .inl (cI, 7, .inl w_points))] (.int (f_X7_agreeing w_there w_points xt)) := by
  obtain ⟨R, hR⟩ : ∃ R, (f_X7_agreeing w_there w_points xt) = R := ⟨_, rfl⟩
  rw [hR]
  refine ro_start (cc := cX7_agreeing) (maxL := 4) (ret := (some .int)) (by decide) rfl (Nat.le_of_ble_eq_true rfl) ?_
  intro p e s m args below meth c hx hb hr hml hown hts hlocks hP hK ls hl
  have hown : s.vm.findClass RX7 = some m.cls := hown
  have hl : lv_has ls 4 [(0, .ref w), (1, .int xt)] := hl
  have hq0 := hts (.fieldLink RX7 9 "StuckVanes$World" "points" "[I") (by decide +kernel)
  have hq1 := hts (.initialized RX8) (by decide +kernel)
  have hq2 := hts (.static yX8_apart) (by decide +kernel)
  have hq3 := hts (.static yX8_withBit) (by decide +kernel)
  rw [f_X7_agreeing] at hR
  refine lv_iconst (v := (0 : Int32)) hx hb dX7_agreeing_0 (by decide) ?_
  refine lv_istore_n (lv' := [(2, .int (0 : Int32)), (0, .ref w), (1, .int xt)]) hx hb dX7_agreeing_1 rfl hl (by decide) rfl (fun ls hl => ?_)
  refine lv_iconst (v := (0 : Int32)) hx hb dX7_agreeing_2 (by decide) ?_
  refine lv_istore_n (lv' := [(3, .int (0 : Int32)), (2, .int (0 : Int32)), (0, .ref w), (1, .int xt)]) hx hb dX7_agreeing_3 rfl hl (by decide) rfl (fun ls hl => ?_)
  obtain ⟨F4_1, hF4_1⟩ : ∃ x, (lp_X7_agreeing_4 w_there w_points xt 7 0 (0 : Int32)) = x := ⟨_, rfl⟩
  try rw [hF4_1] at hR
  have hexit4 : ∀ (ls : Array Slot), lv_has ls 4 [(2, .int F4_1), (0, .ref w), (1, .int xt)] → W p l e ({ frames := 2, cells := 0, slots := 0, locals := 43 }) s m args below meth c s.heap [] 0 0 (MQ below (ro_Q (.int R)) args s 0 0 (fun _ => False)) (F0 m 45 ls []) := by
    intro ls hl
    refine lv_iload_n hx hb dX7_agreeing_45 rfl (lv_at hl 0 rfl) ?_
    subst hR
    exact ro_iret hx hb hr hlocks dX7_agreeing_46
  have hloop4 : ∀ (k4 i4 : Nat) (v2_4 : Int32), i4 + k4 = 7 → ∀ (ls : Array Slot), lv_has ls 4 [(3, .int (nI i4)), (2, .int v2_4), (0, .ref w), (1, .int xt)] → lp_X7_agreeing_4 w_there w_points xt k4 i4 v2_4 = F4_1 → W p l e ({ frames := 2, cells := 0, slots := 0, locals := 43 }) s m args below meth c s.heap [] 0 0 (MQ below (ro_Q (.int R)) args s 0 0 (fun _ => False)) (F0 m 4 ls []) := by
    intro k4
    induction k4 with
    | zero =>
      intro i4 v2_4 h4 ls hl hR
      obtain rfl : 7 = i4 := by omega
      rw [lp_X7_agreeing_4] at hR
      refine lv_iload_n hx hb dX7_agreeing_4 rfl (lv_at hl 0 rfl) ?_
      refine lv_bipush (v := (7 : Int32)) hx hb dX7_agreeing_5 (by decide +kernel) ?_
      refine lv_icmp_ge (tgt := 45) hx hb dX7_agreeing_7 (by decide) (fun _ => ?_) (fun h => absurd (cle_t (a := 7) (b := 7) rfl rfl (by omega) (by omega)) h)
      subst hR
      exact hexit4 _ (lv_sub hl [1, 2, 3] rfl)
    | succ k4 ih4 =>
      intro i4 v2_4 h4 ls hl hR
      rw [lp_X7_agreeing_4] at hR
      refine lv_iload_n hx hb dX7_agreeing_4 rfl (lv_at hl 0 rfl) ?_
      refine lv_bipush (v := (7 : Int32)) hx hb dX7_agreeing_5 (by decide +kernel) ?_
      refine lv_icmp_ge (tgt := 45) hx hb dX7_agreeing_7 (by decide) (fun h => absurd h (cle_f (a := 7) (b := i4) rfl rfl (by omega) (by omega))) (fun _ => ?_)
      refine lv_aload_n hx hb dX7_agreeing_10 rfl (lv_at hl 2 rfl) ?_
      refine lv_iload_n hx hb dX7_agreeing_11 rfl (lv_at hl 0 rfl) ?_
      refine ro_V (As := [.int (nI i4)]) (rest := []) ⟨hx, hb, hml, hown, hts⟩ hK (c_X7_isThere l D cI cJ cZ w w_points_a w_tired_a w_near_a w_there w_free w_held w_wind w_oil w_hour w_sights w_agreedTo w_refused (nI i4)) hP 0 rfl rfl (rw_sub hP [0] rfl) (cwV 1 hts gX7_agreeing_X7_isThere rfl rfl rfl ⟨rfl, hd_X7_isThere⟩ ⟨(Nat.le_of_ble_eq_true rfl), (Nat.le_of_ble_eq_true rfl)⟩) rfl hl.1 rfl (Nat.le_of_ble_eq_true rfl) dX7_agreeing_12 (Nat.zero_le _) (Nat.zero_le _) ?_
      refine lv_if_eq (tgt := 39) hx hb dX7_agreeing_15 (by decide) (fun c15 => ?_) (fun c15 => ?_)
      · rw [if_pos c15] at hR
        refine lv_iinc (v := (nI (i4 + 1))) (lv' := [(3, .int (nI (i4 + 1))), (2, .int v2_4), (0, .ref w), (1, .int xt)]) hx hb dX7_agreeing_39 hl (k := 0) rfl (by exact nI_add i4 1) (by decide) rfl (fun ls hl => ?_)
        refine lv_goto (tgt := 4) hx hb dX7_agreeing_42 (by decide) ?_
        exact ih4 _ _ (by omega) _ (lv_sub hl [0, 1, 2, 3] rfl) hR
      · rw [if_neg c15] at hR
        refine lv_aload_n hx hb dX7_agreeing_18 rfl (lv_at hl 2 rfl) ?_
        refine va_get (D := D) (ci := 7) (v := .ref w_points_a) (C := RX7) (T := TX7) (N := 12) hx hb hts in_X7_agreeing_X7 hown hK.1 hP 0 rfl rfl 0 (by decide) hq0 (fun _ h9 => h9) rfl dX7_agreeing_19 ?_
        refine lv_iload_n hx hb dX7_agreeing_22 rfl (lv_at hl 0 rfl) ?_
        refine ia_ld hx hb hK hP 1 rfl (i := i4) (by omega) (by decide) dX7_agreeing_23 ?_
        refine lv_iload_n hx hb dX7_agreeing_24 rfl (lv_at hl 3 rfl) ?_
        refine ro_SN (As := [.int (w_points i4), .int xt]) (rest := []) ⟨hx, hb, hml, hown, hts⟩ hK (c_X8_apart l D cI cJ cZ (w_points i4) xt) va_P_nil (va_cnB 2 hts gX7_agreeing_X8_apart_n70 rfl rfl rfl (hK.2 _ gN_40) hq1 hd_X8_apart ⟨(Nat.le_of_ble_eq_true rfl), (Nat.le_of_ble_eq_true rfl)⟩) hq2 rfl hl.1 rfl (Nat.le_of_ble_eq_true rfl) dX7_agreeing_25 (Nat.zero_le _) (Nat.zero_le _) ?_
        refine lv_iconst (v := (1 : Int32)) hx hb dX7_agreeing_28 (by decide) ?_
        refine lv_icmp_gt (tgt := 39) hx hb dX7_agreeing_29 (by decide) (fun c29 => ?_) (fun c29 => ?_)
        · rw [if_pos c29] at hR
          refine lv_iinc (v := (nI (i4 + 1))) (lv' := [(3, .int (nI (i4 + 1))), (2, .int v2_4), (0, .ref w), (1, .int xt)]) hx hb dX7_agreeing_39 hl (k := 0) rfl (by exact nI_add i4 1) (by decide) rfl (fun ls hl => ?_)
          refine lv_goto (tgt := 4) hx hb dX7_agreeing_42 (by decide) ?_
          exact ih4 _ _ (by omega) _ (lv_sub hl [0, 1, 2, 3] rfl) hR
        · rw [if_neg c29] at hR
          refine lv_iload_n hx hb dX7_agreeing_32 rfl (lv_at hl 1 rfl) ?_
          refine lv_iload_n hx hb dX7_agreeing_33 rfl (lv_at hl 0 rfl) ?_
          refine lv_iconst (v := (1 : Int32)) hx hb dX7_agreeing_34 (by decide) ?_
          refine ro_SN (As := [.int v2_4, .int (nI i4), .int (1 : Int32)]) (rest := []) ⟨hx, hb, hml, hown, hts⟩ hK (c_X8_withBit l D cI cJ cZ v2_4 (nI i4) (1 : Int32)) va_P_nil (va_cnB 3 hts gX7_agreeing_X8_withBit_n53 rfl rfl rfl (hK.2 _ gN_36) hq1 hd_X8_withBit ⟨(Nat.le_of_ble_eq_true rfl), (Nat.le_of_ble_eq_true rfl)⟩) hq3 rfl hl.1 rfl (Nat.le_of_ble_eq_true rfl) dX7_agreeing_35 (Nat.zero_le _) (Nat.zero_le _) ?_
          refine lv_istore_n (lv' := [(2, .int (f_X8_withBit v2_4 (nI i4) (1 : Int32))), (3, .int (nI i4)), (0, .ref w), (1, .int xt)]) hx hb dX7_agreeing_38 rfl hl (by decide) rfl (fun ls hl => ?_)
          refine lv_iinc (v := (nI (i4 + 1))) (lv' := [(3, .int (nI (i4 + 1))), (2, .int (f_X8_withBit v2_4 (nI i4) (1 : Int32))), (0, .ref w), (1, .int xt)]) hx hb dX7_agreeing_39 hl (k := 1) rfl (by exact nI_add i4 1) (by decide) rfl (fun ls hl => ?_)
          refine lv_goto (tgt := 4) hx hb dX7_agreeing_42 (by decide) ?_
          exact ih4 _ _ (by omega) _ (lv_sub hl [0, 1, 2, 3] rfl) hR
  exact hloop4 7 0 _ (by omega) _ hl hF4_1
