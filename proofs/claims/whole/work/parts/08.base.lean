/-! small rows that the walks use -/
theorem va_P_nil {D : va_G} {cl : List vw_C} {H : Heap} : va_P D cl [] H := fun k q h => by simp at h
theorem iinc_m1 (x : Int32) : x + Int32.ofInt (-1) = x - 1 := by rw [Int32.sub_eq_add_neg]; rfl
theorem iinc_pred (n : Nat) : nI (n + 1) + Int32.ofInt (-1) = nI n := by rw [iinc_m1, nI_pred]
theorem gN_0 : (.methodLinkNest RX8 9 yX7_init "StuckVanes" : Cond) ∈ gN := List.mem_of_getElem? (i := 0) rfl
theorem gN_1 : (.fieldLinkNest RX0 55 "StuckVanes$World" "points" "[I" "StuckVanes" : Cond) ∈ gN := List.mem_of_getElem? (i := 1) rfl
theorem gN_2 : (.fieldLinkNest RX8 90 "StuckVanes$World" "near" "[I" "StuckVanes" : Cond) ∈ gN := List.mem_of_getElem? (i := 2) rfl
theorem gN_3 : (.fieldLinkNest RX4 36 "StuckVanes$World" "near" "[I" "StuckVanes" : Cond) ∈ gN := List.mem_of_getElem? (i := 3) rfl
theorem gN_4 : (.fieldLinkNest RX4 19 "StuckVanes$World" "there" "I" "StuckVanes" : Cond) ∈ gN := List.mem_of_getElem? (i := 4) rfl
theorem gN_5 : (.fieldLinkNest RX8 252 "StuckVanes$World" "there" "I" "StuckVanes" : Cond) ∈ gN := List.mem_of_getElem? (i := 5) rfl
theorem gN_6 : (.fieldLinkNest RX8 108 "StuckVanes$World" "held" "I" "StuckVanes" : Cond) ∈ gN := List.mem_of_getElem? (i := 6) rfl
theorem gN_7 : (.fieldLinkNest RX6 66 "StuckVanes$World" "held" "I" "StuckVanes" : Cond) ∈ gN := List.mem_of_getElem? (i := 7) rfl
theorem gN_8 : (.fieldLinkNest RX8 101 "StuckVanes$World" "wind" "I" "StuckVanes" : Cond) ∈ gN := List.mem_of_getElem? (i := 8) rfl
theorem gN_9 : (.fieldLinkNest RX8 105 "StuckVanes$World" "oil" "I" "StuckVanes" : Cond) ∈ gN := List.mem_of_getElem? (i := 9) rfl
theorem gN_10 : (.fieldLinkNest RX8 141 "StuckVanes$World" "hour" "I" "StuckVanes" : Cond) ∈ gN := List.mem_of_getElem? (i := 10) rfl
theorem gN_11 : (.fieldLinkNest RX8 190 "StuckVanes$World" "sights" "I" "StuckVanes" : Cond) ∈ gN := List.mem_of_getElem? (i := 11) rfl
theorem gN_12 : (.fieldLinkNest RX2 40 "StuckVanes$World" "agreedTo" "I" "StuckVanes" : Cond) ∈ gN := List.mem_of_getElem? (i := 12) rfl
theorem gN_13 : (.fieldLinkNest RX8 197 "StuckVanes$World" "agreedTo" "I" "StuckVanes" : Cond) ∈ gN := List.mem_of_getElem? (i := 13) rfl
theorem gN_14 : (.fieldLinkNest RX2 45 "StuckVanes$World" "refused" "I" "StuckVanes" : Cond) ∈ gN := List.mem_of_getElem? (i := 14) rfl
theorem gN_15 : (.fieldLinkNest RX8 200 "StuckVanes$World" "refused" "I" "StuckVanes" : Cond) ∈ gN := List.mem_of_getElem? (i := 15) rfl
theorem gN_16 : (.methodLinkNest RX8 24 yX3_init "StuckVanes" : Cond) ∈ gN := List.mem_of_getElem? (i := 16) rfl
theorem gN_17 : (.fieldLinkNest RX8 114 "StuckVanes$Pad" "length" "I" "StuckVanes" : Cond) ∈ gN := List.mem_of_getElem? (i := 17) rfl
theorem gN_18 : (.fieldLinkNest RX6 32 "StuckVanes$Pad" "kinds" "[I" "StuckVanes" : Cond) ∈ gN := List.mem_of_getElem? (i := 18) rfl
theorem gN_19 : (.fieldLinkNest RX6 36 "StuckVanes$Pad" "parishes" "[I" "StuckVanes" : Cond) ∈ gN := List.mem_of_getElem? (i := 19) rfl
theorem gN_20 : (.fieldLinkNest RX6 39 "StuckVanes$Pad" "numbers" "[I" "StuckVanes" : Cond) ∈ gN := List.mem_of_getElem? (i := 20) rfl
theorem gN_21 : (.fieldLinkNest RX6 28 "StuckVanes$Pad" "acts" "I" "StuckVanes" : Cond) ∈ gN := List.mem_of_getElem? (i := 21) rfl
theorem gN_22 : (.methodLinkNest RX8 31 yX6_init "StuckVanes" : Cond) ∈ gN := List.mem_of_getElem? (i := 22) rfl
theorem gN_23 : (.methodLinkNest RX6 11 yX7_init "StuckVanes" : Cond) ∈ gN := List.mem_of_getElem? (i := 23) rfl
theorem gN_24 : (.fieldLinkNest RX8 127 "StuckVanes$Weeks" "world" "LStuckVanes$World;" "StuckVanes" : Cond) ∈ gN := List.mem_of_getElem? (i := 24) rfl
theorem gN_25 : (.fieldLinkNest RX8 124 "StuckVanes$Weeks" "acts" "I" "StuckVanes" : Cond) ∈ gN := List.mem_of_getElem? (i := 25) rfl
theorem gN_26 : (.fieldLinkNest RX8 147 "StuckVanes$Weeks" "heldAct" "I" "StuckVanes" : Cond) ∈ gN := List.mem_of_getElem? (i := 26) rfl
theorem gN_27 : (.fieldLinkNest RX8 150 "StuckVanes$Weeks" "heldThing" "I" "StuckVanes" : Cond) ∈ gN := List.mem_of_getElem? (i := 27) rfl
theorem gN_28 : (.methodLinkNest RX8 38 yX0_init "StuckVanes" : Cond) ∈ gN := List.mem_of_getElem? (i := 28) rfl
theorem gN_29 : (.methodLinkNest RX8 45 yX4_init "StuckVanes" : Cond) ∈ gN := List.mem_of_getElem? (i := 29) rfl
theorem gN_30 : (.methodLinkNest RX8 52 yX2_init "StuckVanes" : Cond) ∈ gN := List.mem_of_getElem? (i := 30) rfl
theorem gN_31 : (.fieldLinkNest RX8 210 "StuckVanes$Guesses" "thing" "I" "StuckVanes" : Cond) ∈ gN := List.mem_of_getElem? (i := 31) rfl
theorem gN_32 : (.fieldLinkNest RX8 213 "StuckVanes$Guesses" "left" "I" "StuckVanes" : Cond) ∈ gN := List.mem_of_getElem? (i := 32) rfl
theorem gN_33 : (.methodLinkNest RX8 59 yX5_init "StuckVanes" : Cond) ∈ gN := List.mem_of_getElem? (i := 33) rfl
theorem gN_34 : (.methodLinkNest RX8 66 yX1_init "StuckVanes" : Cond) ∈ gN := List.mem_of_getElem? (i := 34) rfl
theorem gN_35 : (.methodLinkNest RX7 49 yX8_isParish "StuckVanes" : Cond) ∈ gN := List.mem_of_getElem? (i := 35) rfl
theorem gN_36 : (.methodLinkNest RX7 53 yX8_withBit "StuckVanes" : Cond) ∈ gN := List.mem_of_getElem? (i := 36) rfl
theorem gN_37 : (.methodLinkNest RX3 46 yX8_isWay "StuckVanes" : Cond) ∈ gN := List.mem_of_getElem? (i := 37) rfl
theorem gN_38 : (.methodLinkNest RX3 43 yX8_isParish "StuckVanes" : Cond) ∈ gN := List.mem_of_getElem? (i := 38) rfl
theorem gN_39 : (.methodLinkNest RX7 66 yX8_hasBit "StuckVanes" : Cond) ∈ gN := List.mem_of_getElem? (i := 39) rfl
theorem gN_40 : (.methodLinkNest RX7 70 yX8_apart "StuckVanes" : Cond) ∈ gN := List.mem_of_getElem? (i := 40) rfl
theorem gN_41 : (.methodLinkNest RX0 24 yX8_isWay "StuckVanes" : Cond) ∈ gN := List.mem_of_getElem? (i := 41) rfl
theorem gN_42 : (.methodLinkNest RX0 28 yX8_withBit "StuckVanes" : Cond) ∈ gN := List.mem_of_getElem? (i := 42) rfl
theorem gN_43 : (.methodLinkNest RX0 58 yX8_apart "StuckVanes" : Cond) ∈ gN := List.mem_of_getElem? (i := 43) rfl
theorem gN_44 : (.methodLinkNest RX0 46 yX8_hasBit "StuckVanes" : Cond) ∈ gN := List.mem_of_getElem? (i := 44) rfl
theorem gN_45 : (.methodLinkNest RX4 29 yX8_isParish "StuckVanes" : Cond) ∈ gN := List.mem_of_getElem? (i := 45) rfl
theorem gN_46 : (.methodLinkNest RX4 39 yX8_withBit "StuckVanes" : Cond) ∈ gN := List.mem_of_getElem? (i := 46) rfl
theorem gN_47 : (.methodLinkNest RX2 48 yX8_withBit "StuckVanes" : Cond) ∈ gN := List.mem_of_getElem? (i := 47) rfl
theorem gN_48 : (.methodLinkNest RX5 15 yX8_isUpTo "StuckVanes" : Cond) ∈ gN := List.mem_of_getElem? (i := 48) rfl
