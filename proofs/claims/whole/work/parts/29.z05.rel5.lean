theorem at_image_19 (s : Nat → Int32) : ∀ (k i : Nat) (r : Nat → Int32) (q : Nat), lp_X9_image_19 s k i r q = if 0 + i ≤ q ∧ q < 0 + i + k then s (q - 0) else r q
  | 0, i, r, q => by rw [if_neg (by omega)]; rfl
  | k + 1, i, r, q => by
    show lp_X9_image_19 s k (i + 1) (upd r (0 + i) (s i)) q = _
    rw [at_image_19 s k (i + 1)]
    by_cases c : q = 0 + i
    · subst c; rw [if_neg (by omega), if_pos (by omega), upd_eq]; congr 1; omega
    · rw [upd_ne _ _ c]
      by_cases c2 : 0 + (i + 1) ≤ q ∧ q < 0 + (i + 1) + k
      · rw [if_pos c2, if_pos (by omega)]
      · rw [if_neg c2, if_neg (by omega)]
theorem at_image_47 (s : Nat → Int32) : ∀ (k i : Nat) (r : Nat → Int32) (q : Nat), lp_X9_image_47 s k i r q = if 19 + i ≤ q ∧ q < 19 + i + k then s (q - 19) else r q
  | 0, i, r, q => by rw [if_neg (by omega)]; rfl
  | k + 1, i, r, q => by
    show lp_X9_image_47 s k (i + 1) (upd r (19 + i) (s i)) q = _
    rw [at_image_47 s k (i + 1)]
    by_cases c : q = 19 + i
    · subst c; rw [if_neg (by omega), if_pos (by omega), upd_eq]; congr 1; omega
    · rw [upd_ne _ _ c]
      by_cases c2 : 19 + (i + 1) ≤ q ∧ q < 19 + (i + 1) + k
      · rw [if_pos c2, if_pos (by omega)]
      · rw [if_neg c2, if_neg (by omega)]
theorem at_image_78 (s : Nat → Int32) : ∀ (k i : Nat) (r : Nat → Int32) (q : Nat), lp_X9_image_78 s k i r q = if 26 + i ≤ q ∧ q < 26 + i + k then s (q - 26) else r q
  | 0, i, r, q => by rw [if_neg (by omega)]; rfl
  | k + 1, i, r, q => by
    show lp_X9_image_78 s k (i + 1) (upd r (26 + i) (s i)) q = _
    rw [at_image_78 s k (i + 1)]
    by_cases c : q = 26 + i
    · subst c; rw [if_neg (by omega), if_pos (by omega), upd_eq]; congr 1; omega
    · rw [upd_ne _ _ c]
      by_cases c2 : 26 + (i + 1) ≤ q ∧ q < 26 + (i + 1) + k
      · rw [if_pos c2, if_pos (by omega)]
      · rw [if_neg c2, if_neg (by omega)]
theorem at_image_19b (s : Nat → Int32) : ∀ (k i : Nat) (r : Nat → Int32) (q : Nat), lp_X9_image_19b s k i r q = if 50 + i ≤ q ∧ q < 50 + i + k then s (q - 50) else r q
  | 0, i, r, q => by rw [if_neg (by omega)]; rfl
  | k + 1, i, r, q => by
    show lp_X9_image_19b s k (i + 1) (upd r (50 + i) (s i)) q = _
    rw [at_image_19b s k (i + 1)]
    by_cases c : q = 50 + i
    · subst c; rw [if_neg (by omega), if_pos (by omega), upd_eq]; congr 1; omega
    · rw [upd_ne _ _ c]
      by_cases c2 : 50 + (i + 1) ≤ q ∧ q < 50 + (i + 1) + k
      · rw [if_pos c2, if_pos (by omega)]
      · rw [if_neg c2, if_neg (by omega)]
theorem at_image_47b (s : Nat → Int32) : ∀ (k i : Nat) (r : Nat → Int32) (q : Nat), lp_X9_image_47b s k i r q = if 69 + i ≤ q ∧ q < 69 + i + k then s (q - 69) else r q
  | 0, i, r, q => by rw [if_neg (by omega)]; rfl
  | k + 1, i, r, q => by
    show lp_X9_image_47b s k (i + 1) (upd r (69 + i) (s i)) q = _
    rw [at_image_47b s k (i + 1)]
    by_cases c : q = 69 + i
    · subst c; rw [if_neg (by omega), if_pos (by omega), upd_eq]; congr 1; omega
    · rw [upd_ne _ _ c]
      by_cases c2 : 69 + (i + 1) ≤ q ∧ q < 69 + (i + 1) + k
      · rw [if_pos c2, if_pos (by omega)]
      · rw [if_neg c2, if_neg (by omega)]
theorem at_image_78b (s : Nat → Int32) : ∀ (k i : Nat) (r : Nat → Int32) (q : Nat), lp_X9_image_78b s k i r q = if 76 + i ≤ q ∧ q < 76 + i + k then s (q - 76) else r q
  | 0, i, r, q => by rw [if_neg (by omega)]; rfl
  | k + 1, i, r, q => by
    show lp_X9_image_78b s k (i + 1) (upd r (76 + i) (s i)) q = _
    rw [at_image_78b s k (i + 1)]
    by_cases c : q = 76 + i
    · subst c; rw [if_neg (by omega), if_pos (by omega), upd_eq]; congr 1; omega
    · rw [upd_ne _ _ c]
      by_cases c2 : 76 + (i + 1) ≤ q ∧ q < 76 + (i + 1) + k
      · rw [if_pos c2, if_pos (by omega)]
      · rw [if_neg c2, if_neg (by omega)]
theorem at_restore_31 (s : Nat → Int32) : ∀ (k i : Nat) (r : Nat → Int32) (q : Nat), lp_X9_restore_31 s k i r q = if i ≤ q ∧ q < i + k then s (0 + q) else r q
  | 0, i, r, q => by rw [if_neg (by omega)]; rfl
  | k + 1, i, r, q => by
    show lp_X9_restore_31 s k (i + 1) (upd r i (s (0 + i))) q = _
    rw [at_restore_31 s k (i + 1)]
    by_cases c : q = i
    · subst c; rw [if_neg (by omega), if_pos (by omega), upd_eq]
    · rw [upd_ne _ _ c]
      by_cases c2 : i + 1 ≤ q ∧ q < i + 1 + k
      · rw [if_pos c2, if_pos (by omega)]
      · rw [if_neg c2, if_neg (by omega)]
theorem at_restore_59 (s : Nat → Int32) : ∀ (k i : Nat) (r : Nat → Int32) (q : Nat), lp_X9_restore_59 s k i r q = if i ≤ q ∧ q < i + k then s (19 + q) else r q
  | 0, i, r, q => by rw [if_neg (by omega)]; rfl
  | k + 1, i, r, q => by
    show lp_X9_restore_59 s k (i + 1) (upd r i (s (19 + i))) q = _
    rw [at_restore_59 s k (i + 1)]
    by_cases c : q = i
    · subst c; rw [if_neg (by omega), if_pos (by omega), upd_eq]
    · rw [upd_ne _ _ c]
      by_cases c2 : i + 1 ≤ q ∧ q < i + 1 + k
      · rw [if_pos c2, if_pos (by omega)]
      · rw [if_neg c2, if_neg (by omega)]
theorem at_restore_90 (s : Nat → Int32) : ∀ (k i : Nat) (r : Nat → Int32) (q : Nat), lp_X9_restore_90 s k i r q = if i ≤ q ∧ q < i + k then s (26 + q) else r q
  | 0, i, r, q => by rw [if_neg (by omega)]; rfl
  | k + 1, i, r, q => by
    show lp_X9_restore_90 s k (i + 1) (upd r i (s (26 + i))) q = _
    rw [at_restore_90 s k (i + 1)]
    by_cases c : q = i
    · subst c; rw [if_neg (by omega), if_pos (by omega), upd_eq]
    · rw [upd_ne _ _ c]
      by_cases c2 : i + 1 ≤ q ∧ q < i + 1 + k
      · rw [if_pos c2, if_pos (by omega)]
      · rw [if_neg c2, if_neg (by omega)]
theorem at_restore_31b (s : Nat → Int32) : ∀ (k i : Nat) (r : Nat → Int32) (q : Nat), lp_X9_restore_31b s k i r q = if i ≤ q ∧ q < i + k then s (50 + q) else r q
  | 0, i, r, q => by rw [if_neg (by omega)]; rfl
  | k + 1, i, r, q => by
    show lp_X9_restore_31b s k (i + 1) (upd r i (s (50 + i))) q = _
    rw [at_restore_31b s k (i + 1)]
    by_cases c : q = i
    · subst c; rw [if_neg (by omega), if_pos (by omega), upd_eq]
    · rw [upd_ne _ _ c]
      by_cases c2 : i + 1 ≤ q ∧ q < i + 1 + k
      · rw [if_pos c2, if_pos (by omega)]
      · rw [if_neg c2, if_neg (by omega)]
theorem at_restore_59b (s : Nat → Int32) : ∀ (k i : Nat) (r : Nat → Int32) (q : Nat), lp_X9_restore_59b s k i r q = if i ≤ q ∧ q < i + k then s (69 + q) else r q
  | 0, i, r, q => by rw [if_neg (by omega)]; rfl
  | k + 1, i, r, q => by
    show lp_X9_restore_59b s k (i + 1) (upd r i (s (69 + i))) q = _
    rw [at_restore_59b s k (i + 1)]
    by_cases c : q = i
    · subst c; rw [if_neg (by omega), if_pos (by omega), upd_eq]
    · rw [upd_ne _ _ c]
      by_cases c2 : i + 1 ≤ q ∧ q < i + 1 + k
      · rw [if_pos c2, if_pos (by omega)]
      · rw [if_neg c2, if_neg (by omega)]
theorem at_restore_90b (s : Nat → Int32) : ∀ (k i : Nat) (r : Nat → Int32) (q : Nat), lp_X9_restore_90b s k i r q = if i ≤ q ∧ q < i + k then s (76 + q) else r q
  | 0, i, r, q => by rw [if_neg (by omega)]; rfl
  | k + 1, i, r, q => by
    show lp_X9_restore_90b s k (i + 1) (upd r i (s (76 + i))) q = _
    rw [at_restore_90b s k (i + 1)]
    by_cases c : q = i
    · subst c; rw [if_neg (by omega), if_pos (by omega), upd_eq]
    · rw [upd_ne _ _ c]
      by_cases c2 : i + 1 ≤ q ∧ q < i + 1 + k
      · rw [if_pos c2, if_pos (by omega)]
      · rw [if_neg c2, if_neg (by omega)]
theorem at_like (s1 s2 s3 : Nat → Int32) : ∀ (k i : Nat) (r1 r2 r3 : Nat → Int32) (q : Nat), (lp_X7_becomeLike_2 s1 s2 s3 k i r1 r2 r3).1 q = (if i ≤ q ∧ q < i + k then s1 q else r1 q) ∧ (lp_X7_becomeLike_2 s1 s2 s3 k i r1 r2 r3).2.1 q = (if i ≤ q ∧ q < i + k then s2 q else r2 q) ∧ (lp_X7_becomeLike_2 s1 s2 s3 k i r1 r2 r3).2.2 q = (if i ≤ q ∧ q < i + k then s3 q else r3 q)
  | 0, i, r1, r2, r3, q => by rw [if_neg (by omega), if_neg (by omega), if_neg (by omega)]; exact ⟨rfl, rfl, rfl⟩
  | k + 1, i, r1, r2, r3, q => by
    have ih := at_like s1 s2 s3 k (i + 1) (upd r1 i (s1 i)) (upd r2 i (s2 i)) (upd r3 i (s3 i)) q
    show (lp_X7_becomeLike_2 s1 s2 s3 k (i + 1) (upd r1 i (s1 i)) (upd r2 i (s2 i)) (upd r3 i (s3 i))).1 q = _ ∧ (lp_X7_becomeLike_2 s1 s2 s3 k (i + 1) (upd r1 i (s1 i)) (upd r2 i (s2 i)) (upd r3 i (s3 i))).2.1 q = _ ∧ (lp_X7_becomeLike_2 s1 s2 s3 k (i + 1) (upd r1 i (s1 i)) (upd r2 i (s2 i)) (upd r3 i (s3 i))).2.2 q = _
    rw [ih.1, ih.2.1, ih.2.2]
    by_cases c : q = i
    · subst c
      have a : ¬ (q + 1 ≤ q ∧ q < q + 1 + k) := by omega
      have b : q ≤ q ∧ q < q + (k + 1) := by omega
      rw [if_neg a, if_neg a, if_neg a, if_pos b, if_pos b, if_pos b, upd_eq, upd_eq, upd_eq]; exact ⟨rfl, rfl, rfl⟩
    · rw [upd_ne _ _ c, upd_ne _ _ c, upd_ne _ _ c]
      by_cases c2 : i + 1 ≤ q ∧ q < i + 1 + k
      · have b : i ≤ q ∧ q < i + (k + 1) := by omega
        rw [if_pos c2, if_pos c2, if_pos c2, if_pos b, if_pos b, if_pos b]; exact ⟨rfl, rfl, rfl⟩
      · have b : ¬ (i ≤ q ∧ q < i + (k + 1)) := by omega
        rw [if_neg c2, if_neg c2, if_neg c2, if_neg b, if_neg b, if_neg b]; exact ⟨rfl, rfl, rfl⟩
theorem like_lt (s1 s2 s3 r1 r2 r3 : Nat → Int32) {q : Nat} (h : q < 7) : (lp_X7_becomeLike_2 s1 s2 s3 7 0 r1 r2 r3).1 q = s1 q ∧ (lp_X7_becomeLike_2 s1 s2 s3 7 0 r1 r2 r3).2.1 q = s2 q ∧ (lp_X7_becomeLike_2 s1 s2 s3 7 0 r1 r2 r3).2.2 q = s3 q := by
  have b : 0 ≤ q ∧ q < 0 + 7 := by omega
  have := at_like s1 s2 s3 7 0 r1 r2 r3 q
  rw [if_pos b, if_pos b, if_pos b] at this
  exact this
theorem relw_copy {pts trd nr : Nat → Int32} {th fr he wi oi ho si ag re : Int32} {bk : Nat → Int32} {mth : Int32} {bs : Nat → Int32} {ms : Nat} {sg : Nat → Int32} (h : RelW pts trd nr th fr he wi oi ho si ag re bk mth bs ms sg)
    {pts' trd' nr' bk' bs' sg' : Nat → Int32} {mth' : Int32} (e1 : ∀ q, q < 7 → pts' q = pts q ∧ trd' q = trd q ∧ nr' q = nr q) (e2 : ∀ q, q < 19 → bk' q = bk q) (e3 : mth' = mth) (e4 : ∀ q, q < 7 → bs' q = bs q) (e5 : ∀ q, q < 16 → sg' q = sg q) :
    RelW pts' trd' nr' th fr he wi oi ho si ag re bk' mth' bs' ms sg' := by
  obtain ⟨hq, h1, h2, h3, h4, h5, h6, h7, h8, h9, w1, w2, w3, w4, w5, w6, w7, w8, w9, w10, w11⟩ := h
  subst e3
  refine ⟨fun q hq' => ?_, h1, ?_, ?_, ?_, ?_, ?_, h7, ?_, ?_, fun q hq' => ?_, w2, ?_, ?_, ?_, ?_, ?_, w8, fun i hi => ?_, fun u v hu hv hx => ?_, fun u hu hx => ?_⟩
  · rw [(e1 q hq').1, (e1 q hq').2.1, (e1 q hq').2.2, e2 q (by omega), e2 (7 + q) (by omega), e4 q hq']; exact hq q hq'
  · rw [e2 14 (by omega)]; exact h2
  · rw [e2 15 (by omega)]; exact h3
  · rw [e2 16 (by omega)]; exact h4
  · rw [e2 17 (by omega)]; exact h5
  · rw [e2 18 (by omega)]; exact h6
  · rw [h8]; exact sgs_congr _ _ (fun i hi => (e5 i (by omega)).symm)
  · rw [h9]; exact sgs_congr _ _ (fun i hi => (e5 i (by omega)).symm)
  · rw [e2 q (by omega), e2 (7 + q) (by omega), e4 q hq']; exact w1 q hq'
  · rw [e2 14 (by omega)]; exact w3
  · rw [e2 15 (by omega)]; exact w4
  · rw [e2 16 (by omega)]; exact w5
  · rw [e2 17 (by omega)]; exact w6
  · rw [e2 18 (by omega)]; exact w7
  · rw [e5 (2 * i) (by omega), e5 (2 * i + 1) (by omega)]; exact w9 i hi
  · rw [e4 u hu] at hx; rw [e4 v hv]; exact w10 u v hu hv hx
  · rw [e4 u hu] at hx; exact w11 u hu hx
theorem reli_congr {k : Int32} {pts trd nr : Nat → Int32} {th fr he wi oi ho si ag re : Int32} {im im' : Nat → Int32} (h : RelI k pts trd nr th fr he wi oi ho si ag re im) (e : ∀ q, q < 50 → im' q = im q) : RelI k pts trd nr th fr he wi oi ho si ag re im' := by
  rcases h with h | ⟨ms, h1, h2⟩
  · exact Or.inl h
  · exact Or.inr ⟨ms, by rw [e 46 (by omega)]; exact h1, relw_copy h2 (fun q _ => ⟨rfl, rfl, rfl⟩) (fun q hq => e q (by omega)) (e 45 (by omega)) (fun q hq => e (19 + q) (by omega)) (fun q hq => e (26 + q) (by omega))⟩
theorem relk_set {kp : Int32} {ik : Nat → Int32} (h : RelK kp ik) : RelK (f_X8_withBit kp 0 1) (upd ik 0 (vp_nar .boolean (1 : Int32))) ∧ RelK (f_X8_withBit kp 1 1) (upd ik 1 (vp_nar .boolean (1 : Int32))) := by
  have hv : vp_nar .boolean (1 : Int32) = 1 := by decide +kernel
  rw [hv]
  obtain ⟨h0, h1, h2⟩ := h
  have u0 : upd ik 0 1 0 = 1 := rfl
  have u1 : upd ik 0 1 1 = ik 1 := rfl
  have u2 : upd ik 1 1 0 = ik 0 := rfl
  have u3 : upd ik 1 1 1 = 1 := rfl
  unfold RelK
  rw [u0, u1, u2, u3]
  refine ⟨⟨Or.inr rfl, h1, ?_⟩, ⟨h0, Or.inr rfl, ?_⟩⟩
  · rcases h0 with a | a <;> rcases h1 with b | b <;> rw [h2, a, b] <;> decide
  · rcases h0 with a | a <;> rcases h1 with b | b <;> rw [h2, a, b] <;> decide
theorem relk_has {kp : Int32} {ik : Nat → Int32} (h : RelK kp ik) : (f_X8_hasBit kp 0 = 0 ↔ ik 0 = 0) ∧ (f_X8_hasBit kp 1 = 0 ↔ ik 1 = 0) := by
  obtain ⟨h0, h1, h2⟩ := h
  rcases h0 with a | a <;> rcases h1 with b | b <;> rw [h2, a, b] <;> decide
