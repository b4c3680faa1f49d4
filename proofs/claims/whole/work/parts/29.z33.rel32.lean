theorem gl_cf6 (near : Nat → Int32) (xu xn : Int32) : ∀ (k i : Nat) (r : Nat → Int32) (v : Int32), lp_X4_cf6_35 near xu xn k i r v = gl (fun r _ => (f_X4_cf7, r)) (near 6) 6 xu xn k i r v := by
  intro k
  induction k with
  | zero => intro i r v; rfl
  | succ k ih =>
    intro i r v
    rw [lp_X4_cf6_35, gl_s]
    simp only [ih]
theorem gl_cf5 (th : Int32) (near : Nat → Int32) (xu xn : Int32) : ∀ (k i : Nat) (r : Nat → Int32) (v : Int32), lp_X4_cf5_35 th near xu xn k i r v = gl (fun r x => f_X4_cf6 th near r x xn) (near 5) 5 xu xn k i r v := by
  intro k
  induction k with
  | zero => intro i r v; rfl
  | succ k ih =>
    intro i r v
    rw [lp_X4_cf5_35, gl_s]
    simp only [ih]
theorem gl_cf4 (th : Int32) (near : Nat → Int32) (xu xn : Int32) : ∀ (k i : Nat) (r : Nat → Int32) (v : Int32), lp_X4_cf4_35 th near xu xn k i r v = gl (fun r x => f_X4_cf5 th near r x xn) (near 4) 4 xu xn k i r v := by
  intro k
  induction k with
  | zero => intro i r v; rfl
  | succ k ih =>
    intro i r v
    rw [lp_X4_cf4_35, gl_s]
    simp only [ih]
theorem gl_cf3 (th : Int32) (near : Nat → Int32) (xu xn : Int32) : ∀ (k i : Nat) (r : Nat → Int32) (v : Int32), lp_X4_cf3_35 th near xu xn k i r v = gl (fun r x => f_X4_cf4 th near r x xn) (near 3) 3 xu xn k i r v := by
  intro k
  induction k with
  | zero => intro i r v; rfl
  | succ k ih =>
    intro i r v
    rw [lp_X4_cf3_35, gl_s]
    simp only [ih]
theorem gl_cf2 (th : Int32) (near : Nat → Int32) (xu xn : Int32) : ∀ (k i : Nat) (r : Nat → Int32) (v : Int32), lp_X4_cf2_35 th near xu xn k i r v = gl (fun r x => f_X4_cf3 th near r x xn) (near 2) 2 xu xn k i r v := by
  intro k
  induction k with
  | zero => intro i r v; rfl
  | succ k ih =>
    intro i r v
    rw [lp_X4_cf2_35, gl_s]
    simp only [ih]
theorem gl_cf1 (th : Int32) (near : Nat → Int32) (xu xn : Int32) : ∀ (k i : Nat) (r : Nat → Int32) (v : Int32), lp_X4_cf1_35 th near xu xn k i r v = gl (fun r x => f_X4_cf2 th near r x xn) (near 1) 1 xu xn k i r v := by
  intro k
  induction k with
  | zero => intro i r v; rfl
  | succ k ih =>
    intro i r v
    rw [lp_X4_cf1_35, gl_s]
    simp only [ih]
theorem gl_cf0 (th : Int32) (near : Nat → Int32) (xu xn : Int32) : ∀ (k i : Nat) (r : Nat → Int32) (v : Int32), lp_X4_cf0_35 th near xu xn k i r v = gl (fun r x => f_X4_cf1 th near r x xn) (near 0) 0 xu xn k i r v := by
  intro k
  induction k with
  | zero => intro i r v; rfl
  | succ k ih =>
    intro i r v
    rw [lp_X4_cf0_35, gl_s]
    simp only [ih]
theorem sp7 (N : Nat → Nat → Bool) (U : Nat → Bool) : CSp N U (fun pt _ _ => (f_X4_cf7, pt)) 7 := fun n u pt P _ _ _ _ => rfl
theorem br_np {near bs : Nat → Int32} (hb : BR bs) (e : ∀ q, q < 7 → near q = bs q) {p : Nat} (hp : p < 7) : ∃ b, b < 128 ∧ near p = nI b ∧ ∀ v, wN bs p v = b.testBit v := by
  rw [e p hp]
  exact hb p hp
theorem sp6 {near bs : Nat → Int32} (hb : BR bs) (e : ∀ q, q < 7 → near q = bs q) {t : Nat} (ht : t < 128) : CSp (wN bs) (wtb t) (fun pt xu xn => f_X4_cf6 (nI t) near pt xu xn) 6 := by
  refine lev ht (show 6 < 7 by decide) (sp7 _ _) (br_np hb e (show 6 < 7 by decide)) (fun pt xu xn => ?_)
  show f_X4_cf6 (nI t) near pt xu xn = _
  unfold f_X4_cf6
  rw [gl_cf6]
  rfl
theorem sp5 {near bs : Nat → Int32} (hb : BR bs) (e : ∀ q, q < 7 → near q = bs q) {t : Nat} (ht : t < 128) : CSp (wN bs) (wtb t) (fun pt xu xn => f_X4_cf5 (nI t) near pt xu xn) 5 := by
  refine lev ht (show 5 < 7 by decide) (sp6 hb e ht) (br_np hb e (show 5 < 7 by decide)) (fun pt xu xn => ?_)
  show f_X4_cf5 (nI t) near pt xu xn = _
  unfold f_X4_cf5
  rw [gl_cf5]
  rfl
theorem sp4 {near bs : Nat → Int32} (hb : BR bs) (e : ∀ q, q < 7 → near q = bs q) {t : Nat} (ht : t < 128) : CSp (wN bs) (wtb t) (fun pt xu xn => f_X4_cf4 (nI t) near pt xu xn) 4 := by
  refine lev ht (show 4 < 7 by decide) (sp5 hb e ht) (br_np hb e (show 4 < 7 by decide)) (fun pt xu xn => ?_)
  show f_X4_cf4 (nI t) near pt xu xn = _
  unfold f_X4_cf4
  rw [gl_cf4]
  rfl
theorem sp3 {near bs : Nat → Int32} (hb : BR bs) (e : ∀ q, q < 7 → near q = bs q) {t : Nat} (ht : t < 128) : CSp (wN bs) (wtb t) (fun pt xu xn => f_X4_cf3 (nI t) near pt xu xn) 3 := by
  refine lev ht (show 3 < 7 by decide) (sp4 hb e ht) (br_np hb e (show 3 < 7 by decide)) (fun pt xu xn => ?_)
  show f_X4_cf3 (nI t) near pt xu xn = _
  unfold f_X4_cf3
  rw [gl_cf3]
  rfl
theorem sp2 {near bs : Nat → Int32} (hb : BR bs) (e : ∀ q, q < 7 → near q = bs q) {t : Nat} (ht : t < 128) : CSp (wN bs) (wtb t) (fun pt xu xn => f_X4_cf2 (nI t) near pt xu xn) 2 := by
  refine lev ht (show 2 < 7 by decide) (sp3 hb e ht) (br_np hb e (show 2 < 7 by decide)) (fun pt xu xn => ?_)
  show f_X4_cf2 (nI t) near pt xu xn = _
  unfold f_X4_cf2
  rw [gl_cf2]
  rfl
theorem sp1 {near bs : Nat → Int32} (hb : BR bs) (e : ∀ q, q < 7 → near q = bs q) {t : Nat} (ht : t < 128) : CSp (wN bs) (wtb t) (fun pt xu xn => f_X4_cf1 (nI t) near pt xu xn) 1 := by
  refine lev ht (show 1 < 7 by decide) (sp2 hb e ht) (br_np hb e (show 1 < 7 by decide)) (fun pt xu xn => ?_)
  show f_X4_cf1 (nI t) near pt xu xn = _
  unfold f_X4_cf1
  rw [gl_cf1]
  rfl
theorem sp0 {near bs : Nat → Int32} (hb : BR bs) (e : ∀ q, q < 7 → near q = bs q) {t : Nat} (ht : t < 128) : CSp (wN bs) (wtb t) (fun pt xu xn => f_X4_cf0 (nI t) near pt xu xn) 0 := by
  refine lev ht (show 0 < 7 by decide) (sp1 hb e ht) (br_np hb e (show 0 < 7 by decide)) (fun pt xu xn => ?_)
  show f_X4_cf0 (nI t) near pt xu xn = _
  unfold f_X4_cf0
  rw [gl_cf0]
  rfl
