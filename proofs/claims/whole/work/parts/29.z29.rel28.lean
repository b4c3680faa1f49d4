def wsm : Nat → (Nat → Nat) → Nat
  | 0, _ => 0
  | n + 1, g => wsm n g + g n
def wemp : Nat → Bool := fun _ => false
def wins (p : Nat) (T : Nat → Bool) : Nat → Bool := fun u => if u = p then true else T u
def wdif (U T : Nat → Bool) : Nat → Bool := fun u => U u && !(T u)
def wput (P : Nat → Nat → Bool) (w p : Nat) : Nat → Nat → Bool := fun w' => if w' = w then wins p (P w) else P w'
noncomputable def wcp (N : Nat → Nat → Bool) (p : Nat) (Q : Nat → Bool) : Bool := @decide (∀ v : Nat, v < 7 → N p v = true → Q v = false) (Classical.propDecidable _)
noncomputable def WC (N : Nat → Nat → Bool) (U : Nat → Bool) (n : Nat) : Nat → Nat → (Nat → Nat → Bool) → Nat
  | 0, _, _ => 1
  | k + 1, p, P => if U p = true then wsm n (fun w => if wcp N p (P w) = true then WC N U n k (p + 1) (wput P w p) else 0) else WC N U n k (p + 1) P
noncomputable def WS (N : Nat → Nat → Bool) (U : Nat → Bool) : Nat → Nat → (Nat → Bool) → ((Nat → Bool) → Nat) → Nat
  | 0, _, _, f => f wemp
  | k + 1, p, Q, f => WS N U k (p + 1) Q f + (if U p = true ∧ wcp N p Q = true then WS N U k (p + 1) (wins p Q) (fun T => f (wins p T)) else 0)
theorem wsm_congr {n : Nat} {g h : Nat → Nat} (e : ∀ w, w < n → g w = h w) : wsm n g = wsm n h := by
  induction n with
  | zero => rfl
  | succ n ih =>
    show wsm n g + g n = wsm n h + h n
    rw [ih (fun w hw => e w (by omega)), e n (by omega)]
theorem wsm_zero (n : Nat) : wsm n (fun _ => 0) = 0 := by
  induction n with
  | zero => rfl
  | succ n ih => show wsm n (fun _ => 0) + 0 = 0; rw [ih]
theorem wsm_add (n : Nat) (g h : Nat → Nat) : wsm n (fun w => g w + h w) = wsm n g + wsm n h := by
  induction n with
  | zero => rfl
  | succ n ih =>
    show wsm n (fun w => g w + h w) + (g n + h n) = wsm n g + g n + (wsm n h + h n)
    rw [ih]; omega
theorem wput_at (P : Nat → Nat → Bool) (w p w' : Nat) : wput P w p w' = if w' = w then wins p (P w) else P w' := rfl
theorem wc_s (N : Nat → Nat → Bool) (U : Nat → Bool) (n k p : Nat) (P : Nat → Nat → Bool) : WC N U n (k + 1) p P = if U p = true then wsm n (fun w => if wcp N p (P w) = true then WC N U n k (p + 1) (wput P w p) else 0) else WC N U n k (p + 1) P := rfl
theorem ws_s (N : Nat → Nat → Bool) (U : Nat → Bool) (k p : Nat) (Q : Nat → Bool) (f : (Nat → Bool) → Nat) : WS N U (k + 1) p Q f = WS N U k (p + 1) Q f + (if U p = true ∧ wcp N p Q = true then WS N U k (p + 1) (wins p Q) (fun T => f (wins p T)) else 0) := rfl
theorem wc_congU (N : Nat → Nat → Bool) {U U' : Nat → Bool} (n : Nat) : ∀ (k p : Nat) (P : Nat → Nat → Bool), (∀ u, p ≤ u → U u = U' u) → WC N U n k p P = WC N U' n k p P := by
  intro k
  induction k with
  | zero => intro p P _; rfl
  | succ k ih =>
    intro p P h
    rw [wc_s, wc_s, h p (Nat.le_refl _)]
    have e : ∀ P', WC N U n k (p + 1) P' = WC N U' n k (p + 1) P' := fun P' => ih (p + 1) P' (fun u hu => h u (by omega))
    rw [e]
    have e2 : (fun w => if wcp N p (P w) = true then WC N U n k (p + 1) (wput P w p) else 0) = (fun w => if wcp N p (P w) = true then WC N U' n k (p + 1) (wput P w p) else 0) := by
      funext w; rw [e]
    rw [e2]
theorem wc_congP (N : Nat → Nat → Bool) (U : Nat → Bool) (n : Nat) : ∀ (k p : Nat) (P P' : Nat → Nat → Bool), (∀ w, w < n → P w = P' w) → WC N U n k p P = WC N U n k p P' := by
  intro k
  induction k with
  | zero => intro p P P' _; rfl
  | succ k ih =>
    intro p P P' h
    rw [wc_s, wc_s, ih (p + 1) P P' h]
    by_cases c : U p = true
    · rw [if_pos c, if_pos c]
      refine wsm_congr fun w hw => ?_
      rw [h w hw, ih (p + 1) (wput P w p) (wput P' w p) (fun w' hw' => by rw [wput_at, wput_at, h w hw, h w' hw'])]
    · rw [if_neg c, if_neg c]
theorem ws_congr (N : Nat → Nat → Bool) (U : Nat → Bool) : ∀ (k p : Nat) (Q : Nat → Bool) (f g : (Nat → Bool) → Nat), (∀ T, (∀ u, u < p → T u = false) → f T = g T) → WS N U k p Q f = WS N U k p Q g := by
  intro k
  induction k with
  | zero => intro p Q f g h; exact h wemp (fun _ _ => rfl)
  | succ k ih =>
    intro p Q f g h
    rw [ws_s, ws_s, ih (p + 1) Q f g (fun T hT => h T (fun u hu => hT u (by omega)))]
    rw [ih (p + 1) (wins p Q) (fun T => f (wins p T)) (fun T => g (wins p T)) (fun T hT => h (wins p T) (fun u hu => by
      show (if u = p then true else T u) = false
      rw [if_neg (by omega)]; exact hT u (by omega)))]
theorem ws_zero (N : Nat → Nat → Bool) (U : Nat → Bool) : ∀ (k p : Nat) (Q : Nat → Bool), WS N U k p Q (fun _ => 0) = 0 := by
  intro k
  induction k with
  | zero => intro p Q; rfl
  | succ k ih =>
    intro p Q
    rw [ws_s, ih, ih, ite_self]
theorem ws_add (N : Nat → Nat → Bool) (U : Nat → Bool) : ∀ (k p : Nat) (Q : Nat → Bool) (f g : (Nat → Bool) → Nat), WS N U k p Q (fun T => f T + g T) = WS N U k p Q f + WS N U k p Q g := by
  intro k
  induction k with
  | zero => intro p Q f g; rfl
  | succ k ih =>
    intro p Q f g
    rw [ws_s, ws_s, ws_s, ih, ih (p + 1) (wins p Q) (fun T => f (wins p T)) (fun T => g (wins p T))]
    by_cases c : U p = true ∧ wcp N p Q = true
    · rw [if_pos c, if_pos c, if_pos c]; omega
    · rw [if_neg c, if_neg c, if_neg c]; omega
theorem ws_if (N : Nat → Nat → Bool) (U : Nat → Bool) (k p : Nat) (Q : Nat → Bool) (b : Bool) (f : (Nat → Bool) → Nat) : WS N U k p Q (fun T => if b = true then f T else 0) = if b = true then WS N U k p Q f else 0 := by
  by_cases c : b = true
  · rw [if_pos c, c]; rfl
  · rw [if_neg c]
    have e : (fun T => if b = true then f T else 0) = (fun _ => 0) := by funext T; rw [if_neg c]
    rw [e]; exact ws_zero N U k p Q
theorem ws_sum (N : Nat → Nat → Bool) (U : Nat → Bool) (k p : Nat) (Q : Nat → Bool) (F : Nat → (Nat → Bool) → Nat) : ∀ c : Nat, WS N U k p Q (fun T => wsm c (fun w => F w T)) = wsm c (fun w => WS N U k p Q (F w)) := by
  intro c
  induction c with
  | zero => exact ws_zero N U k p Q
  | succ c ih =>
    show WS N U k p Q (fun T => wsm c (fun w => F w T) + F c T) = wsm c (fun w => WS N U k p Q (F w)) + WS N U k p Q (F c)
    rw [← ih]
    exact ws_add N U k p Q (fun T => wsm c (fun w => F w T)) (F c)
theorem wc_ws (N : Nat → Nat → Bool) (U : Nat → Bool) (c : Nat) : ∀ (k p : Nat) (P : Nat → Nat → Bool), WC N U (c + 1) k p P = WS N U k p (P c) (fun T => WC N (wdif U T) c k p P) := by
  intro k
  induction k with
  | zero => intro p P; rfl
  | succ k ih =>
    intro p P
    rw [wc_s, ws_s]
    by_cases cU : U p = true
    · rw [if_pos cU]
      have e1 : WS N U k (p + 1) (P c) (fun T => WC N (wdif U T) c (k + 1) p P) = wsm c (fun w => if wcp N p (P w) = true then WC N U (c + 1) k (p + 1) (wput P w p) else 0) := by
        have s1 : WS N U k (p + 1) (P c) (fun T => WC N (wdif U T) c (k + 1) p P) = WS N U k (p + 1) (P c) (fun T => wsm c (fun w => if wcp N p (P w) = true then WC N (wdif U T) c k (p + 1) (wput P w p) else 0)) := by
          refine ws_congr N U k (p + 1) (P c) _ _ (fun T hT => ?_)
          have hd : wdif U T p = true := by
            show (U p && !(T p)) = true
            rw [cU, hT p (by omega)]; rfl
          rw [wc_s, if_pos hd]
        rw [s1, ws_sum N U k (p + 1) (P c) (fun w T => if wcp N p (P w) = true then WC N (wdif U T) c k (p + 1) (wput P w p) else 0) c]
        refine wsm_congr fun w hw => ?_
        rw [ws_if, ih (p + 1) (wput P w p), wput_at, if_neg (show ¬ c = w by omega)]
      rw [e1]
      show wsm c _ + (if wcp N p (P c) = true then WC N U (c + 1) k (p + 1) (wput P c p) else 0) = _
      congr 1
      by_cases cc : wcp N p (P c) = true
      · rw [if_pos cc, if_pos ⟨cU, cc⟩, ih (p + 1) (wput P c p), wput_at, if_pos rfl]
        refine ws_congr N U k (p + 1) _ _ _ (fun T hT => ?_)
        have hd : ¬ wdif U (wins p T) p = true := by
          show ¬ (U p && !(if p = p then true else T p)) = true
          rw [if_pos rfl, cU]; decide
        rw [wc_s, if_neg hd]
        rw [wc_congP N (wdif U T) c k (p + 1) (wput P c p) P (fun w hw => by rw [wput_at, if_neg (by omega)])]
        refine wc_congU N c k (p + 1) P (fun u hu => ?_)
        show (U u && !(T u)) = (U u && !(if u = p then true else T u))
        rw [if_neg (by omega)]
      · rw [if_neg cc, if_neg (fun h => cc h.2)]
    · rw [if_neg cU, if_neg (fun h => cU h.1), Nat.add_zero, ih (p + 1) P]
      refine ws_congr N U k (p + 1) _ _ _ (fun T hT => ?_)
      have hd : ¬ wdif U T p = true := by
        show ¬ (U p && !(T p)) = true
        intro h
        rw [Bool.and_eq_true] at h
        exact cU h.1
      rw [wc_s, if_neg hd]
def wswp (a b w : Nat) : Nat := if w = a then b else if w = b then a else w
def wsu (g : Nat → Nat) (a x : Nat) : Nat → Nat := fun w => if w = a then x else g w
theorem wsm_su : ∀ (n : Nat) (g : Nat → Nat) (a x : Nat), a < n → wsm n (wsu g a x) + g a = wsm n g + x := by
  intro n
  induction n with
  | zero => intro g a x h; exact absurd h (by omega)
  | succ n ih =>
    intro g a x h
    show wsm n (wsu g a x) + wsu g a x n + g a = wsm n g + g n + x
    by_cases c : n = a
    · subst c
      rw [wsm_congr (h := g) (fun w hw => by show (if w = n then x else g w) = g w; rw [if_neg (by omega)])]
      show wsm n g + (if n = n then x else g n) + g n = wsm n g + g n + x
      rw [if_pos rfl]; omega
    · have := ih g a x (by omega)
      show wsm n (wsu g a x) + (if n = a then x else g n) + g a = wsm n g + g n + x
      rw [if_neg c]; omega
theorem wsm_swp {n a b : Nat} (g : Nat → Nat) (ha : a < n) (hb : b < n) : wsm n (fun w => g (wswp a b w)) = wsm n g := by
  by_cases c : a = b
  · subst c
    refine wsm_congr fun w hw => ?_
    unfold wswp
    by_cases d : w = a
    · rw [if_pos d, d]
    · rw [if_neg d, if_neg d]
  · have e : (fun w => g (wswp a b w)) = wsu (wsu g a (g b)) b (g a) := by
      funext w
      show g (if w = a then b else if w = b then a else w) = (if w = b then g a else (if w = a then g b else g w))
      by_cases d1 : w = a
      · rw [if_pos d1, if_neg (by omega), if_pos d1]
      · rw [if_neg d1]
        by_cases d2 : w = b
        · rw [if_pos d2, if_pos d2]
        · rw [if_neg d2, if_neg d2, if_neg d1]
    rw [e]
    have h1 := wsm_su n (wsu g a (g b)) b (g a) hb
    have h2 := wsm_su n g a (g b) ha
    have h3 : wsu g a (g b) b = g b := if_neg (fun h => c h.symm)
    rw [h3] at h1
    omega
theorem wswp_inj (a b w w' : Nat) : wswp a b w' = wswp a b w ↔ w' = w := by
  unfold wswp
  constructor
  · intro h
    split at h <;> split at h <;> (try split at h) <;> (try split at h) <;> omega
  · intro h; rw [h]
theorem wc_swp (N : Nat → Nat → Bool) (U : Nat → Bool) {n a b : Nat} (ha : a < n) (hb : b < n) : ∀ (k p : Nat) (P : Nat → Nat → Bool), WC N U n k p (fun w => P (wswp a b w)) = WC N U n k p P := by
  intro k
  induction k with
  | zero => intro p P; rfl
  | succ k ih =>
    intro p P
    rw [wc_s, wc_s, ih (p + 1) P]
    by_cases c : U p = true
    · rw [if_pos c, if_pos c]
      rw [← wsm_swp (fun w => if wcp N p (P w) = true then WC N U n k (p + 1) (wput P w p) else 0) ha hb]
      refine wsm_congr fun w hw => ?_
      have e : wput (fun w => P (wswp a b w)) w p = fun w' => wput P (wswp a b w) p (wswp a b w') := by
        funext w'
        rw [wput_at, wput_at]
        by_cases d : w' = w
        · rw [if_pos d, if_pos (by rw [d])]
        · rw [if_neg d, if_neg (fun h => d ((wswp_inj a b w w').mp h))]
      rw [e, ih (p + 1) (wput P (wswp a b w) p)]
    · rw [if_neg c, if_neg c]
theorem wc_free (N : Nat → Nat → Bool) (U : Nat → Bool) {n a b : Nat} (ha : a < n) (hb : b < n) (k q p : Nat) (P : Nat → Nat → Bool) (h : P a = P b) : WC N U n k q (wput P a p) = WC N U n k q (wput P b p) := by
  by_cases c : a = b
  · rw [c]
  · rw [← wc_swp N U ha hb k q (wput P a p)]
    congr 1
    funext w
    unfold wswp
    by_cases d1 : w = a
    · rw [if_pos d1, wput_at, wput_at, if_neg (fun h => c h.symm), if_neg (by omega), d1, h]
    · rw [if_neg d1]
      by_cases d2 : w = b
      · rw [if_pos d2, wput_at, wput_at, if_pos rfl, if_pos d2, h]
      · rw [if_neg d2, wput_at, wput_at, if_neg d1, if_neg d2]
theorem wsm_tail {u n x : Nat} {g : Nat → Nat} (hu : u ≤ n) (h : ∀ w, u ≤ w → w < n → g w = x) : wsm n g = wsm u g + (n - u) * x := by
  induction n with
  | zero => have : u = 0 := by omega
            rw [this, Nat.sub_self, Nat.zero_mul, Nat.add_zero]
  | succ n ih =>
    by_cases c : u = n + 1
    · rw [c, Nat.sub_self, Nat.zero_mul]; rfl
    · have := ih (by omega) (fun w h1 h2 => h w h1 (by omega))
      show wsm n g + g n = _
      rw [this, h n (by omega) (by omega), show n + 1 - u = (n - u) + 1 by omega, Nat.add_mul, Nat.one_mul, Nat.add_assoc]
theorem wsm_le {n B : Nat} {g : Nat → Nat} (h : ∀ w, w < n → g w ≤ B) : wsm n g ≤ n * B := by
  induction n with
  | zero => exact Nat.zero_le _
  | succ n ih =>
    show wsm n g + g n ≤ (n + 1) * B
    have := ih (fun w hw => h w (by omega))
    have h2 := h n (by omega)
    rw [Nat.add_mul, Nat.one_mul]; omega
theorem wsm_ge {n : Nat} {g : Nat → Nat} : ∀ w, w < n → g w ≤ wsm n g := by
  induction n with
  | zero => intro w h; exact absurd h (by omega)
  | succ n ih =>
    intro w h
    show g w ≤ wsm n g + g n
    by_cases c : w = n
    · rw [c]; omega
    · have := ih w (by omega); omega
theorem wc_le (N : Nat → Nat → Bool) (U : Nat → Bool) {n : Nat} (hn : n ≤ 8) : ∀ (k p : Nat) (P : Nat → Nat → Bool), WC N U n k p P ≤ 8 ^ k := by
  intro k
  induction k with
  | zero => intro p P; exact Nat.le_refl _
  | succ k ih =>
    intro p P
    rw [wc_s, Nat.pow_succ]
    by_cases c : U p = true
    · rw [if_pos c]
      have h := wsm_le (n := n) (B := 8 ^ k) (g := fun w => if wcp N p (P w) = true then WC N U n k (p + 1) (wput P w p) else 0) (fun w _ => by
        show (if wcp N p (P w) = true then WC N U n k (p + 1) (wput P w p) else 0) ≤ 8 ^ k
        by_cases d : wcp N p (P w) = true
        · rw [if_pos d]; exact ih _ _
        · rw [if_neg d]; exact Nat.zero_le _)
      have h2 : n * 8 ^ k ≤ 8 * 8 ^ k := Nat.mul_le_mul_right _ hn
      rw [Nat.mul_comm (8 ^ k) 8]
      exact Nat.le_trans h h2
    · rw [if_neg c]
      have := ih (p + 1) P
      omega
theorem wcp_emp (N : Nat → Nat → Bool) (p : Nat) : wcp N p wemp = true := by
  unfold wcp
  exact (@decide_eq_true_iff _ (Classical.propDecidable _)).mpr (fun _ _ _ => rfl)
theorem wc_pos (N : Nat → Nat → Bool) (U : Nat → Bool) : ∀ (k p : Nat) (P : Nat → Nat → Bool), p + k = 7 → (∀ w, p ≤ w → P w = wemp) → 1 ≤ WC N U 7 k p P := by
  intro k
  induction k with
  | zero => intro p P _ _; exact Nat.le_refl _
  | succ k ih =>
    intro p P hp he
    rw [wc_s]
    by_cases c : U p = true
    · rw [if_pos c]
      have h := wsm_ge (n := 7) (g := fun w => if wcp N p (P w) = true then WC N U 7 k (p + 1) (wput P w p) else 0) p (by omega)
      have h2 : (if wcp N p (P p) = true then WC N U 7 k (p + 1) (wput P p p) else 0) ≤ _ := h
      rw [he p (Nat.le_refl _), if_pos (wcp_emp N p)] at h2
      refine Nat.le_trans (ih (p + 1) (wput P p p) (by omega) (fun w hw => ?_)) h2
      rw [wput_at, if_neg (by omega)]
      exact he w (by omega)
    · rw [if_neg c]
      exact ih (p + 1) P (by omega) (fun w hw => he w (by omega))
theorem wc_none (N : Nat → Nat → Bool) (U : Nat → Bool) (n : Nat) : ∀ (k p : Nat) (P : Nat → Nat → Bool), (∀ u, p ≤ u → u < p + k → U u = false) → WC N U n k p P = 1 := by
  intro k
  induction k with
  | zero => intro p P _; rfl
  | succ k ih =>
    intro p P h
    rw [wc_s, if_neg (by rw [h p (Nat.le_refl _) (by omega)]; decide)]
    exact ih (p + 1) P (fun u h1 h2 => h u (by omega) (by omega))
theorem wc_some0 (N : Nat → Nat → Bool) (U : Nat → Bool) : ∀ (k p : Nat) (P : Nat → Nat → Bool) (u : Nat), p ≤ u → u < p + k → U u = true → WC N U 0 k p P = 0 := by
  intro k
  induction k with
  | zero => intro p P u h1 h2; omega
  | succ k ih =>
    intro p P u h1 h2 h3
    rw [wc_s]
    by_cases c : U p = true
    · rw [if_pos c]; rfl
    · rw [if_neg c]
      have : u ≠ p := fun e => by rw [e] at h3; exact c h3
      exact ih (p + 1) P u (by omega) (by omega) h3
