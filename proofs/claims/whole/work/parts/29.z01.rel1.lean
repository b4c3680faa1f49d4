theorem relw_w {pts trd nr : Nat → Int32} {th fr he wi oi ho si ag re : Int32} {bk : Nat → Int32} {mth : Int32} {bs : Nat → Int32} {ms : Nat} {sg : Nat → Int32} (h : RelW pts trd nr th fr he wi oi ho si ag re bk mth bs ms sg) : WInv bk mth bs ms sg := h.2.2.2.2.2.2.2.2.2.2
theorem relw_env {pts trd nr : Nat → Int32} {th fr he wi oi ho si ag re : Int32} {bk : Nat → Int32} {mth : Int32} {bs : Nat → Int32} {ms : Nat} {sg : Nat → Int32} (h : RelW pts trd nr th fr he wi oi ho si ag re bk mth bs ms sg)
    {bk' : Nat → Int32} {fr' he' wi' oi' ho' : Int32} (e : ∀ q, q < 14 → bk' q = bk q) (e1 : fr' = bk' 14) (e2 : he' = bk' 15) (e3 : wi' = bk' 16) (e4 : oi' = bk' 17) (e5 : ho' = bk' 18)
    (r1 : rng (bk' 14) 128) (r2 : rng (bk' 15) 256) (r3 : rng (bk' 16) 8) (r4 : rng (bk' 17) 10) (r5 : rng (bk' 18) 100) : RelW pts trd nr th fr' he' wi' oi' ho' si ag re bk' mth bs ms sg := by
  obtain ⟨hq, h1, h2, h3, h4, h5, h6, h7, h8, h9, w1, w2, w3, w4, w5, w6, w7, w8⟩ := h
  refine ⟨fun q hq' => ?_, h1, e1, e2, e3, e4, e5, h7, h8, h9, fun q hq' => ?_, w2, r1, r2, r3, r4, r5, w8⟩
  · rw [e q (by omega), e (7 + q) (by omega)]; exact hq q hq'
  · rw [e q (by omega), e (7 + q) (by omega)]; exact w1 q hq'
theorem upd_at {f : Nat → Int32} {k q : Nat} {x : Int32} : upd f k x q = if q = k then x else f q := rfl
