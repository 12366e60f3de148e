/-! the methods of Gates: xor, and, or, not, choose -/
def sh_GS (gs : sh_gL) (m : sh_X) : Prop := 2 ≤ gs.length ∧ (sh_ga gs 0).1 = 0 ∧ (sh_ga gs 1).1 = 0 ∧ ∃ a b c n, sh_Gv gs a b c n m
theorem sh_GS.wf {gs : sh_gL} {m : sh_X} (h : sh_GS gs m) : sh_gw0 gs := by obtain ⟨_, _, _, a, b, c, n, g⟩ := h; exact g.wf
theorem sh_GS.len {gs : sh_gL} {m : sh_X} (h : sh_GS gs m) : gs.length ≤ 65536 := by obtain ⟨_, _, _, a, b, c, n, g⟩ := h; exact Nat.le_trans g.le g.n1
theorem sh_GS.v0 {gs : sh_gL} {m : sh_X} (h : sh_GS gs m) (p : Nat → Bool) : sh_va p gs 0 = false := by
  rw [sh_va_at p h.wf (by have := h.1; omega), h.2.1]
  rfl
theorem sh_GS.v1 {gs : sh_gL} {m : sh_X} (h : sh_GS gs m) (p : Nat → Bool) : sh_va p gs 1 = true := by
  rw [sh_va_at p h.wf (by have := h.1; omega), h.2.2.1]
  rfl
theorem sh_GS.cons {g : Nat × Nat × Nat} {gs : sh_gL} {a b c n : Nat} {m m2 : sh_X} (h : sh_GS gs m) (v : sh_Gv (g :: gs) a b c n m2) : sh_GS (g :: gs) m2 := by
  have := h.1
  exact ⟨by simp; omega, by rw [sh_ga_old (by omega)]; exact h.2.1, by rw [sh_ga_old (by omega)]; exact h.2.2.1, a, b, c, n, v⟩
/-- q makes at most N gates, and answers a wire that is worth f -/
def sh_gop (N : Nat) (gs : sh_gL) (m : sh_X) (q : Option (Int32 × sh_X)) (f : (Nat → Bool) → Bool) : Prop :=
  ∃ e r m2, q = some (Int32.ofNat r, m2) ∧ sh_GS (e ++ gs) m2 ∧ sh_Gf m m2 ∧ e.length ≤ N ∧ r < (e ++ gs).length ∧ ∀ p, sh_va p (e ++ gs) r = f p
theorem sh_gop_same {N : Nat} {gs : sh_gL} {m : sh_X} {r : Nat} {q : Option (Int32 × sh_X)} {f : (Nat → Bool) → Bool} (h : sh_GS gs m) (hq : q = some (Int32.ofNat r, m)) (hr : r < gs.length) (hf : ∀ p, sh_va p gs r = f p) : sh_gop N gs m q f :=
  ⟨[], r, m, hq, h, sh_Gf.refl m, Nat.zero_le _, hr, hf⟩
theorem sh_gop_le {N M : Nat} {gs : sh_gL} {m : sh_X} {q : Option (Int32 × sh_X)} {f : (Nat → Bool) → Bool} (h : sh_gop N gs m q f) (hN : N ≤ M) : sh_gop M gs m q f := by
  obtain ⟨e, r, m2, h1, h2, h3, h4, h5, h6⟩ := h
  exact ⟨e, r, m2, h1, h2, h3, Nat.le_trans h4 hN, h5, h6⟩
/-- one gate is put in -/
theorem sh_gop_st {gs : sh_gL} {m : sh_X} {k x y : Nat} {f : (Nat → Bool) → Bool} (h : sh_GS gs m) (hl : gs.length < 65536) (hk : k ≤ 2) (hxy : (k = 0 ∧ sh_gq (k, x, y) gs) ∨ (x < gs.length ∧ y < gs.length ∧ ¬ k = 0)) (hf : ∀ p, sh_va p ((k, x, y) :: gs) gs.length = f p) : sh_gop 1 gs m (sf_19 (Int32.ofNat k) (Int32.ofNat x) (Int32.ofNat y) m) f := by
  obtain ⟨a, b, c, n, g⟩ := h.2.2.2
  obtain ⟨a2, b2, c2, n2, m2, e1, e2, e3⟩ := sh_st_spec g hl hk hxy
  exact ⟨[(k, x, y)], gs.length, m2, e1, h.cons e2, e3, Nat.le_refl _, Nat.lt_succ_self _, hf⟩
theorem sh_va_st (p : Nat → Bool) {g : Nat × Nat × Nat} {gs : sh_gL} : sh_va p (g :: gs) gs.length = (match g.1 with
    | 0 => if gs.length = 0 then false else if gs.length = 1 then true else p gs.length
    | 1 => Bool.xor (sh_va p gs g.2.1) (sh_va p gs g.2.2)
    | _ => sh_va p gs g.2.1 && sh_va p gs g.2.2) := if_pos rfl
theorem sh_ret_id {N : Nat} {gs : sh_gL} {m : sh_X} {q : Option (Int32 × sh_X)} {f : (Nat → Bool) → Bool} (h : sh_gop N gs m q f) : sh_gop N gs m (sh_bn q fun r m => some (r, m)) f := by
  obtain ⟨e, r, m2, h1, h2⟩ := h
  exact ⟨e, r, m2, by rw [h1]; rfl, h2⟩
def sh_isn (gs : sh_gL) (x : Nat) : Bool := decide (1 < x ∧ (sh_ga gs x).1 = 1 ∧ (sh_ga gs x).2.2 = 1)
theorem sh_131 {gs : sh_gL} {m : sh_X} {x : Nat} (h : sh_GS gs m) (hx : x < gs.length) : sf_131 (Int32.ofNat x) m = some (sh_isn gs x) := by
  obtain ⟨a, b, c, n, g⟩ := h.2.2.2
  have hl := h.len
  have le := g.le
  have hw := sh_gw0_at h.wf hx
  unfold sf_131 sh_isn
  rw [g.w, g.ra, g.rc, g.la, g.lc, sh_nIc (by omega), g.k x hx, g.r x hx]
  have c1 : ((1 : Int32) < Int32.ofNat x) ↔ 1 < x := sh_nIlt (a := 1) (by omega) (by omega)
  have c2 : (Int32.ofNat x < Int32.ofNat gs.length) := (sh_nIlt (by omega) (by omega)).mpr hx
  have c3 : sh_okb (Int32.ofNat x) n = true := (sh_okn (by omega)).mpr (by omega)
  have c4 : (Int32.ofNat (sh_ga gs x).1 = 1) ↔ (sh_ga gs x).1 = 1 := sh_nIeq (b := 1) (by omega) (by omega)
  have c5 : (sh_ga gs x).1 = 1 → ((Int32.ofNat (sh_ga gs x).2.2 = 1) ↔ (sh_ga gs x).2.2 = 1) := fun q => sh_nIeq (b := 1) (by omega) (by omega)
  by_cases d1 : 1 < x
  · rw [if_pos (c1.mpr d1), if_pos c2, if_pos c3]
    by_cases d2 : (sh_ga gs x).1 = 1
    · rw [if_pos (c4.mpr d2), if_pos c3]
      by_cases d3 : (sh_ga gs x).2.2 = 1
      · rw [if_pos ((c5 d2).mpr d3)]; simp [d1, d2, d3]
      · rw [if_neg (fun q => d3 ((c5 d2).mp q))]; simp [d3]
    · rw [if_neg (fun q => d2 (c4.mp q))]; simp [d2]
  · rw [if_neg (fun q => d1 (c1.mp q))]; simp [d1]
theorem sh_not_of {gs : sh_gL} {m : sh_X} {x : Nat} (h : sh_GS gs m) (hx : x < gs.length) (hn : sh_isn gs x = true) (p : Nat → Bool) : (sh_ga gs x).2.1 < gs.length ∧ sh_va p gs (sh_ga gs x).2.1 = Bool.xor (sh_va p gs x) true := by
  unfold sh_isn at hn
  have hn := of_decide_eq_true hn
  have hw := sh_gw0_at h.wf hx
  refine ⟨by omega, ?_⟩
  rw [sh_va_at p h.wf hx, hn.2.1, hn.2.2]
  show _ = Bool.xor (Bool.xor _ _) true
  rw [h.v1 p]
  simp
theorem sh_lefts {gs : sh_gL} {m : sh_X} {x : Nat} (h : sh_GS gs m) (hx : x < gs.length) : sh_okb (Int32.ofNat x) (sh_ln m.T (sh_rf m.T 9 1)) = true ∧ m.I (sh_rf m.T 9 1) (Int32.toNatClampNeg (Int32.ofNat x)) = Int32.ofNat (sh_ga gs x).2.1 := by
  obtain ⟨a, b, c, n, g⟩ := h.2.2.2
  have hl := h.len
  have le := g.le
  rw [g.rb, g.lb, sh_nIc (by omega)]
  exact ⟨(sh_okn (by omega)).mpr (by omega), g.l x hx⟩
theorem sh_130c {gs : sh_gL} {m : sh_X} {x y : Nat} (h : sh_GS gs m) (hx : x < gs.length) (hy : y < gs.length) (hl : gs.length < 65536) : sh_gop 1 gs m (sf_130_59 (Int32.ofNat x) (Int32.ofNat y) m) (fun p => Bool.xor (sh_va p gs x) (sh_va p gs y)) := by
  unfold sf_130_59
  have hlen := h.len
  have c1 : (Int32.ofNat x = 1) ↔ x = 1 := sh_nIeq (b := 1) (by omega) (by omega)
  by_cases d1 : x = 1
  · rw [if_pos (c1.mpr d1)]
    refine sh_ret_id (sh_gop_st (k := 1) (y := 1) h hl (by omega) (Or.inr ⟨hy, by have := h.1; omega, by decide⟩) (fun p => ?_))
    rw [sh_va_st]
    show Bool.xor _ _ = _
    rw [d1, Bool.xor_comm]
  · rw [if_neg (fun q => d1 (c1.mp q))]
    refine sh_ret_id (sh_gop_st (k := 1) h hl (by omega) (Or.inr ⟨hx, hy, by decide⟩) (fun p => sh_va_st p))
theorem sh_130b {gs : sh_gL} {m : sh_X} {x y : Nat} (h : sh_GS gs m) (hx : x < gs.length) (hy : y < gs.length) (hl : gs.length < 65536) : sh_gop 1 gs m (sf_130_39 (Int32.ofNat x) (Int32.ofNat y) m) (fun p => Bool.xor (sh_va p gs x) (sh_va p gs y)) := by
  unfold sf_130_39
  have hlen := h.len
  have c1 : (Int32.ofNat x = 1) ↔ x = 1 := sh_nIeq (b := 1) (by omega) (by omega)
  rw [sh_131 h hy]
  show sh_gop 1 gs m (if sh_isn gs y = true then _ else _) _
  by_cases d : sh_isn gs y = true
  · rw [if_pos d]
    by_cases d1 : x = 1
    · rw [if_pos (c1.mpr d1), if_pos (sh_lefts h hy).1, (sh_lefts h hy).2]
      refine sh_gop_same h rfl (sh_not_of h hy d (fun _ => false)).1 (fun p => ?_)
      rw [(sh_not_of h hy d p).2, d1, h.v1 p, Bool.xor_comm]
    · rw [if_neg (fun q => d1 (c1.mp q))]
      exact sh_130c h hx hy hl
  · rw [if_neg d]
    exact sh_130c h hx hy hl
/-- Gates.xor -/
theorem sh_130 {gs : sh_gL} {m : sh_X} {x y : Nat} (h : sh_GS gs m) (hx : x < gs.length) (hy : y < gs.length) (hl : gs.length < 65536) : sh_gop 1 gs m (sf_130 (Int32.ofNat x) (Int32.ofNat y) m) (fun p => Bool.xor (sh_va p gs x) (sh_va p gs y)) := by
  unfold sf_130 sf_130_15
  have hlen := h.len
  have c0 : (Int32.ofNat x = Int32.ofNat y) ↔ x = y := sh_nIeq (by omega) (by omega)
  have c1 : (Int32.ofNat x = 0) ↔ x = 0 := sh_nIeq (b := 0) (by omega) (by omega)
  have c2 : (Int32.ofNat y = 0) ↔ y = 0 := sh_nIeq (b := 0) (by omega) (by omega)
  have c3 : (Int32.ofNat y = 1) ↔ y = 1 := sh_nIeq (b := 1) (by omega) (by omega)
  by_cases d0 : x = y
  · rw [if_pos (c0.mpr d0)]
    refine sh_gop_same (r := 0) h rfl (by omega) (fun p => ?_)
    rw [h.v0 p, d0, Bool.xor_self]
  rw [if_neg (fun q => d0 (c0.mp q))]
  by_cases d1 : x = 0
  · rw [if_pos (c1.mpr d1)]
    refine sh_gop_same (r := y) h (by rw [sh_nIadd, d1, Nat.zero_add]) hy (fun p => ?_)
    rw [d1, h.v0 p, Bool.false_xor]
  rw [if_neg (fun q => d1 (c1.mp q))]
  by_cases d2 : y = 0
  · rw [if_pos (c2.mpr d2)]
    refine sh_gop_same (r := x) h (by rw [sh_nIadd, d2, Nat.add_zero]) hx (fun p => ?_)
    rw [d2, h.v0 p, Bool.xor_false]
  rw [if_neg (fun q => d2 (c2.mp q)), sh_131 h hx]
  show sh_gop 1 gs m (if sh_isn gs x = true then _ else _) _
  by_cases d : sh_isn gs x = true
  · rw [if_pos d]
    by_cases d3 : y = 1
    · rw [if_pos (c3.mpr d3), if_pos (sh_lefts h hx).1, (sh_lefts h hx).2]
      refine sh_gop_same h rfl (sh_not_of h hx d (fun _ => false)).1 (fun p => ?_)
      rw [(sh_not_of h hx d p).2, d3, h.v1 p]
    · rw [if_neg (fun q => d3 (c3.mp q))]
      exact sh_130b h hx hy hl
  · rw [if_neg d]
    exact sh_130b h hx hy hl
/-- Gates.and -/
theorem sh_132 {gs : sh_gL} {m : sh_X} {x y : Nat} (h : sh_GS gs m) (hx : x < gs.length) (hy : y < gs.length) (hl : gs.length < 65536) : sh_gop 1 gs m (sf_132 (Int32.ofNat x) (Int32.ofNat y) m) (fun p => sh_va p gs x && sh_va p gs y) := by
  unfold sf_132
  have hlen := h.len
  have c0 : (Int32.ofNat x = Int32.ofNat y) ↔ x = y := sh_nIeq (by omega) (by omega)
  have c1 : (Int32.ofNat x = 0) ↔ x = 0 := sh_nIeq (b := 0) (by omega) (by omega)
  have c2 : (Int32.ofNat y = 0) ↔ y = 0 := sh_nIeq (b := 0) (by omega) (by omega)
  have c3 : (Int32.ofNat y = 1) ↔ y = 1 := sh_nIeq (b := 1) (by omega) (by omega)
  have c4 : (Int32.ofNat x = 1) ↔ x = 1 := sh_nIeq (b := 1) (by omega) (by omega)
  by_cases d1 : x = 0
  · rw [if_pos (c1.mpr d1)]
    exact sh_gop_same (r := 0) h rfl (by omega) (fun p => by rw [d1, h.v0 p]; rfl)
  rw [if_neg (fun q => d1 (c1.mp q))]
  by_cases d2 : y = 0
  · rw [if_pos (c2.mpr d2)]
    exact sh_gop_same (r := 0) h rfl (by omega) (fun p => by rw [d2, h.v0 p, Bool.and_false])
  rw [if_neg (fun q => d2 (c2.mp q))]
  by_cases d4 : x = 1
  · rw [if_pos (c4.mpr d4)]
    exact sh_gop_same (r := y) h rfl hy (fun p => by rw [d4, h.v1 p, Bool.true_and])
  rw [if_neg (fun q => d4 (c4.mp q))]
  by_cases d0 : x = y
  · rw [if_pos (c0.mpr d0)]
    exact sh_gop_same (r := y) h rfl hy (fun p => by rw [d0, Bool.and_self])
  rw [if_neg (fun q => d0 (c0.mp q))]
  by_cases d3 : y = 1
  · rw [if_pos (c3.mpr d3)]
    exact sh_gop_same (r := x) h rfl hx (fun p => by rw [d3, h.v1 p, Bool.and_true])
  rw [if_neg (fun q => d3 (c3.mp q))]
  exact sh_ret_id (sh_gop_st (k := 2) h hl (by omega) (Or.inr ⟨hx, hy, by decide⟩) (fun p => sh_va_st p))
/-- behind an operation comes another -/
theorem sh_gop_bn {N M : Nat} {gs : sh_gL} {m : sh_X} {q : Option (Int32 × sh_X)} {f h : (Nat → Bool) → Bool} {k : Int32 → sh_X → Option (Int32 × sh_X)} (hq : sh_gop N gs m q f)
    (hk : ∀ e r m2, sh_GS (e ++ gs) m2 → e.length ≤ N → r < (e ++ gs).length → (∀ p, sh_va p (e ++ gs) r = f p) → sh_Gf m m2 → sh_gop M (e ++ gs) m2 (k (Int32.ofNat r) m2) h) : sh_gop (N + M) gs m (sh_bn q k) h := by
  obtain ⟨e, r, m2, h1, h2, h3, h4, h5, h6⟩ := hq
  obtain ⟨e2, r2, m3, g1, g2, g3, g4, g5, g6⟩ := hk e r m2 h2 h4 h5 h6 h3
  refine ⟨e2 ++ e, r2, m3, ?_, ?_, h3.trans g3, ?_, ?_, ?_⟩
  · rw [h1]; exact g1
  · rw [List.append_assoc]; exact g2
  · rw [List.length_append]; omega
  · rw [List.append_assoc]; exact g5
  · intro p; rw [List.append_assoc]; exact g6 p
theorem sh_lt_app {x : Nat} {e gs : sh_gL} (h : x < gs.length) : x < (e ++ gs).length := by rw [List.length_append]; omega
/-- Gates.not -/
theorem sh_141 {gs : sh_gL} {m : sh_X} {x : Nat} (h : sh_GS gs m) (hx : x < gs.length) (hl : gs.length < 65536) : sh_gop 1 gs m (sf_141 (Int32.ofNat x) m) (fun p => !sh_va p gs x) := by
  unfold sf_141
  have g := sh_130 (y := 1) h hx (by have := h.1; omega) hl
  refine sh_ret_id ?_
  obtain ⟨e, r, m2, h1, h2, h3, h4, h5, h6⟩ := g
  exact ⟨e, r, m2, h1, h2, h3, h4, h5, fun p => (h6 p).trans (by show Bool.xor _ (sh_va p gs 1) = _; rw [h.v1 p, Bool.xor_true])⟩
/-- Gates.choose -/
theorem sh_129 {gs : sh_gL} {m : sh_X} {t x y : Nat} (h : sh_GS gs m) (ht : t < gs.length) (hx : x < gs.length) (hy : y < gs.length) (hl : gs.length + 3 ≤ 65536) : sh_gop 3 gs m (sf_129 (Int32.ofNat t) (Int32.ofNat x) (Int32.ofNat y) m) (fun p => if sh_va p gs t = true then sh_va p gs x else sh_va p gs y) := by
  unfold sf_129
  refine sh_gop_bn (N := 1) (M := 2) (sh_130 h hx hy (by omega)) (fun e r m2 h2 h3 h4 h5 _ => ?_)
  refine sh_gop_bn (N := 1) (M := 1) (sh_132 h2 (sh_lt_app ht) h4 (by rw [List.length_append]; omega)) (fun e2 r2 m3 g2 g3 g4 g5 _ => ?_)
  refine sh_ret_id ?_
  have g := sh_130 g2 (sh_lt_app (sh_lt_app hy)) g4 (by rw [List.length_append, List.length_append]; omega)
  obtain ⟨e3, r3, m4, k1, k2, k3, k4, k5, k6⟩ := g
  refine ⟨e3, r3, m4, k1, k2, k3, k4, k5, fun p => ?_⟩
  rw [k6 p]
  show Bool.xor (sh_va p (e2 ++ (e ++ gs)) y) (sh_va p (e2 ++ (e ++ gs)) r2) = if sh_va p gs t = true then sh_va p gs x else sh_va p gs y
  rw [g5 p, h5 p, sh_va_ext p _ (sh_lt_app hy), sh_va_ext p _ hy, sh_va_ext p _ ht]
  cases sh_va p gs t <;> cases sh_va p gs x <;> cases sh_va p gs y <;> rfl
/-- Gates.or -/
theorem sh_185 {gs : sh_gL} {m : sh_X} {x y : Nat} (h : sh_GS gs m) (hx : x < gs.length) (hy : y < gs.length) (hl : gs.length + 3 ≤ 65536) : sh_gop 3 gs m (sf_185 (Int32.ofNat x) (Int32.ofNat y) m) (fun p => sh_va p gs x || sh_va p gs y) := by
  unfold sf_185
  have hlen := h.len
  have c0 : (Int32.ofNat x = Int32.ofNat y) ↔ x = y := sh_nIeq (by omega) (by omega)
  have c1 : (Int32.ofNat x = 0) ↔ x = 0 := sh_nIeq (b := 0) (by omega) (by omega)
  have c2 : (Int32.ofNat y = 0) ↔ y = 0 := sh_nIeq (b := 0) (by omega) (by omega)
  have c3 : (Int32.ofNat y = 1) ↔ y = 1 := sh_nIeq (b := 1) (by omega) (by omega)
  have c4 : (Int32.ofNat x = 1) ↔ x = 1 := sh_nIeq (b := 1) (by omega) (by omega)
  have h1 := h.1
  by_cases d4 : x = 1
  · rw [if_pos (c4.mpr d4)]
    exact sh_gop_same (r := 1) h rfl (by omega) (fun p => by rw [d4, h.v1 p, Bool.true_or])
  rw [if_neg (fun q => d4 (c4.mp q))]
  by_cases d3 : y = 1
  · rw [if_pos (c3.mpr d3)]
    exact sh_gop_same (r := 1) h rfl (by omega) (fun p => by rw [d3, h.v1 p, Bool.or_true])
  rw [if_neg (fun q => d3 (c3.mp q))]
  by_cases d1 : x = 0
  · rw [if_pos (c1.mpr d1)]
    exact sh_gop_same (r := y) h rfl hy (fun p => by rw [d1, h.v0 p, Bool.false_or])
  rw [if_neg (fun q => d1 (c1.mp q))]
  by_cases d0 : x = y
  · rw [if_pos (c0.mpr d0)]
    exact sh_gop_same (r := y) h rfl hy (fun p => by rw [d0, Bool.or_self])
  rw [if_neg (fun q => d0 (c0.mp q))]
  by_cases d2 : y = 0
  · rw [if_pos (c2.mpr d2)]
    exact sh_gop_same (r := x) h rfl hx (fun p => by rw [d2, h.v0 p, Bool.or_false])
  rw [if_neg (fun q => d2 (c2.mp q))]
  refine sh_gop_bn (N := 1) (M := 2) (sh_gop_st (k := 1) (f := fun p => Bool.xor (sh_va p gs x) (sh_va p gs y)) h (by omega) (by omega) (Or.inr ⟨hx, hy, by decide⟩) (fun p => sh_va_st p)) (fun e r m2 h2 h3 h4 h5 _ => ?_)
  refine sh_gop_bn (N := 1) (M := 1) (sh_gop_st (k := 2) (f := fun p => sh_va p gs x && sh_va p gs y) h2 (by rw [List.length_append]; omega) (by omega) (Or.inr ⟨sh_lt_app hx, sh_lt_app hy, by decide⟩) (fun p => by rw [sh_va_st]; show (_ && _) = _; rw [sh_va_ext p _ hx, sh_va_ext p _ hy])) (fun e2 r2 m3 g2 g3 g4 g5 _ => ?_)
  refine sh_ret_id (sh_gop_st (k := 1) g2 (by rw [List.length_append, List.length_append]; omega) (by omega) (Or.inr ⟨sh_lt_app h4, g4, by decide⟩) (fun p => ?_))
  rw [sh_va_st]
  show Bool.xor _ _ = _
  rw [g5 p, sh_va_ext p _ h4, h5 p]
  cases sh_va p gs x <;> cases sh_va p gs y <;> rfl
