/-! THE POOL of wires (Reckoner): take, wire, set; loops that make a value bit by bit -/
def sh_pe (m : sh_X) (gs : sh_gL) (i x : Nat) : Prop := m.I 45 i = Int32.ofNat x ∧ x < gs.length
def sh_RS (gs : sh_gL) (u : Nat) (m : sh_X) : Prop := sh_GS gs m ∧ m.I 44 4 = Int32.ofNat u ∧ 2 ≤ u ∧ u ≤ 8192 ∧ sh_pe m gs 0 0 ∧ sh_pe m gs 1 1
/-- what the Reckoner leaves as it was -/
def sh_Rf (m m2 : sh_X) : Prop := (∀ c, c < 125 → c ≠ 9 → c ≠ 10 → c ≠ 11 → c ≠ 12 → c ≠ 44 → c ≠ 45 → c ≠ 46 → c ≠ 47 → m2.I c = m.I c) ∧ (m2.J = m.J) ∧ (∀ c t, c ≠ 9 → m.T[c]? = some t → m2.T[c]? = some t) ∧ (m.T.length + 3 * (131072 / sh_ln m.T (sh_rf m.T 9 0)) ≥ m2.T.length + 3 * (131072 / sh_ln m2.T (sh_rf m2.T 9 0))) ∧ (m.T.length ≤ m2.T.length) ∧ (m2.s + 6 * sh_ln m.T (sh_rf m.T 9 0) = m.s + 6 * sh_ln m2.T (sh_rf m2.T 9 0))
theorem sh_Rf.I {m m2 : sh_X} (h : sh_Rf m m2) : ∀ c, c < 125 → c ≠ 9 → c ≠ 10 → c ≠ 11 → c ≠ 12 → c ≠ 44 → c ≠ 45 → c ≠ 46 → c ≠ 47 → m2.I c = m.I c := h.1
theorem sh_Rf.J {m m2 : sh_X} (h : sh_Rf m m2) : m2.J = m.J := h.2.1
theorem sh_Rf.T {m m2 : sh_X} (h : sh_Rf m m2) : ∀ c t, c ≠ 9 → m.T[c]? = some t → m2.T[c]? = some t := h.2.2.1
theorem sh_Rf.n {m m2 : sh_X} (h : sh_Rf m m2) : m.T.length + 3 * (131072 / sh_ln m.T (sh_rf m.T 9 0)) ≥ m2.T.length + 3 * (131072 / sh_ln m2.T (sh_rf m2.T 9 0)) := h.2.2.2.1
theorem sh_Rf.t {m m2 : sh_X} (h : sh_Rf m m2) : m.T.length ≤ m2.T.length := h.2.2.2.2.1
theorem sh_Rf.s {m m2 : sh_X} (h : sh_Rf m m2) : m2.s + 6 * sh_ln m.T (sh_rf m.T 9 0) = m.s + 6 * sh_ln m2.T (sh_rf m2.T 9 0) := h.2.2.2.2.2
theorem sh_Rf.mk {m m2 : sh_X} (I : ∀ c, c < 125 → c ≠ 9 → c ≠ 10 → c ≠ 11 → c ≠ 12 → c ≠ 44 → c ≠ 45 → c ≠ 46 → c ≠ 47 → m2.I c = m.I c) (J : m2.J = m.J) (T : ∀ c t, c ≠ 9 → m.T[c]? = some t → m2.T[c]? = some t) (n : m.T.length + 3 * (131072 / sh_ln m.T (sh_rf m.T 9 0)) ≥ m2.T.length + 3 * (131072 / sh_ln m2.T (sh_rf m2.T 9 0))) (t : m.T.length ≤ m2.T.length) (s : m2.s + 6 * sh_ln m.T (sh_rf m.T 9 0) = m.s + 6 * sh_ln m2.T (sh_rf m2.T 9 0)) : sh_Rf m m2 := ⟨I, J, T, n, t, s⟩
theorem sh_Rf.refl (m : sh_X) : sh_Rf m m := sh_Rf.mk (fun _ _ _ _ _ _ _ _ _ _ => rfl) rfl (fun _ _ _ h => h) (Nat.le_refl _) (Nat.le_refl _) rfl
theorem sh_Rf.trans {m m2 m3 : sh_X} (h : sh_Rf m m2) (g : sh_Rf m2 m3) : sh_Rf m m3 :=
  sh_Rf.mk (fun c h0 h1 h2 h3 h4 h5 h6 h7 h8 => (g.I c h0 h1 h2 h3 h4 h5 h6 h7 h8).trans (h.I c h0 h1 h2 h3 h4 h5 h6 h7 h8)) (g.J.trans h.J) (fun c t h0 h1 => g.T c t h0 (h.T c t h0 h1)) (Nat.le_trans g.n h.n) (Nat.le_trans h.t g.t) (by have := h.s; have := g.s; omega)
theorem sh_Gf.toR {m m2 : sh_X} (h : sh_Gf m m2) : sh_Rf m m2 := sh_Rf.mk (fun c h0 h1 h2 h3 h4 _ _ _ _ => h.I c h0 h1 h2 h3 h4) h.J h.T h.n h.t h.s
/-- ints are written into cells that the Reckoner may write -/
theorem sh_Rf.wr {m : sh_X} {c i : Nat} {x : Int32} (hc : c = 44 ∨ c = 45 ∨ c = 46 ∨ c = 47) : sh_Rf m (m.T, sh_u2 m.I c i x, m.J, m.s) :=
  sh_Rf.mk (fun d h0 h1 h2 h3 h4 h5 h6 h7 h8 => by show sh_u2 m.I c i x d = _; rw [sh_u2_cell (by omega)]) rfl (fun _ _ _ h => h) (Nat.le_refl _) (Nat.le_refl _) rfl
theorem sh_GS.wr {gs : sh_gL} {m : sh_X} {c i : Nat} {x : Int32} (h : sh_GS gs m) (hc : c ≠ 9) (h2 : c < 125) (h3 : c ≠ 10) (h4 : c ≠ 11) (h5 : c ≠ 12) : sh_GS gs (m.T, sh_u2 m.I c i x, m.J, m.s) := by
  obtain ⟨h1, h6, h7, a, b, d, n, g⟩ := h
  have fa := g.fa
  have fb := g.fb
  have fc := g.fc
  refine ⟨h1, h6, h7, a, b, d, n, sh_Gv.mk (ra := g.ra) (rb := g.rb) (rc := g.rc) (la := g.la) (lb := g.lb) (lc := g.lc) (ab := g.ab) (ac := g.ac) (bc := g.bc) (fa := g.fa) (fb := g.fb) (fc := g.fc) (nT := g.nT) (n0 := g.n0) (n1 := g.n1) (n5 := g.n5) (tT := g.tT) (le := g.le) (w := ?_) (k := ?_) (l := ?_) (r := ?_) (wf := g.wf)⟩
  · show sh_u2 m.I c i x 9 3 = _
    rw [sh_u2_cell (Ne.symm hc)]; exact g.w
  · intro j hj
    show sh_u2 m.I c i x a j = _
    rw [sh_u2_cell (by omega)]; exact g.k j hj
  · intro j hj
    show sh_u2 m.I c i x b j = _
    rw [sh_u2_cell (by omega)]; exact g.l j hj
  · intro j hj
    show sh_u2 m.I c i x d j = _
    rw [sh_u2_cell (by omega)]; exact g.r j hj
theorem sh_pe_app {m : sh_X} {gs e : sh_gL} {i x : Nat} (h : sh_pe m gs i x) : sh_pe m (e ++ gs) i x := ⟨h.1, sh_lt_app h.2⟩
/-- Reckoner.take -/
theorem sh_98 {gs : sh_gL} {u n : Nat} {m : sh_X} (h : sh_RS gs u m) (hn : u + n ≤ 8192) : ∃ m2, sf_98 (Int32.ofNat n) m = some (Int32.ofNat u, m2) ∧ sh_RS gs (u + n) m2 ∧ sh_Rf m m2 ∧ ∀ j, m2.I 45 j = m.I 45 j := by
  obtain ⟨h1, h2, h3, h4, h5, h6⟩ := h
  unfold sf_98
  rw [if_neg (sh_nI0 (by omega)), if_neg (by rw [h2, show (8192 : Int32) = Int32.ofNat 8192 from rfl, sh_nIsub (by omega), sh_nIlt (by omega) (by omega)]; omega), h2, sh_nIadd, sh_nIsub (by omega), Nat.add_sub_cancel]
  refine ⟨_, rfl, ⟨h1.wr (by omega) (by omega) (by omega) (by omega) (by omega), rfl, by omega, hn, h5, h6⟩, sh_Rf.wr (Or.inl rfl), fun j => rfl⟩
/-- Reckoner.wire -/
theorem sh_103 {gs : sh_gL} {u i x : Nat} {m : sh_X} (h : sh_RS gs u m) (hi : i < u) (hx : sh_pe m gs i x) : sf_103 (Int32.ofNat i) m = some (Int32.ofNat x) := by
  obtain ⟨h1, h2, h3, h4, h5, h6⟩ := h
  unfold sf_103
  rw [if_neg (sh_nI0 (by omega)), h2, if_pos ((sh_nIlt (by omega) (by omega)).mpr hi), if_pos ((sh_okn (by omega)).mpr (by omega)), sh_nIc (by omega), hx.1]
/-- Reckoner.set -/
theorem sh_100 {gs : sh_gL} {u i x : Nat} {m : sh_X} (h : sh_RS gs u m) (hi : i < u) (h2i : 2 ≤ i) (hx : x < gs.length) : ∃ m2, sf_100 (Int32.ofNat i) (Int32.ofNat x) m = some ((), m2) ∧ sh_RS gs u m2 ∧ sh_Rf m m2 ∧ sh_pe m2 gs i x ∧ ∀ j, j ≠ i → m2.I 45 j = m.I 45 j := by
  obtain ⟨h1, h2, h3, h4, h5, h6⟩ := h
  unfold sf_100
  rw [if_pos (show (1 : Int32) < Int32.ofNat i from (sh_nIlt (a := 1) (by omega) (by omega)).mpr (by omega)), h2, if_pos ((sh_nIlt (by omega) (by omega)).mpr hi), if_pos ((sh_okn (by omega)).mpr (by omega)), sh_nIc (by omega)]
  refine ⟨_, rfl, ⟨h1.wr (by omega) (by omega) (by omega) (by omega) (by omega), h2, h3, h4, ⟨?_, h5.2⟩, ⟨?_, h6.2⟩⟩, sh_Rf.wr (Or.inr (Or.inl rfl)), ⟨?_, hx⟩, fun j hj => ?_⟩
  · show sh_u2 m.I 45 i _ 45 0 = _
    rw [sh_u2_idx (by omega)]; exact h5.1
  · show sh_u2 m.I 45 i _ 45 1 = _
    rw [sh_u2_idx (by omega)]; exact h6.1
  · show sh_u2 m.I 45 i _ 45 i = _
    rw [sh_u2_same]
  · show sh_u2 m.I 45 i _ 45 j = _
    rw [sh_u2_idx hj]
/-- the making of gates leaves the pool -/
theorem sh_RS.gop {gs e : sh_gL} {u : Nat} {m m2 : sh_X} (h : sh_RS gs u m) (g : sh_GS (e ++ gs) m2) (f : sh_Gf m m2) : sh_RS (e ++ gs) u m2 := by
  obtain ⟨h1, h2, h3, h4, h5, h6⟩ := h
  have e1 : m2.I 44 = m.I 44 := f.I 44 (by omega) (by omega) (by omega) (by omega) (by omega)
  have e2 : m2.I 45 = m.I 45 := f.I 45 (by omega) (by omega) (by omega) (by omega) (by omega)
  exact ⟨g, by rw [e1]; exact h2, h3, h4, ⟨by rw [e2]; exact h5.1, sh_lt_app h5.2⟩, ⟨by rw [e2]; exact h6.1, sh_lt_app h6.2⟩⟩
/-- a counted loop -/
theorem sh_loop {σ ρ : Type} {f : σ → Option (σ ⊕ ρ)} {n : Nat} (Inv : Nat → σ → Prop) (hs : ∀ i s, i < n → Inv i s → ∃ s2, f s = some (.inl s2) ∧ Inv (i + 1) s2) {i : Nat} {s : σ} (hi : i ≤ n) (h : Inv i s) : ∃ s2, Inv n s2 ∧ ∀ r : ρ, f s2 = some (.inr r) → sh_while f s = some r := by
  obtain ⟨d, hd⟩ := Nat.exists_eq_add_of_le hi
  induction d generalizing i s with
  | zero =>
    rw [Nat.add_zero] at hd
    subst hd
    refine ⟨s, h, fun r e => ?_⟩
    rw [sh_while_eq, e]
  | succ d ih =>
    obtain ⟨s2, e1, e2⟩ := hs i s (by omega) h
    obtain ⟨s3, e3, e4⟩ := ih (by omega) e2 (by omega)
    refine ⟨s3, e3, fun r e => ?_⟩
    rw [sh_while_eq, e1]
    exact e4 r e
/-- a value that is made bit by bit: i bits stand, from u on; at most L gates were made for it -/
def sh_RI (L : Nat) (F : Nat → (Nat → Bool) → Bool) (gs : sh_gL) (u n : Nat) (m0 : sh_X) (i : Nat) (e : sh_gL) (m : sh_X) : Prop := (sh_RS (e ++ gs) (u + n) m) ∧ (sh_Rf m0 m) ∧ (∀ j, j < u → m.I 45 j = m0.I 45 j) ∧ (e.length ≤ L) ∧ (∀ j, j < i → ∃ x, sh_pe m (e ++ gs) (u + j) x ∧ ∀ p, sh_va p (e ++ gs) x = F j p)
theorem sh_RI.rs {L : Nat} {F : Nat → (Nat → Bool) → Bool} {gs : sh_gL} {u n : Nat} {m0 : sh_X} {i : Nat} {e : sh_gL} {m : sh_X} (h : sh_RI L F gs u n m0 i e m) : sh_RS (e ++ gs) (u + n) m := h.1
theorem sh_RI.fr {L : Nat} {F : Nat → (Nat → Bool) → Bool} {gs : sh_gL} {u n : Nat} {m0 : sh_X} {i : Nat} {e : sh_gL} {m : sh_X} (h : sh_RI L F gs u n m0 i e m) : sh_Rf m0 m := h.2.1
theorem sh_RI.po {L : Nat} {F : Nat → (Nat → Bool) → Bool} {gs : sh_gL} {u n : Nat} {m0 : sh_X} {i : Nat} {e : sh_gL} {m : sh_X} (h : sh_RI L F gs u n m0 i e m) : ∀ j, j < u → m.I 45 j = m0.I 45 j := h.2.2.1
theorem sh_RI.le {L : Nat} {F : Nat → (Nat → Bool) → Bool} {gs : sh_gL} {u n : Nat} {m0 : sh_X} {i : Nat} {e : sh_gL} {m : sh_X} (h : sh_RI L F gs u n m0 i e m) : e.length ≤ L := h.2.2.2.1
theorem sh_RI.rb {L : Nat} {F : Nat → (Nat → Bool) → Bool} {gs : sh_gL} {u n : Nat} {m0 : sh_X} {i : Nat} {e : sh_gL} {m : sh_X} (h : sh_RI L F gs u n m0 i e m) : ∀ j, j < i → ∃ x, sh_pe m (e ++ gs) (u + j) x ∧ ∀ p, sh_va p (e ++ gs) x = F j p := h.2.2.2.2
theorem sh_RI.mk {L : Nat} {F : Nat → (Nat → Bool) → Bool} {gs : sh_gL} {u n : Nat} {m0 : sh_X} {i : Nat} {e : sh_gL} {m : sh_X} (rs : sh_RS (e ++ gs) (u + n) m) (fr : sh_Rf m0 m) (po : ∀ j, j < u → m.I 45 j = m0.I 45 j) (le : e.length ≤ L) (rb : ∀ j, j < i → ∃ x, sh_pe m (e ++ gs) (u + j) x ∧ ∀ p, sh_va p (e ++ gs) x = F j p) : sh_RI L F gs u n m0 i e m := ⟨rs, fr, po, le, rb⟩
theorem sh_RI.gop {L N : Nat} {F : Nat → (Nat → Bool) → Bool} {gs : sh_gL} {u n : Nat} {m0 : sh_X} {i : Nat} {e e2 : sh_gL} {m m2 : sh_X} (h : sh_RI L F gs u n m0 i e m) (g : sh_GS (e2 ++ (e ++ gs)) m2) (f : sh_Gf m m2) (hl : e2.length ≤ N) : sh_RI (L + N) F gs u n m0 i (e2 ++ e) m2 := by
  have e1 : m2.I 45 = m.I 45 := f.I 45 (by omega) (by omega) (by omega) (by omega) (by omega)
  have le := h.le
  refine sh_RI.mk (rs := by rw [List.append_assoc]; exact h.rs.gop g f) (fr := h.fr.trans f.toR) (po := fun j hj => by rw [e1]; exact h.po j hj) (le := by rw [List.length_append]; omega) (rb := fun j hj => ?_)
  obtain ⟨x, h1, h2⟩ := h.rb j hj
  rw [List.append_assoc]
  exact ⟨x, ⟨by rw [e1]; exact h1.1, sh_lt_app h1.2⟩, fun p => by rw [sh_va_ext p _ h1.2]; exact h2 p⟩
/-- an operation of the gates -/
theorem sh_RI.op {L N : Nat} {F : Nat → (Nat → Bool) → Bool} {gs : sh_gL} {u n : Nat} {m0 : sh_X} {i : Nat} {e : sh_gL} {m : sh_X} {q : Option (Int32 × sh_X)} {f : (Nat → Bool) → Bool} (h : sh_RI L F gs u n m0 i e m) (hq : sh_gop N (e ++ gs) m q f) :
    ∃ e2 r m2, q = some (Int32.ofNat r, m2) ∧ sh_RI (L + N) F gs u n m0 i (e2 ++ e) m2 ∧ r < ((e2 ++ e) ++ gs).length ∧ (∀ p, sh_va p ((e2 ++ e) ++ gs) r = f p) := by
  obtain ⟨e2, r, m2, h1, h2, h3, h4, h5, h6⟩ := hq
  exact ⟨e2, r, m2, h1, h.gop h2 h3 h4, by rw [List.append_assoc]; exact h5, fun p => by rw [List.append_assoc]; exact h6 p⟩
/-- a bit is put in -/
theorem sh_RI.set {L : Nat} {F : Nat → (Nat → Bool) → Bool} {gs : sh_gL} {u n : Nat} {m0 : sh_X} {i : Nat} {e : sh_gL} {m : sh_X} {x : Nat} (h : sh_RI L F gs u n m0 i e m) (hu : 2 ≤ u) (hi : i < n) (hx : x < (e ++ gs).length) (hv : ∀ p, sh_va p (e ++ gs) x = F i p) :
    ∃ m2, sf_100 (Int32.ofNat (u + i)) (Int32.ofNat x) m = some ((), m2) ∧ sh_RI L F gs u n m0 (i + 1) e m2 := by
  obtain ⟨m2, a1, a2, a3, a4, a5⟩ := sh_100 h.rs (i := u + i) (by omega) (by omega) hx
  refine ⟨m2, a1, sh_RI.mk (rs := a2) (fr := h.fr.trans a3) (po := fun j hj => ?_) (le := h.le) (rb := fun j hj => ?_)⟩
  · rw [a5 j (by omega)]; exact h.po j hj
  · by_cases hji : j = i
    · subst hji; exact ⟨x, a4, hv⟩
    · obtain ⟨y, b1, b2⟩ := h.rb j (by omega)
      exact ⟨y, ⟨by rw [a5 (u + j) (by omega)]; exact b1.1, b1.2⟩, b2⟩
theorem sh_RI_0 {F : Nat → (Nat → Bool) → Bool} {gs : sh_gL} {u n : Nat} {m0 m : sh_X} (h : sh_RS gs (u + n) m) (f : sh_Rf m0 m) (hp : ∀ j, m.I 45 j = m0.I 45 j) : sh_RI 0 F gs u n m0 0 [] m := sh_RI.mk (rs := h) (fr := f) (po := fun j _ => hp j) (le := Nat.zero_le _) (rb := fun j hj => absurd hj (by omega))
/-- a bit of a value that was there -/
theorem sh_RI.bit {L : Nat} {F : Nat → (Nat → Bool) → Bool} {gs : sh_gL} {u n : Nat} {m0 : sh_X} {i : Nat} {e : sh_gL} {m : sh_X} {j : Nat} {f : (Nat → Bool) → Bool} (h : sh_RI L F gs u n m0 i e m) (hb : ∃ x, sh_pe m0 gs j x ∧ ∀ p, sh_va p gs x = f p) (hj : j < u) : ∃ x, sf_103 (Int32.ofNat j) m = some (Int32.ofNat x) ∧ x < (e ++ gs).length ∧ ∀ p, sh_va p (e ++ gs) x = f p := by
  obtain ⟨x, h1, h2⟩ := hb
  exact ⟨x, sh_103 h.rs (by omega) ⟨by rw [h.po j hj]; exact h1.1, sh_lt_app h1.2⟩, sh_lt_app h1.2, fun p => by rw [sh_va_ext p _ h1.2]; exact h2 p⟩
/-- a wire from before is worth what it was -/
theorem sh_keep {e2 e gs : sh_gL} {x : Nat} {f : (Nat → Bool) → Bool} (hx : x < (e ++ gs).length) (hf : ∀ p, sh_va p (e ++ gs) x = f p) : x < ((e2 ++ e) ++ gs).length ∧ ∀ p, sh_va p ((e2 ++ e) ++ gs) x = f p := by
  rw [List.append_assoc]
  exact ⟨sh_lt_app hx, fun p => by rw [sh_va_ext p _ hx]; exact hf p⟩
/-- the value at w has the bits F, n of them -/
def sh_val (m : sh_X) (gs : sh_gL) (u w n : Nat) (F : Nat → (Nat → Bool) → Bool) : Prop := w + n ≤ u ∧ ∀ j, j < n → ∃ x, sh_pe m gs (w + j) x ∧ ∀ p, sh_va p gs x = F j p
/-- q makes at most N gates and takes S wires, and answers where a value of n bits stands, which are F -/
def sh_rop (N S n : Nat) (gs : sh_gL) (u : Nat) (m : sh_X) (q : Option (Int32 × sh_X)) (F : Nat → (Nat → Bool) → Bool) : Prop :=
  ∃ e w u2 m2, q = some (Int32.ofNat w, m2) ∧ sh_RS (e ++ gs) u2 m2 ∧ u ≤ u2 ∧ u2 ≤ u + S ∧ sh_Rf m m2 ∧ (∀ j, j < u → m2.I 45 j = m.I 45 j) ∧ e.length ≤ N ∧ sh_val m2 (e ++ gs) u2 w n F
theorem sh_RI.rop {L : Nat} {F : Nat → (Nat → Bool) → Bool} {gs : sh_gL} {u n : Nat} {m0 : sh_X} {e : sh_gL} {m : sh_X} {q : Option (Int32 × sh_X)} (h : sh_RI L F gs u n m0 n e m) (hq : q = some (Int32.ofNat u, m)) : sh_rop L n n gs u m0 q F :=
  ⟨e, u, u + n, m, hq, h.rs, by omega, Nat.le_refl _, h.fr, h.po, h.le, Nat.le_refl _, h.rb⟩
theorem sh_nI1 {i : Nat} : Int32.ofNat i + 1 = Int32.ofNat (i + 1) := sh_nIadd (b := 1)
theorem sh_RI.room {L N : Nat} {F : Nat → (Nat → Bool) → Bool} {gs : sh_gL} {u n : Nat} {m0 : sh_X} {i : Nat} {e : sh_gL} {m : sh_X} (h : sh_RI L F gs u n m0 i e m) (hl : gs.length + (L + N) ≤ 65536) : (e ++ gs).length + N ≤ 65536 := by
  have le := h.le
  rw [List.length_append]
  omega
theorem sh_mul_lt {K i n g : Nat} (hi : i < n) (h : g + K * n ≤ 65536) : g + (K * i + K) ≤ 65536 := by
  have : K * (i + 1) ≤ K * n := Nat.mul_le_mul_left K hi
  rw [Nat.mul_succ] at this
  omega
