/-! EVALUATION: a loose number becomes of a type -/
/-- a loose number that fits is its own bits -/
theorem sh_hs_Ft {k b : Nat} (h : sh_typ k b 0) {v : Int64} (hv : sh_lo v) (hh : sh_hs k b v) : sh_Ft (decide (k = 2)) b (sh_b v) v := by
  have b1 := h.b1
  have b2 := h.b2
  unfold sh_lo at hv
  have lv := v.toBitVec.isLt
  have tv : v.toInt = if 2 * v.toBitVec.toNat < 2 ^ 64 then (v.toBitVec.toNat : Int) else (v.toBitVec.toNat : Int) - ((2 ^ 64 : Nat) : Int) := BitVec.toInt_eq_toNat_cond v.toBitVec
  have f := sh_288 b1 b2 (Int32.ofNat k) v
  have nv : sh_nv (sh_b v) b = v.toBitVec.toNat % 2 ^ b := sh_nv_long
  rcases hh with ⟨rfl, h0, h1⟩ | ⟨rfl, h1⟩
  · rw [show decide (Int32.ofNat 1 = 2) = false from rfl] at f
    have e := f.u b2
    have vb : v.toBitVec.toNat < 2 ^ b := by
      rcases h1 with h1 | h1
      · have : 2 ^ 60 ≤ 2 ^ b := Nat.pow_le_pow_right (by omega) h1
        split at tv <;> omega
      · rw [← sh_pwc] at h1
        split at tv <;> omega
    rw [nv, Nat.mod_eq_of_lt vb] at e
    have : sf_288 (Int32.ofNat 1) (Int32.ofNat b) v = v := Int64.toBitVec_inj.mp (BitVec.eq_of_toNat_eq e)
    rw [this] at f
    exact f
  · rw [show decide (Int32.ofNat 2 = 2) = true from rfl] at f
    have e : (sf_288 (Int32.ofNat 2) (Int32.ofNat b) v).toInt = sh_iv (sh_b v) b := f.i b1 b2
    have sg := sh_sgn_iv (a := sh_b v) b1
    have iv : sh_iv (sh_b v) b = (sh_nv (sh_b v) b : Int) - (if sh_b v (b - 1) = true then 2 ^ b else 0) := rfl
    have rng : -((2 ^ (b - 1) : Nat) : Int) ≤ v.toInt ∧ v.toInt < ((2 ^ (b - 1) : Nat) : Int) := by
      rcases h1 with h1 | h1
      · have : 2 ^ 60 ≤ 2 ^ (b - 1) := Nat.pow_le_pow_right (by omega) (by omega)
        omega
      · rw [sh_pwc]; exact h1
    have pp := sh_pow_pred b1
    have dvd : 2 ^ b ∣ 2 ^ 64 := Nat.pow_dvd_pow 2 b2
    obtain ⟨c, hc⟩ := dvd
    have ev : sh_iv (sh_b v) b = v.toInt := by
      have top := sh_nv_top b1 (sh_b v)
      have lp := sh_nv_lt (sh_b v) (b - 1)
      have md := Nat.div_add_mod v.toBitVec.toNat (2 ^ b)
      have c1 : 1 ≤ c := by
        rcases Nat.eq_zero_or_pos c with q | q
        · rw [q, Nat.mul_zero] at hc; omega
        · exact q
      generalize hX : v.toBitVec.toNat = X at tv md nv lv
      generalize hQ : X / 2 ^ b = Q at md
      have hc2 : 2 ^ 64 = 2 ^ b * (c - 1) + 2 ^ b := by rw [hc, ← Nat.mul_succ]; congr 1; omega
      rw [iv, ← sh_pwc]
      split at tv
      · -- not below 0
        have x1 : X < 2 ^ (b - 1) := by omega
        have q0 : Q = 0 := by rw [← hQ]; exact Nat.div_eq_of_lt (by omega)
        rw [q0, Nat.mul_zero] at md
        have nx : sh_nv (sh_b v) b = X := by omega
        have nb : ¬ sh_b v (b - 1) = true := fun r => by rw [if_pos r] at top; omega
        rw [if_neg nb]
        omega
      · have x1 : 2 ^ 64 - 2 ^ (b - 1) ≤ X := by omega
        have xq : X = 2 ^ b * (c - 1) + (X - 2 ^ b * (c - 1)) := by omega
        have m1 : X % 2 ^ b = X - 2 ^ b * (c - 1) := by
          rw [xq, Nat.mul_add_mod, Nat.mod_eq_of_lt (by omega)]; omega
        have nx : sh_nv (sh_b v) b = X - 2 ^ b * (c - 1) := by omega
        have nb : sh_b v (b - 1) = true := by
          rcases Bool.eq_false_or_eq_true (sh_b v (b - 1)) with r | r
          · exact r
          · rw [r, if_neg (by decide)] at top; omega
        rw [if_pos nb]
        omega
    have : sf_288 (Int32.ofNat 2) (Int32.ofNat b) v = v := Int64.toInt_inj.mp (by rw [e, ev])
    rw [this] at f
    exact f
/-- what is left as it was by a class that failed; by the model -/
def se_W (m m2 : sh_X) : Prop := (∀ c t, c ≠ 9 → m.T[c]? = some t → m2.T[c]? = some t) ∧ (m.T.length + 3 * (131072 / sh_ln m.T (sh_rf m.T 9 0)) ≥ m2.T.length + 3 * (131072 / sh_ln m2.T (sh_rf m2.T 9 0))) ∧ (m.T.length ≤ m2.T.length) ∧ (m2.s + 6 * sh_ln m.T (sh_rf m.T 9 0) = m.s + 6 * sh_ln m2.T (sh_rf m2.T 9 0)) ∧ (∀ c, c < 125 → (c < 9 ∨ (27 < c ∧ c < 41) ∨ 57 < c) → m2.I c = m.I c) ∧ (∀ c, c ≠ 16 → c ≠ 21 → c ≠ 26 → c ≠ 51 → c ≠ 57 → m2.J c = m.J c) ∧ (∃ gs u, sh_RS gs u m2)
theorem se_W.T {m m2 : sh_X} (h : se_W m m2) : ∀ c t, c ≠ 9 → m.T[c]? = some t → m2.T[c]? = some t := h.1
theorem se_W.n {m m2 : sh_X} (h : se_W m m2) : m.T.length + 3 * (131072 / sh_ln m.T (sh_rf m.T 9 0)) ≥ m2.T.length + 3 * (131072 / sh_ln m2.T (sh_rf m2.T 9 0)) := h.2.1
theorem se_W.t {m m2 : sh_X} (h : se_W m m2) : m.T.length ≤ m2.T.length := h.2.2.1
theorem se_W.s {m m2 : sh_X} (h : se_W m m2) : m2.s + 6 * sh_ln m.T (sh_rf m.T 9 0) = m.s + 6 * sh_ln m2.T (sh_rf m2.T 9 0) := h.2.2.2.1
theorem se_W.I {m m2 : sh_X} (h : se_W m m2) : ∀ c, c < 125 → (c < 9 ∨ (27 < c ∧ c < 41) ∨ 57 < c) → m2.I c = m.I c := h.2.2.2.2.1
theorem se_W.J {m m2 : sh_X} (h : se_W m m2) : ∀ c, c ≠ 16 → c ≠ 21 → c ≠ 26 → c ≠ 51 → c ≠ 57 → m2.J c = m.J c := h.2.2.2.2.2.1
theorem se_W.g {m m2 : sh_X} (h : se_W m m2) : ∃ gs u, sh_RS gs u m2 := h.2.2.2.2.2.2
theorem se_W.mk {m m2 : sh_X} (T : ∀ c t, c ≠ 9 → m.T[c]? = some t → m2.T[c]? = some t) (n : m.T.length + 3 * (131072 / sh_ln m.T (sh_rf m.T 9 0)) ≥ m2.T.length + 3 * (131072 / sh_ln m2.T (sh_rf m2.T 9 0))) (t : m.T.length ≤ m2.T.length) (s : m2.s + 6 * sh_ln m.T (sh_rf m.T 9 0) = m.s + 6 * sh_ln m2.T (sh_rf m2.T 9 0)) (I : ∀ c, c < 125 → (c < 9 ∨ (27 < c ∧ c < 41) ∨ 57 < c) → m2.I c = m.I c) (J : ∀ c, c ≠ 16 → c ≠ 21 → c ≠ 26 → c ≠ 51 → c ≠ 57 → m2.J c = m.J c) (g : ∃ gs u, sh_RS gs u m2) : se_W m m2 := ⟨T, n, t, s, I, J, g⟩
theorem se_F.W {u z q fr cl u2 : Nat} {gs : sh_gL} {m m2 : sh_X} (h : se_F u z q fr cl m m2) (g : sh_RS gs u2 m2) : se_W m m2 := se_W.mk h.T h.n h.t h.s (fun c a b => h.I c a (by omega)) (fun c _ _ _ a b => h.J c a b) ⟨gs, u2, g⟩
theorem se_W.trans {m m2 m3 : sh_X} (h : se_W m m2) (g : se_W m2 m3) : se_W m m3 :=
  se_W.mk (fun c t a b => g.T c t a (h.T c t a b)) (Nat.le_trans g.n h.n) (Nat.le_trans h.t g.t) (by have := h.s; have := g.s; omega) (fun c a b => (g.I c a b).trans (h.I c a b)) (fun c a b d e f => (g.J c a b d e f).trans (h.J c a b d e f)) g.g
theorem se_F.thenW {u z q fr cl : Nat} {m m2 m3 : sh_X} (h : se_F u z q fr cl m m2) (g : se_W m2 m3) : se_W m m3 :=
  se_W.mk (fun c t a b => g.T c t a (h.T c t a b)) (Nat.le_trans g.n h.n) (Nat.le_trans h.t g.t) (by have := h.s; have := g.s; omega) (fun c a b => (g.I c a b).trans (h.I c a (by omega))) (fun c a b d e f => (g.J c a b d e f).trans (h.J c e f)) g.g
def se_U (m m2 : sh_X) : Prop := (m2.T = m.T) ∧ (m2.s = m.s) ∧ (∀ x, x ≠ 66 → (x < 93 ∨ 116 < x) → m2.I x = m.I x) ∧ (∀ x, x ≠ 66 → (x < 92 ∨ x = 103 ∨ 116 < x) → m2.J x = m.J x) ∧ (∀ f, f < 41 ∨ 79 < f → m2.I 66 f = m.I 66 f)
theorem se_U.T {m m2 : sh_X} (h : se_U m m2) : m2.T = m.T := h.1
theorem se_U.s {m m2 : sh_X} (h : se_U m m2) : m2.s = m.s := h.2.1
theorem se_U.I {m m2 : sh_X} (h : se_U m m2) : ∀ x, x ≠ 66 → (x < 93 ∨ 116 < x) → m2.I x = m.I x := h.2.2.1
theorem se_U.J {m m2 : sh_X} (h : se_U m m2) : ∀ x, x ≠ 66 → (x < 92 ∨ x = 103 ∨ 116 < x) → m2.J x = m.J x := h.2.2.2.1
theorem se_U.F {m m2 : sh_X} (h : se_U m m2) : ∀ f, f < 41 ∨ 79 < f → m2.I 66 f = m.I 66 f := h.2.2.2.2
theorem se_U.mk {m m2 : sh_X} (T : m2.T = m.T) (s : m2.s = m.s) (I : ∀ x, x ≠ 66 → (x < 93 ∨ 116 < x) → m2.I x = m.I x) (J : ∀ x, x ≠ 66 → (x < 92 ∨ x = 103 ∨ 116 < x) → m2.J x = m.J x) (F : ∀ f, f < 41 ∨ 79 < f → m2.I 66 f = m.I 66 f) : se_U m m2 := ⟨T, s, I, J, F⟩
theorem se_U.refl (m : sh_X) : se_U m m := se_U.mk rfl rfl (fun _ _ _ => rfl) (fun _ _ _ => rfl) (fun _ _ => rfl)
theorem se_U.trans {m m2 m3 : sh_X} (h : se_U m m2) (g : se_U m2 m3) : se_U m m3 := se_U.mk (g.T.trans h.T) (g.s.trans h.s) (fun x a b => (g.I x a b).trans (h.I x a b)) (fun x a b => (g.J x a b).trans (h.J x a b)) (fun f a => (g.F f a).trans (h.F f a))
theorem se_G.U {tp q un li : Nat} {m m2 : sh_X} (h : se_G tp q un li m m2) : se_U m m2 := se_U.mk h.T h.s (fun x a b => h.I x a (by omega)) (fun x a b => h.J x a (by omega) (by omega) (by omega) (by omega)) (fun f a => h.F f (by omega))
theorem sh_Rr.U {m m2 : sh_X} (h : sh_Rr m m2) : se_U m m2 := (se_G.R (tp := 0) (q := 0) (un := 0) (li := 0) h).U
/-- both have failed, in the same way -/
def se_bad (N : Nat) (P : Nat → Nat) (mc mm : sh_X) (rc : Option (Option Unit × sh_X)) (rm : Option (Bool × sh_X)) : Prop := ∃ (k : Int32) (t : Nat) (mc2 mm2 : sh_X), t ≤ N ∧ rc = some (none, sh_flt k (Int32.ofNat (P t)) mc2) ∧ se_W mc mc2 ∧ rm = some (false, sh_mft k (Int32.ofNat (P t)) mm2) ∧ se_U mm mm2
theorem se_bad.of {N : Nat} {P : Nat → Nat} {u z q fr cl : Nat} {mc mm mc2 mm2 : sh_X} {rc : Option (Option Unit × sh_X)} {rm : Option (Bool × sh_X)} (h : se_bad N P mc2 mm2 rc rm) (f : se_F u z q fr cl mc mc2) (g : se_U mm mm2) : se_bad N P mc mm rc rm := by
  obtain ⟨k, t, a, b, h1, h2, h3, h4, h5⟩ := h
  exact ⟨k, t, a, b, h1, h2, f.thenW h3, h4, g.trans h5⟩
section
variable {N : Nat} {K : Nat → Int32} {P V : Nat → Nat} {A C : Nat → Nat → Int32} {p : Nat → Bool} {gs : sh_gL} {u z q B fr cl sp cw ifs cd kn : Nat} {m : sh_X}
/-- settle: what has a type stays -/
theorem se_107T {s : Nat} (h : se_c N K P V C gs u z q B fr cl sp cw ifs cd kn m) (hs : s < z) (hz : z ≤ 2048) (h0 : ¬ m.I 49 s = 0) (ty : Int32) : sf_107 (Int32.ofNat s) ty m = some (some (), m) := by
  unfold sf_107
  rw [(se_slot h.cz hs hz).1, sh_bc_some, if_neg h0]
theorem se_107n {s t k b n : Nat} {v : Int64} (hN : N ≤ 4000) (h : se_c N K P V C gs u z q B fr cl sp cw ifs cd kn m) (hs : s < z) (hz : z ≤ 2048) (hL : se_L m s t v) (ht : t ≤ N) (hy : sh_typ k b n) (hh : ¬ (n = 0 ∧ sh_hs k b v)) : sf_107 (Int32.ofNat s) (Int32.ofNat (sh_te k b n)) m = some (none, sh_flt 5 (Int32.ofNat (P t)) m) := by
  obtain ⟨s1, s2, s3, s4⟩ := se_slot h.cz hs hz
  unfold sf_107
  rw [s1, sh_bc_some, if_pos hL.1, s2, sh_bc_some, s3, sh_bc_some, hL.2.1, hL.2.2.1, if_neg (fun r => hh ((sh_112 hy hL.2.2.2).mp r)), se_fail hN h ht]
  rfl
theorem se_107x {s t k b : Nat} {v : Int64} (hN : N ≤ 4000) (h : se_c N K P V C gs u z q B fr cl sp cw ifs cd kn m) (hs : s < z) (hz : z ≤ 2048) (hL : se_L m s t v) (ht : t ≤ N) (hy : sh_typ k b 0) (hh : sh_hs k b v) (hx : 3000 < sp + b) (hsp : sp ≤ 3000) : sf_107 (Int32.ofNat s) (Int32.ofNat (sh_te k b 0)) m = some (none, sh_flt 6 (Int32.ofNat (P t)) (m.T, sh_u2 m.I 41 14 (Int32.ofNat (sp + b)), m.J, m.s)) := by
  obtain ⟨s1, s2, s3, s4⟩ := se_slot h.cz hs hz
  have b2 := hy.b2
  unfold sf_107
  rw [s1, sh_bc_some, if_pos hL.1, s2, sh_bc_some, s3, sh_bc_some, hL.2.1, hL.2.2.1, if_pos ((sh_112 hy hL.2.2.2).mpr ⟨rfl, hh⟩)]
  unfold sf_107_49
  rw [sh_94 hy, se_90no hN h hx (by omega) ht]
  rfl
theorem se_107o {s t k b : Nat} {v : Int64} (h : se_c N K P V C gs u z q B fr cl sp cw ifs cd kn m) (hs : s < z) (hz : z ≤ 2048) (hL : se_L m s t v) (hy : sh_typ k b 0) (hh : sh_hs k b v) (hx : sp + b ≤ 3000) (hu : u + b ≤ 8192) :
    ∃ e u2 m2, sf_107 (Int32.ofNat s) (Int32.ofNat (sh_te k b 0)) m = some (some (), m2) ∧ se_c N K P V C (e ++ gs) u2 z q B fr cl (sp + b) cw ifs cd kn m2 ∧ se_F u s q fr cl m m2 ∧ (∀ j, j ≠ s → m2.I 49 j = m.I 49 j ∧ m2.I 50 j = m.I 50 j ∧ m2.I 52 j = m.I 52 j ∧ m2.J 51 j = m.J 51 j) ∧ se_T p m2 (e ++ gs) u2 s k b 0 (fun _ => v) ∧ u ≤ u2 ∧ u2 ≤ u + b ∧ e.length ≤ 0 ∧ m2.I 41 13 = m.I 41 13 := by
  obtain ⟨s1, s2, s3, s4⟩ := se_slot h.cz hs hz
  have b2 := hy.b2
  have c1 := h.wsp (sp2 := sp + b)
  obtain ⟨e, w, u2, m5, r1, r2, r3, r4, r5, r6, r7, r8⟩ := sh_115 (x := v) c1.rs b2 hu
  have c5 := c1.R r5 r6 r2
  have c6 := (c5.wI (c := 49) (i := s) (x := Int32.ofNat (sh_te k b 0)) (by omega)).wI (c := 50) (i := s) (x := Int32.ofNat w) (by omega)
  have kk : ∀ c, 41 ≤ c → c ≤ 57 → c ≠ 44 → c ≠ 45 → c ≠ 46 → c ≠ 47 → m5.I c = sh_u2 m.I 41 14 (Int32.ofNat (sp + b)) c := fun c a b' d e' f' g => r5.I c (by omega) (by omega) (by omega) (by omega) (by omega) d e' f' g
  have f1 : se_F u s q fr cl m (m.T, sh_u2 m.I 41 14 (Int32.ofNat (sp + b)), m.J, m.s) := se_F.wI (by omega) (by omega) (by omega) (by omega) (by omega) (by omega)
  have f5 := f1.trans (se_F.R (u := u) (z := s) (q := q) (fr := fr) (cl := cl) r5 r6) (Nat.le_refl _) (Nat.le_refl _) (Nat.le_refl _) (Nat.le_refl _) (Nat.le_refl _)
  have f6 := (f5.trans (se_F.wI (u := u) (z := s) (q := q) (fr := fr) (cl := cl) (c := 49) (i := s) (x := Int32.ofNat (sh_te k b 0)) (by omega) (by omega) (by omega) (by omega) (by omega) (by omega)) (Nat.le_refl _) (Nat.le_refl _) (Nat.le_refl _) (Nat.le_refl _) (Nat.le_refl _)).trans (se_F.wI (u := u) (z := s) (q := q) (fr := fr) (cl := cl) (c := 50) (i := s) (x := Int32.ofNat w) (by omega) (by omega) (by omega) (by omega) (by omega) (by omega)) (Nat.le_refl _) (Nat.le_refl _) (Nat.le_refl _) (Nat.le_refl _) (Nat.le_refl _)
  refine ⟨e, u2, _, ?_, c6, f6, fun j hj => ⟨?_, ?_, ?_, ?_⟩, ⟨hy, ?_, w, se_Is, se_V.of1 (F := fun j _ => v.toBitVec.getLsbD j) ?_ ?_⟩, r3, r4, by omega, ?_⟩
  · unfold sf_107
    rw [s1, sh_bc_some, if_pos hL.1, s2, sh_bc_some, s3, sh_bc_some, hL.2.1, hL.2.2.1, if_pos ((sh_112 hy hL.2.2.2).mpr ⟨rfl, hh⟩)]
    unfold sf_107_49
    rw [sh_94 hy, se_90ok (i := 0) h hx]
    show sh_bn (sf_115 v (Int32.ofNat b) _) _ = _
    rw [r1, sh_bn_some]
    have e9 : sf_109 (Int32.ofNat s) m5 = some true := by
      unfold sf_109
      rw [if_neg (sh_nI0 (by omega)), c5.cz, if_pos ((sh_nIlt (by omega) (by omega)).mpr hs)]
    have o : sh_okb (Int32.ofNat s) 2048 = true := sh_okn' (by omega) (by omega)
    unfold sf_116
    rw [e9, sh_bc_some, if_pos rfl, if_pos o, if_pos o, sh_nIc (by omega)]
    rfl
  · rw [se_Ic (by omega), se_In (by omega), kk 49 (by omega) (by omega) (by omega) (by omega) (by omega) (by omega), sh_u2_cell (by omega)]
  · rw [se_In (by omega), se_Ic (by omega), kk 50 (by omega) (by omega) (by omega) (by omega) (by omega) (by omega), sh_u2_cell (by omega)]
  · rw [se_Ic (by omega), se_Ic (by omega), kk 52 (by omega) (by omega) (by omega) (by omega) (by omega) (by omega), sh_u2_cell (by omega)]
  · show m5.J 51 j = _
    rw [r5.J]
  · rw [se_Ic (by omega), se_Is]
  · have := r8.keep (m2 := (m5.T, sh_u2 (sh_u2 m5.I 49 s (Int32.ofNat (sh_te k b 0))) 50 s (Int32.ofNat w), m5.J, m5.s)) (e := []) (Nat.le_refl u2) (fun j _ => by rw [se_Ic (by omega)]; rw [sh_u2_cell (by omega)])
    exact this
  · exact sh_hs_Ft hy hL.2.2.2 hh
  · rw [se_Ic (by omega), se_Ic (by omega), kk 41 (by omega) (by omega) (by omega) (by omega) (by omega) (by omega), sh_u2_idx (by omega)]
end
