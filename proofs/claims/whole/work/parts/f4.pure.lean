/-! EVALUATION: calls: what the model leaves as it was, its registers aside; a call begins -/
def se_G0 (tp q un li : Nat) (m m2 : sh_X) : Prop := (m2.T = m.T) ∧ (m2.s = m.s) ∧ (∀ x, x ≠ 66 → (x < 93 ∨ (97 < x ∧ x < 105) ∨ x = 111 ∨ x = 115 ∨ 116 < x) → m2.I x = m.I x) ∧ (∀ x, x ≠ 66 → x ≠ 92 → x ≠ 98 → x ≠ 111 → x ≠ 115 → m2.J x = m.J x) ∧ (∀ f, f < 41 ∨ (45 < f ∧ f < 53) ∨ (59 < f ∧ f ≠ 73 ∧ f ≠ 79) → m2.I 66 f = m.I 66 f) ∧ (∀ j, j < tp → m2.J 92 j = m.J 92 j) ∧ (∀ j, j < q → m2.I 93 j = m.I 93 j ∧ m2.I 94 j = m.I 94 j ∧ m2.I 95 j = m.I 95 j ∧ m2.I 96 j = m.I 96 j ∧ m2.I 97 j = m.I 97 j ∧ m2.J 98 j = m.J 98 j) ∧ (∀ j, j < un → m2.I 105 j = m.I 105 j ∧ m2.I 106 j = m.I 106 j ∧ m2.I 107 j = m.I 107 j ∧ m2.I 108 j = m.I 108 j ∧ m2.I 109 j = m.I 109 j ∧ m2.I 110 j = m.I 110 j ∧ m2.J 111 j = m.J 111 j) ∧ (∀ j, j < li → m2.I 112 j = m.I 112 j ∧ m2.I 113 j = m.I 113 j ∧ m2.I 114 j = m.I 114 j ∧ m2.I 116 j = m.I 116 j ∧ m2.J 115 j = m.J 115 j)
theorem se_G0.T {tp q un li : Nat} {m m2 : sh_X} (h : se_G0 tp q un li m m2) : m2.T = m.T := h.1
theorem se_G0.s {tp q un li : Nat} {m m2 : sh_X} (h : se_G0 tp q un li m m2) : m2.s = m.s := h.2.1
theorem se_G0.I {tp q un li : Nat} {m m2 : sh_X} (h : se_G0 tp q un li m m2) : ∀ x, x ≠ 66 → (x < 93 ∨ (97 < x ∧ x < 105) ∨ x = 111 ∨ x = 115 ∨ 116 < x) → m2.I x = m.I x := h.2.2.1
theorem se_G0.J {tp q un li : Nat} {m m2 : sh_X} (h : se_G0 tp q un li m m2) : ∀ x, x ≠ 66 → x ≠ 92 → x ≠ 98 → x ≠ 111 → x ≠ 115 → m2.J x = m.J x := h.2.2.2.1
theorem se_G0.F {tp q un li : Nat} {m m2 : sh_X} (h : se_G0 tp q un li m m2) : ∀ f, f < 41 ∨ (45 < f ∧ f < 53) ∨ (59 < f ∧ f ≠ 73 ∧ f ≠ 79) → m2.I 66 f = m.I 66 f := h.2.2.2.2.1
theorem se_G0.me {tp q un li : Nat} {m m2 : sh_X} (h : se_G0 tp q un li m m2) : ∀ j, j < tp → m2.J 92 j = m.J 92 j := h.2.2.2.2.2.1
theorem se_G0.na {tp q un li : Nat} {m m2 : sh_X} (h : se_G0 tp q un li m m2) : ∀ j, j < q → m2.I 93 j = m.I 93 j ∧ m2.I 94 j = m.I 94 j ∧ m2.I 95 j = m.I 95 j ∧ m2.I 96 j = m.I 96 j ∧ m2.I 97 j = m.I 97 j ∧ m2.J 98 j = m.J 98 j := h.2.2.2.2.2.2.1
theorem se_G0.ws {tp q un li : Nat} {m m2 : sh_X} (h : se_G0 tp q un li m m2) : ∀ j, j < un → m2.I 105 j = m.I 105 j ∧ m2.I 106 j = m.I 106 j ∧ m2.I 107 j = m.I 107 j ∧ m2.I 108 j = m.I 108 j ∧ m2.I 109 j = m.I 109 j ∧ m2.I 110 j = m.I 110 j ∧ m2.J 111 j = m.J 111 j := h.2.2.2.2.2.2.2.1
theorem se_G0.ls {tp q un li : Nat} {m m2 : sh_X} (h : se_G0 tp q un li m m2) : ∀ j, j < li → m2.I 112 j = m.I 112 j ∧ m2.I 113 j = m.I 113 j ∧ m2.I 114 j = m.I 114 j ∧ m2.I 116 j = m.I 116 j ∧ m2.J 115 j = m.J 115 j := h.2.2.2.2.2.2.2.2
theorem se_G0.mk {tp q un li : Nat} {m m2 : sh_X} (T : m2.T = m.T) (s : m2.s = m.s) (I : ∀ x, x ≠ 66 → (x < 93 ∨ (97 < x ∧ x < 105) ∨ x = 111 ∨ x = 115 ∨ 116 < x) → m2.I x = m.I x) (J : ∀ x, x ≠ 66 → x ≠ 92 → x ≠ 98 → x ≠ 111 → x ≠ 115 → m2.J x = m.J x) (F : ∀ f, f < 41 ∨ (45 < f ∧ f < 53) ∨ (59 < f ∧ f ≠ 73 ∧ f ≠ 79) → m2.I 66 f = m.I 66 f) (me : ∀ j, j < tp → m2.J 92 j = m.J 92 j) (na : ∀ j, j < q → m2.I 93 j = m.I 93 j ∧ m2.I 94 j = m.I 94 j ∧ m2.I 95 j = m.I 95 j ∧ m2.I 96 j = m.I 96 j ∧ m2.I 97 j = m.I 97 j ∧ m2.J 98 j = m.J 98 j) (ws : ∀ j, j < un → m2.I 105 j = m.I 105 j ∧ m2.I 106 j = m.I 106 j ∧ m2.I 107 j = m.I 107 j ∧ m2.I 108 j = m.I 108 j ∧ m2.I 109 j = m.I 109 j ∧ m2.I 110 j = m.I 110 j ∧ m2.J 111 j = m.J 111 j) (ls : ∀ j, j < li → m2.I 112 j = m.I 112 j ∧ m2.I 113 j = m.I 113 j ∧ m2.I 114 j = m.I 114 j ∧ m2.I 116 j = m.I 116 j ∧ m2.J 115 j = m.J 115 j) : se_G0 tp q un li m m2 := ⟨T, s, I, J, F, me, na, ws, ls⟩
theorem se_G.G0 {tp q un li : Nat} {m m2 : sh_X} (h : se_G tp q un li m m2) : se_G0 tp q un li m m2 := se_G0.mk h.T h.s h.I h.J (fun f a => h.F f (by omega)) h.me h.na h.ws h.ls
theorem se_G0.refl {tp q un li : Nat} (m : sh_X) : se_G0 tp q un li m m := (se_G.refl m).G0
theorem se_G0.trans {tp q un li tp2 q2 un2 li2 : Nat} {m m2 m3 : sh_X} (h : se_G0 tp q un li m m2) (g : se_G0 tp2 q2 un2 li2 m2 m3) (ht : tp ≤ tp2) (hq : q ≤ q2) (hu : un ≤ un2) (hl : li ≤ li2) : se_G0 tp q un li m m3 :=
  se_G0.mk (g.T.trans h.T) (g.s.trans h.s) (fun x a b => (g.I x a b).trans (h.I x a b)) (fun x a b c d e => (g.J x a b c d e).trans (h.J x a b c d e)) (fun f a => (g.F f a).trans (h.F f a)) (fun j hj => (g.me j (by omega)).trans (h.me j hj))
    (fun j hj => by have a := h.na j hj; have b := g.na j (by omega); exact ⟨b.1.trans a.1, b.2.1.trans a.2.1, b.2.2.1.trans a.2.2.1, b.2.2.2.1.trans a.2.2.2.1, b.2.2.2.2.1.trans a.2.2.2.2.1, b.2.2.2.2.2.trans a.2.2.2.2.2⟩)
    (fun j hj => by have a := h.ws j hj; have b := g.ws j (by omega); exact ⟨b.1.trans a.1, b.2.1.trans a.2.1, b.2.2.1.trans a.2.2.1, b.2.2.2.1.trans a.2.2.2.1, b.2.2.2.2.1.trans a.2.2.2.2.1, b.2.2.2.2.2.1.trans a.2.2.2.2.2.1, b.2.2.2.2.2.2.trans a.2.2.2.2.2.2⟩)
    (fun j hj => by have a := h.ls j hj; have b := g.ls j (by omega); exact ⟨b.1.trans a.1, b.2.1.trans a.2.1, b.2.2.1.trans a.2.2.1, b.2.2.2.1.trans a.2.2.2.1, b.2.2.2.2.trans a.2.2.2.2⟩)
theorem se_G0.less {tp q un li tp2 q2 un2 li2 : Nat} {m m2 : sh_X} (g : se_G0 tp2 q2 un2 li2 m m2) (ht : tp ≤ tp2) (hq : q ≤ q2) (hu : un ≤ un2) (hl : li ≤ li2) : se_G0 tp q un li m m2 := (se_G0.refl m).trans g ht hq hu hl
theorem se_G0.U {tp q un li : Nat} {m m2 : sh_X} (h : se_G0 tp q un li m m2) : se_U m m2 := se_U.mk h.T h.s (fun x a b => h.I x a (by omega)) (fun x a b => h.J x a (by omega) (by omega) (by omega) (by omega)) (fun f a => h.F f (by omega))
/-- a register is written -/
theorem se_G0.wF {tp q un li f : Nat} {x : Int32} {m : sh_X} (hf : (41 ≤ f ∧ f ≤ 45) ∨ (53 ≤ f ∧ f ≤ 59) ∨ f = 73 ∨ f = 79) : se_G0 tp q un li m (m.T, sh_u2 m.I 66 f x, m.J, m.s) :=
  se_G0.mk rfl rfl (fun d a b => sh_u2_cell (by omega)) (fun _ _ _ _ _ _ => rfl) (fun g a => se_In (by omega)) (fun _ _ => rfl) (fun j hj => by rw [se_Ic (by omega), se_Ic (by omega), se_Ic (by omega), se_Ic (by omega), se_Ic (by omega)]; exact ⟨rfl, rfl, rfl, rfl, rfl, rfl⟩) (fun j hj => by rw [se_Ic (by omega), se_Ic (by omega), se_Ic (by omega), se_Ic (by omega), se_Ic (by omega), se_Ic (by omega)]; exact ⟨rfl, rfl, rfl, rfl, rfl, rfl, rfl⟩) (fun j hj => by rw [se_Ic (by omega), se_Ic (by omega), se_Ic (by omega), se_Ic (by omega)]; exact ⟨rfl, rfl, rfl, rfl, rfl⟩)
theorem se_G0.full {tp q un li : Nat} {m m2 : sh_X} (h : se_G0 tp q un li m m2) (hF : ∀ f, (53 ≤ f ∧ f ≤ 59) ∨ f = 79 → m2.I 66 f = m.I 66 f) : se_G tp q un li m m2 := se_G.mk h.T h.s h.I h.J (fun f a => by
  by_cases q : (53 ≤ f ∧ f ≤ 59) ∨ f = 79
  · exact hF f q
  · exact h.F f (by omega)) h.me h.na h.ws h.ls
theorem se_J.keep0 {N : Nat} {K : Nat → Int32} {V : Nat → Nat} {p : Nat → Bool} {e gs : sh_gL} {u u2 q B M tp tp2 cw z fr cl un li : Nat} {ac : Bool} {mc mm mc2 mm2 : sh_X} (h : se_J N K V p gs u q B M tp cw ac mc mm) (f : se_F u z q fr cl mc mc2) (g : se_G0 tp q un li mm mm2) (hu : u ≤ u2) (ht : tp ≤ tp2) : se_J N K V p (e ++ gs) u2 q B M tp2 cw ac mc2 mm2 := by
  -- the same memory with the registers of before
  have g2 : se_G tp q un li mm (mm2.T, fun c i => if c = 66 then mm.I c i else mm2.I c i, mm2.J, mm2.s) :=
    se_G.mk g.T g.s (fun x a b => by funext i; show (if x = 66 then mm.I x i else mm2.I x i) = _; rw [if_neg a, g.I x a b]) g.J (fun f a => by show (if 66 = 66 then mm.I 66 f else mm2.I 66 f) = _; rw [if_pos rfl]) g.me g.na g.ws g.ls
  have j := h.keep (e := e) f g2 hu ht
  exact se_J.mk (fun i hi => j.nm i hi) (fun i j' a b => j.sep i j' a b) (fun i a b => j.nM i a b) j.lM j.ac_ j.lcw j.ou
/-! the class's registers are written -/
section
variable {N : Nat} {K : Nat → Int32} {P V : Nat → Nat} {C : Nat → Nat → Int32} {gs : sh_gL} {u z q B fr cl sp cw ifs cd kn : Nat} {m : sh_X}
theorem se_c.w_q {y : Nat} (h : se_c N K P V C gs u z q B fr cl sp cw ifs cd kn m) : se_c N K P V C gs u z y B fr cl sp cw ifs cd kn (m.T, sh_u2 m.I 53 4 (Int32.ofNat y), m.J, m.s) :=
  h.next (se_F.wI (u := 0) (z := 0) (q := 0) (fr := 0) (cl := 0) (by omega) (by omega) (by omega) (by omega) (by omega) (by omega)) (h.rs.wI (by omega)) ((se_In (by omega)).trans h.cz) se_Is ((se_In (by omega)).trans h.cB) ((se_In (by omega)).trans h.cfr) ((se_In (by omega)).trans h.ccl) ((se_In (by omega)).trans h.csp) ((se_In (by omega)).trans h.ccw) ((se_In (by omega)).trans h.cif) ((se_In (by omega)).trans h.ccd) ((se_In (by omega)).trans h.ckn)
theorem se_c.w_B {y : Nat} (h : se_c N K P V C gs u z q B fr cl sp cw ifs cd kn m) : se_c N K P V C gs u z q y fr cl sp cw ifs cd kn (m.T, sh_u2 m.I 53 5 (Int32.ofNat y), m.J, m.s) :=
  h.next (se_F.wI (u := 0) (z := 0) (q := 0) (fr := 0) (cl := 0) (by omega) (by omega) (by omega) (by omega) (by omega) (by omega)) (h.rs.wI (by omega)) ((se_In (by omega)).trans h.cz) ((se_In (by omega)).trans h.cq) se_Is ((se_In (by omega)).trans h.cfr) ((se_In (by omega)).trans h.ccl) ((se_In (by omega)).trans h.csp) ((se_In (by omega)).trans h.ccw) ((se_In (by omega)).trans h.cif) ((se_In (by omega)).trans h.ccd) ((se_In (by omega)).trans h.ckn)
theorem se_c.w_fr {y : Nat} (h : se_c N K P V C gs u z q B fr cl sp cw ifs cd kn m) : se_c N K P V C gs u z q B y cl sp cw ifs cd kn (m.T, sh_u2 m.I 41 11 (Int32.ofNat y), m.J, m.s) :=
  h.next (se_F.wI (u := 0) (z := 0) (q := 0) (fr := 0) (cl := 0) (by omega) (by omega) (by omega) (by omega) (by omega) (by omega)) (h.rs.wI (by omega)) ((se_In (by omega)).trans h.cz) ((se_In (by omega)).trans h.cq) ((se_In (by omega)).trans h.cB) se_Is ((se_In (by omega)).trans h.ccl) ((se_In (by omega)).trans h.csp) ((se_In (by omega)).trans h.ccw) ((se_In (by omega)).trans h.cif) ((se_In (by omega)).trans h.ccd) ((se_In (by omega)).trans h.ckn)
theorem se_c.w_cl {y : Nat} (h : se_c N K P V C gs u z q B fr cl sp cw ifs cd kn m) : se_c N K P V C gs u z q B fr y sp cw ifs cd kn (m.T, sh_u2 m.I 41 12 (Int32.ofNat y), m.J, m.s) :=
  h.next (se_F.wI (u := 0) (z := 0) (q := 0) (fr := 0) (cl := 0) (by omega) (by omega) (by omega) (by omega) (by omega) (by omega)) (h.rs.wI (by omega)) ((se_In (by omega)).trans h.cz) ((se_In (by omega)).trans h.cq) ((se_In (by omega)).trans h.cB) ((se_In (by omega)).trans h.cfr) se_Is ((se_In (by omega)).trans h.csp) ((se_In (by omega)).trans h.ccw) ((se_In (by omega)).trans h.cif) ((se_In (by omega)).trans h.ccd) ((se_In (by omega)).trans h.ckn)
theorem se_c.w_cw {y : Nat} (h : se_c N K P V C gs u z q B fr cl sp cw ifs cd kn m) : se_c N K P V C gs u z q B fr cl sp y ifs cd kn (m.T, sh_u2 m.I 41 15 (Int32.ofNat y), m.J, m.s) :=
  h.next (se_F.wI (u := 0) (z := 0) (q := 0) (fr := 0) (cl := 0) (by omega) (by omega) (by omega) (by omega) (by omega) (by omega)) (h.rs.wI (by omega)) ((se_In (by omega)).trans h.cz) ((se_In (by omega)).trans h.cq) ((se_In (by omega)).trans h.cB) ((se_In (by omega)).trans h.cfr) ((se_In (by omega)).trans h.ccl) ((se_In (by omega)).trans h.csp) se_Is ((se_In (by omega)).trans h.cif) ((se_In (by omega)).trans h.ccd) ((se_In (by omega)).trans h.ckn)
theorem se_c.w_ifs {y : Nat} (h : se_c N K P V C gs u z q B fr cl sp cw ifs cd kn m) : se_c N K P V C gs u z q B fr cl sp cw y cd kn (m.T, sh_u2 m.I 41 16 (Int32.ofNat y), m.J, m.s) :=
  h.next (se_F.wI (u := 0) (z := 0) (q := 0) (fr := 0) (cl := 0) (by omega) (by omega) (by omega) (by omega) (by omega) (by omega)) (h.rs.wI (by omega)) ((se_In (by omega)).trans h.cz) ((se_In (by omega)).trans h.cq) ((se_In (by omega)).trans h.cB) ((se_In (by omega)).trans h.cfr) ((se_In (by omega)).trans h.ccl) ((se_In (by omega)).trans h.csp) ((se_In (by omega)).trans h.ccw) se_Is ((se_In (by omega)).trans h.ccd) ((se_In (by omega)).trans h.ckn)
theorem se_c.w_cd {y : Nat} (h : se_c N K P V C gs u z q B fr cl sp cw ifs cd kn m) : se_c N K P V C gs u z q B fr cl sp cw ifs y kn (m.T, sh_u2 m.I 41 17 (Int32.ofNat y), m.J, m.s) :=
  h.next (se_F.wI (u := 0) (z := 0) (q := 0) (fr := 0) (cl := 0) (by omega) (by omega) (by omega) (by omega) (by omega) (by omega)) (h.rs.wI (by omega)) ((se_In (by omega)).trans h.cz) ((se_In (by omega)).trans h.cq) ((se_In (by omega)).trans h.cB) ((se_In (by omega)).trans h.cfr) ((se_In (by omega)).trans h.ccl) ((se_In (by omega)).trans h.csp) ((se_In (by omega)).trans h.ccw) ((se_In (by omega)).trans h.cif) se_Is ((se_In (by omega)).trans h.ckn)
theorem se_c.w_kn {y : Nat} (h : se_c N K P V C gs u z q B fr cl sp cw ifs cd kn m) : se_c N K P V C gs u z q B fr cl sp cw ifs cd y (m.T, sh_u2 m.I 41 18 (Int32.ofNat y), m.J, m.s) :=
  h.next (se_F.wI (u := 0) (z := 0) (q := 0) (fr := 0) (cl := 0) (by omega) (by omega) (by omega) (by omega) (by omega) (by omega)) (h.rs.wI (by omega)) ((se_In (by omega)).trans h.cz) ((se_In (by omega)).trans h.cq) ((se_In (by omega)).trans h.cB) ((se_In (by omega)).trans h.cfr) ((se_In (by omega)).trans h.ccl) ((se_In (by omega)).trans h.csp) ((se_In (by omega)).trans h.ccw) ((se_In (by omega)).trans h.cif) ((se_In (by omega)).trans h.ccd) se_Is
end
section
variable {N : Nat} {K : Nat → Int32} {P V : Nat → Nat} {A C : Nat → Nat → Int32} {p : Nat → Bool} {pf : Nat → Nat} {F c2 fm un e i j n len d bb sg dq : Nat} {gs : sh_gL} {u z q B M fr cl sp cw ifs cd kn inn tp li : Nat} {ac : Bool} {mc mm : sh_X} {nn t dc g : Nat} {r : Nat → Nat}
/-- CALL and PAY_CALL -/
theorem se_cal0 (h : se_P N K P V A C p pf F c2 fm un e i n len d bb sg (g + 3) gs u z q B M fr cl sp cw ifs cd kn inn tp li ac mc mm) (hH : sh_Hds N K V A C F) (hF : F < 256) (hC : C 28 12 = Int32.ofNat F) (h72 : A 72 e = 5) (h73 : A 73 e = Int32.ofNat t) (ht : t ≤ N) (k1 : K t = 1) (h75 : A 75 e = Int32.ofNat dc) (hdc : dc ≤ 40) (h74 : A 74 e = if 0 < nn then Int32.ofNat (r 0) else -1) (hr : ∀ k, k < nn → r k < 9000 ∧ A 77 (r k) = (if k + 1 < nn then Int32.ofNat (r (k + 1)) else -1)) (hnn : nn ≤ 4000)
    (c14 : C 36 i = 14) (w14 : C 37 i = Int32.ofNat t) (x14 : C 38 i = Int32.ofNat nn) (c15 : C 36 (i + 1) = 15) (w15 : C 37 (i + 1) = Int32.ofNat t) (x15 : C 38 (i + 1) = Int32.ofNat dc) (hi : i + 1 < c2) :
    se_bad N P mc mm (sf_78_10 (Int32.ofNat n) mc) (sf_294_10 (sq_279 (g + 3)) (Int32.ofNat fm) mm) ∨
    ∃ f mc1 mm1, f < kn ∧ f < F ∧ C 33 f = Int32.ofNat nn ∧ A 80 f = Int32.ofNat nn ∧ nn ≤ 8 ∧ cd + dc ≤ 20 ∧ sp + (1 + nn) ≤ 3000 ∧ sf_78_10 (Int32.ofNat n) mc = sf_78_10 (Int32.ofNat (n + 2)) mc1 ∧ mc1.I 41 13 = Int32.ofNat (i + 2) ∧ se_c N K P V C gs u z q B fr (cl + 1) (sp + (1 + nn)) cw ifs cd kn mc1 ∧ se_F u z q fr cl mc mc1 ∧ mc1.I 43 cl = Int32.ofNat f ∧
      sf_294_10 (sq_279 (g + 3)) (Int32.ofNat fm) mm = se_ev (sq_279 (g + 3)) (Int32.ofNat fm) (sf_315_177 (sq_279 (g + 1)) (Int32.ofNat f) 0 (Int32.ofNat (cd + dc)) (Int32.ofNat tp) (Int32.ofNat li) (A 74 e) mm1) ∧ se_m N K P V A q B (sp + (1 + nn)) ifs cd kn (inn + 1) tp li ac mm1 ∧ se_G0 tp q un li mm mm1 ∧ mm1.I 66 73 = Int32.ofNat un := by
  have N4 := h.tx.N4
  have le := h.st.le
  obtain ⟨z1, q1, t1, n1⟩ := h.z1
  have kF := h.bd.kF
  have cd2 := h.bd.cd2
  have c1' := h.bd.c1
  have d40 := h.bd.d40
  have sp3 := h.bd.sp3
  have m1 := se_dnm (un := un) h.hm
  have g1 : se_G tp q un li mm (se_dn un mm) := se_dnG
  have m73 : (se_dn un mm).I 73 e = Int32.ofNat t := (congrFun (m1.aa 73 (by omega) (by omega)) e).trans h73
  have m74 : (se_dn un mm).I 74 e = A 74 e := congrFun (m1.aa 74 (by omega) (by omega)) e
  have m75 : (se_dn un mm).I 75 e = Int32.ofNat dc := (congrFun (m1.aa 75 (by omega) (by omega)) e).trans h75
  have oe : sh_okb (Int32.ofNat e) 9000 = true := sh_okn' le (by omega)
  have ot : sh_okb (Int32.ofNat t) 4002 = true := sh_okn' (by omega) (by omega)
  have m69 : (se_dn un mm).I 69 t = Int32.ofNat (P t) := m1.we.at ht
  have ev : sf_294_10 (sq_279 (g + 3)) (Int32.ofNat fm) mm = se_ev (sq_279 (g + 3)) (Int32.ofNat fm) (sf_315 (sq_279 (g + 1)) (Int32.ofNat e) (se_dn un mm)) := by
    rw [se_294p h.st (k := 5) (by rw [h.hm.aa 72 (by omega) (by omega)]; exact h72) (by decide)]
    have e1 : (sq_279 (g + 3)).f313 (Int32.ofNat e) (se_dn un mm) = sf_315 (sq_279 (g + 1)) (Int32.ofNat e) (se_dn un mm) := by
      show sf_313 (sq_279 (g + 2)) (Int32.ofNat e) (se_dn un mm) = _
      unfold sf_313
      rw [if_pos oe, sh_nIc (by omega), m1.aa 72 (by omega) (by omega), h72, if_neg (by decide), if_neg (by decide), if_neg (by decide)]
      show (sh_bn (sf_315 (sq_279 (g + 1)) (Int32.ofNat e) (se_dn un mm)) fun r3 m13 => some (r3, m13)) = _
      cases sf_315 (sq_279 (g + 1)) (Int32.ofNat e) (se_dn un mm) with
      | none => rfl
      | some r => rfl
    show se_ev _ _ ((sq_279 (g + 3)).f313 (Int32.ofNat e) (se_dn un mm)) = _
    rw [e1]
  have at1 := h.at (by omega) c14 w14 x14
  have c1 := h.hc.nx (i := i + 1)
  have f1 : se_F u z q fr cl mc (se_nx (i + 1) mc) := se_nxFr
  have n83 := sh_83 h.tx c1.wc ht k1
  have cF : (se_nx (i + 1) mc).I 28 12 = Int32.ofNat F := by rw [c1.cc 28 (by omega) (by omega)]; exact hC
  have e315 : ∀ x, sf_316 (Int32.ofNat t) (se_dn un mm) = some x → sf_315 (sq_279 (g + 1)) (Int32.ofNat e) (se_dn un mm) = if x < 0 then some (false, sh_mft 3 (Int32.ofNat (P t)) (se_dn un mm)) else sf_315_42 (sq_279 (g + 1)) (Int32.ofNat e) x 0 (A 74 e) (se_dn un mm) := by
    intro x hx
    unfold sf_315
    rw [if_pos oe, sh_nIc (by omega), m73, hx, sh_bc_some, if_pos ot, sh_nIc (by omega), m69, sh_252, sh_bn_some, if_pos oe, if_pos oe, m74]
  rcases se_ffn h.tx hH hF (by omega) c1 m1 ht k1 with ⟨f, f1', f2, f3⟩ | ⟨f2, f3⟩
  · obtain ⟨nf, nt, rt, tt, h0, _, _, _, _⟩ := hH f (by omega)
    have nf8 := h0.n8
    have m80 : (se_dn un mm).I 80 f = Int32.ofNat nf := (congrFun (m1.aa 80 (by omega) (by omega)) f).trans h0.a80
    have e42 : sf_315 (sq_279 (g + 1)) (Int32.ofNat e) (se_dn un mm) = sf_315_42 (sq_279 (g + 1)) (Int32.ofNat e) (Int32.ofNat f) (Int32.ofNat nn) (-1) (se_dn un mm) := by
      rw [e315 _ f3, if_neg (sh_nI0 (by omega)), h74]
      exact se_cnt (fun k hk => ⟨(hr k hk).1, (congrFun (m1.aa 77 (by omega) (by omega)) (r k)).trans (hr k hk).2⟩)
    have c33 : (se_nx (i + 1) mc).I 33 f = Int32.ofNat nf := by rw [c1.cc 33 (by omega) (by omega)]; exact h0.c33
    have e155 : sf_78_10 (Int32.ofNat n) mc = se_go n (if Int32.ofNat nf = Int32.ofNat nn then sf_155_60 (Int32.ofNat f) (se_nx (i + 1) mc) else some (none, sh_flt 4 (Int32.ofNat (P t)) (se_nx (i + 1) mc))) := by
      rw [se_a14 at1]
      unfold sf_155 sf_156
      rw [n83, sh_bc_some, f2, sh_bc_some, if_neg (sh_nI0 (by omega)), cF, if_pos ((sh_nIlt (by omega) (by omega)).mpr (by omega)), sh_bc_some, if_pos rfl, if_pos (sh_okn' (by omega) (by omega)), sh_nIc (by omega), c33, se_fail N4 c1 ht]
      rfl
    have e42s : sf_315_42 (sq_279 (g + 1)) (Int32.ofNat e) (Int32.ofNat f) (Int32.ofNat nn) (-1) (se_dn un mm) = if nn = nf then (if 20 < cd + dc then some (false, sh_mft 6 (Int32.ofNat (P t)) (se_dn un mm)) else sh_bn (sf_292 (Int32.ofNat (1 + nn)) (Int32.ofNat t) (se_dn un mm)) fun r2 m12 => if r2 = true then sf_315_177 (sq_279 (g + 1)) (Int32.ofNat f) 0 (Int32.ofNat (cd + dc)) (m12.I 66 41) (m12.I 66 79) (m12.I 74 e) (m12.T, sh_u2 m12.I 66 58 (m12.I 66 58 + 1), m12.J, m12.s) else some (false, m12)) else some (false, sh_mft 4 (Int32.ofNat (P t)) (se_dn un mm)) := by
      unfold sf_315_42
      refine se_whileU ?_
      show sf_315_42s (sq_279 (g + 1)) (Int32.ofNat e) (Int32.ofNat f) (Int32.ofNat nn) (-1) (se_dn un mm) = _
      unfold sf_315_42s
      rw [if_pos (by decide), if_pos (sh_okn' (by omega) (by omega)), sh_nIc (by omega), m80]
      by_cases hnf : nn = nf
      · rw [if_pos (by rw [hnf]), if_pos hnf, if_pos oe, m1.mcd, sh_nIc (by omega), m75, sh_nIadd]
        by_cases h20 : 20 < cd + dc
        · rw [if_pos (show 20 < Int32.ofNat (cd + dc) from (sh_nIlt (a := 20) (by omega) (by omega)).mpr h20), if_pos h20, if_pos oe, m73, if_pos ot, sh_nIc (by omega), m69, sh_252]
          rfl
        · rw [if_neg (show ¬ 20 < Int32.ofNat (cd + dc) from fun w => h20 ((sh_nIlt (a := 20) (by omega) (by omega)).mp w)), if_neg h20, if_pos oe, m73, show (1 : Int32) + Int32.ofNat nn = Int32.ofNat (1 + nn) from sh_nIadd (a := 1)]
          simp only [if_pos oe]
          cases sf_292 (Int32.ofNat (1 + nn)) (Int32.ofNat t) (se_dn un mm) with
          | none => rfl
          | some w =>
            obtain ⟨b, m⟩ := w
            cases b with
            | false => rfl
            | true => rfl
      · rw [if_neg (fun w => hnf ((sh_nIeq (by omega) (by omega)).mp w)), if_neg hnf, if_pos oe, sh_nIc (by omega), m73, if_pos ot, sh_nIc (by omega), m69, sh_252]
        rfl
    by_cases hnf : nn = nf
    · subst hnf
      rw [if_pos rfl] at e155 e42s
      have c2' := (c1.wI (c := 43) (i := cl) (x := Int32.ofNat f) (by omega)).w_cl (y := cl + 1)
      have f2' : se_F u z q fr cl (se_nx (i + 1) mc) ((se_nx (i + 1) mc).T, sh_u2 (sh_u2 (se_nx (i + 1) mc).I 43 cl (Int32.ofNat f)) 41 12 (Int32.ofNat (cl + 1)), (se_nx (i + 1) mc).J, (se_nx (i + 1) mc).s) := (se_F.wI (c := 43) (i := cl) (x := Int32.ofNat f) (by omega) (by omega) (by omega) (by omega) (by omega) (by omega)).trans (se_F.wI (c := 41) (i := 12) (x := Int32.ofNat (cl + 1)) (by omega) (by omega) (by omega) (by omega) (by omega) (by omega)) (Nat.le_refl _) (Nat.le_refl _) (Nat.le_refl _) (Nat.le_refl _) (Nat.le_refl _)
      have e60 : sf_155_60 (Int32.ofNat f) (se_nx (i + 1) mc) = some (some (), ((se_nx (i + 1) mc).T, sh_u2 (sh_u2 (se_nx (i + 1) mc).I 43 cl (Int32.ofNat f)) 41 12 (Int32.ofNat (cl + 1)), (se_nx (i + 1) mc).J, (se_nx (i + 1) mc).s)) := by
        unfold sf_155_60
        rw [c1.ccl, if_pos (show Int32.ofNat cl < 1024 from (sh_nIlt (b := 1024) (by omega) (by omega)).mpr (by omega)), if_pos (sh_okn' (by omega) (by omega)), sh_nIc (by omega), sh_nI1]
      have a43 : sh_X.I ((se_nx (i + 1) mc).T, sh_u2 (sh_u2 (se_nx (i + 1) mc).I 43 cl (Int32.ofNat f)) 41 12 (Int32.ofNat (cl + 1)), (se_nx (i + 1) mc).J, (se_nx (i + 1) mc).s) 43 cl = Int32.ofNat f := by rw [se_Ic (by omega), sh_u2_same]
      have a13 : sh_X.I ((se_nx (i + 1) mc).T, sh_u2 (sh_u2 (se_nx (i + 1) mc).I 43 cl (Int32.ofNat f)) 41 12 (Int32.ofNat (cl + 1)), (se_nx (i + 1) mc).J, (se_nx (i + 1) mc).s) 41 13 = Int32.ofNat (i + 1) := by rw [se_In (by omega), sh_u2_cell (by omega)]; exact se_nxA
      rw [e60] at e155
      have c2'' : se_c N K P V C gs u z q B fr (cl + 1) sp cw ifs cd kn ((se_nx (i + 1) mc).T, sh_u2 (sh_u2 (se_nx (i + 1) mc).I 43 cl (Int32.ofNat f)) 41 12 (Int32.ofNat (cl + 1)), (se_nx (i + 1) mc).J, (se_nx (i + 1) mc).s) := c2'
      obtain ⟨m3, hm3⟩ : ∃ m3 : sh_X, ((se_nx (i + 1) mc).T, sh_u2 (sh_u2 (se_nx (i + 1) mc).I 43 cl (Int32.ofNat f)) 41 12 (Int32.ofNat (cl + 1)), (se_nx (i + 1) mc).J, (se_nx (i + 1) mc).s) = m3 := ⟨_, rfl⟩
      rw [hm3] at e155 a43 a13 f2' c2''
      clear e60 c2' hm3
      have F2 := f1.trans f2' (Nat.le_refl _) (Nat.le_refl _) (Nat.le_refl _) (Nat.le_refl _) (Nat.le_refl _)
      have at2 := c2''.at (n := n + 1) (by omega) a13 h.c10 hi h.c6 c15 w15 x15
      have c3 := c2''.nx (i := i + 1 + 1)
      have f3' : se_F u z q fr (cl + 1) m3 (se_nx (i + 1 + 1) m3) := se_nxFr
      have F3 := F2.trans f3' (Nat.le_refl _) (Nat.le_refl _) (Nat.le_refl _) (Nat.le_refl _) (by omega)
      have e157 : sf_78_10 (Int32.ofNat n) mc = se_go (n + 1) (sf_157 (Int32.ofNat t) (Int32.ofNat dc) (se_nx (i + 1 + 1) m3)) := by
        rw [e155]
        show sf_78_10 (Int32.ofNat (n + 1)) m3 = _
        rw [se_a15 at2]
      have b43 : (se_nx (i + 1 + 1) m3).I 43 cl = Int32.ofNat f := by rw [se_nxI (by omega)]; exact a43
      have e158 : sf_158 (se_nx (i + 1 + 1) m3) = some (Int32.ofNat f) := by
        unfold sf_158
        rw [c3.ccl, if_pos ((se_0lt (by omega)).mpr (by omega)), se_um1, if_pos (sh_okn' (by omega) (by omega)), sh_nIc (by omega), b43]
      have b33 : (se_nx (i + 1 + 1) m3).I 33 f = Int32.ofNat nn := by rw [c3.cc 33 (by omega) (by omega)]; exact h0.c33
      have e21 : sf_157_21 (Int32.ofNat t) (se_nx (i + 1 + 1) m3) = sh_bt (sf_90 (Int32.ofNat (1 + nn)) (Int32.ofNat t) (se_nx (i + 1 + 1) m3)) (fun m => (none, m)) fun _ m12 => some (some (), m12) := by
        unfold sf_157_21
        rw [e158, sh_bc_some, if_pos (sh_okn' (by omega) (by omega)), sh_nIc (by omega), b33, show (1 : Int32) = Int32.ofNat 1 from rfl, sh_nIadd]
      by_cases h20 : 20 < cd + dc
      · left
        rw [if_pos h20] at e42s
        refine ⟨6, t, se_nx (i + 1 + 1) m3, se_dn un mm, ht, ?_, F3.W c3.rs, by rw [ev, e42, e42s]; rfl, g1.U⟩
        rw [e157]
        unfold sf_157
        rw [c3.ccd, sh_nIadd, if_pos (show 20 < Int32.ofNat (cd + dc) from (sh_nIlt (a := 20) (by omega) (by omega)).mpr h20), se_fail N4 c3 ht]
        rfl
      · rw [if_neg h20] at e42s
        have e157' : sf_78_10 (Int32.ofNat n) mc = se_go (n + 1) (sh_bt (sf_90 (Int32.ofNat (1 + nn)) (Int32.ofNat t) (se_nx (i + 1 + 1) m3)) (fun m => (none, m)) fun _ m12 => some (some (), m12)) := by
          rw [e157]
          unfold sf_157
          rw [c3.ccd, sh_nIadd, if_neg (show ¬ 20 < Int32.ofNat (cd + dc) from fun w => h20 ((sh_nIlt (a := 20) (by omega) (by omega)).mp w)), e21]
        rcases se_pay (x := 1 + nn) (i := t) N4 c3 m1.we m1.msp ht (by omega) sp3 with bad | ⟨p1, p2, p3⟩
        · left
          obtain ⟨kk, tt, x, y, r1, r2, r3, r4, r5⟩ := bad
          refine ⟨kk, tt, x, y, r1, by rw [e157', r2]; rfl, F3.thenW r3, by rw [ev, e42, e42s, r4]; rfl, g1.U.trans r5⟩
        · right
          have c4 := c3.wsp (sp2 := sp + (1 + nn))
          have f4 : se_F u z q fr (cl + 1) (se_nx (i + 1 + 1) m3) ((se_nx (i + 1 + 1) m3).T, sh_u2 (se_nx (i + 1 + 1) m3).I 41 14 (Int32.ofNat (sp + (1 + nn))), (se_nx (i + 1 + 1) m3).J, (se_nx (i + 1 + 1) m3).s) := se_F.wI (by omega) (by omega) (by omega) (by omega) (by omega) (by omega)
          have m2 : se_m N K P V A q B (sp + (1 + nn)) ifs cd kn inn tp li ac ((se_dn un mm).T, sh_u2 (se_dn un mm).I 66 42 (Int32.ofNat (sp + (1 + nn))), (se_dn un mm).J, (se_dn un mm).s) := se_mR m1 (sh_Rr.wi (by omega)) se_Is
          have G2 : se_G0 tp q un li mm ((se_dn un mm).T, sh_u2 (se_dn un mm).I 66 42 (Int32.ofNat (sp + (1 + nn))), (se_dn un mm).J, (se_dn un mm).s) := g1.G0.trans (se_G0.wF (by omega)) (Nat.le_refl _) (Nat.le_refl _) (Nat.le_refl _) (Nat.le_refl _)
          have u73 : sh_X.I ((se_dn un mm).T, sh_u2 (se_dn un mm).I 66 42 (Int32.ofNat (sp + (1 + nn))), (se_dn un mm).J, (se_dn un mm).s) 66 73 = Int32.ofNat un := by rw [se_In (by omega)]; exact se_dn7
          rw [p3, sh_bn_some, if_pos rfl, m2.mtp, m2.mli, m2.min_, m2.aa 74 (by omega) (by omega), sh_nI1] at e42s
          refine ⟨f, _, _, f1', by omega, h0.c33, h0.a80, nf8, by omega, p1, by rw [e157', p2]; rfl, by rw [se_In (by omega)]; exact se_nxA, c4, F3.trans f4 (Nat.le_refl _) (Nat.le_refl _) (Nat.le_refl _) (Nat.le_refl _) (by omega), by rw [se_Ic (by omega)]; exact b43, by rw [ev, e42, e42s], ?_, G2.trans (se_G0.wF (by omega)) (Nat.le_refl _) (Nat.le_refl _) (Nat.le_refl _) (Nat.le_refl _), by rw [se_In (by omega)]; exact u73⟩
          exact se_m.mk (m2.we.same (se_Ic (by omega)) (se_Ic (by omega)) (se_Ic (by omega)) (se_Ic (by omega))) (fun x a b => (se_Ic (by omega)).trans (m2.aa x a b)) ((se_In (by omega)).trans m2.mtp) ((se_In (by omega)).trans m2.msp) ((se_In (by omega)).trans m2.mq) ((se_In (by omega)).trans m2.mB) ((se_In (by omega)).trans m2.mkn) ((se_In (by omega)).trans m2.mif) ((se_In (by omega)).trans m2.mac) se_Is ((se_In (by omega)).trans m2.mcd) ((se_In (by omega)).trans m2.mli) m2.ia
    · left
      rw [if_neg (fun w => hnf ((sh_nIeq (by omega) (by omega)).mp w).symm)] at e155
      rw [if_neg hnf] at e42s
      exact ⟨4, t, se_nx (i + 1) mc, se_dn un mm, ht, by rw [e155]; rfl, f1.W c1.rs, by rw [ev, e42, e42s]; rfl, g1.U⟩
  · left
    refine ⟨3, t, se_nx (i + 1) mc, se_dn un mm, ht, ?_, f1.W c1.rs, ?_, g1.U⟩
    · rw [se_a14 at1]
      unfold sf_155 sf_156
      rw [n83, sh_bc_some, f2, sh_bc_some, if_pos (by decide), sh_bc_some, if_neg (by decide), se_fail N4 c1 ht]
      rfl
    · rw [ev, e315 _ f3, if_pos (by decide)]
      rfl
end
