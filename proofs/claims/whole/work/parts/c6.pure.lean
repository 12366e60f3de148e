/-! EVALUATION: states -/
theorem se_Is {T : List sh_Tg} {I : Nat → Nat → Int32} {J : Nat → Nat → Int64} {s c i : Nat} {x : Int32} : sh_X.I (T, sh_u2 I c i x, J, s) c i = x := by show sh_u2 I c i x c i = x; exact sh_u2_same
theorem se_In {T : List sh_Tg} {I : Nat → Nat → Int32} {J : Nat → Nat → Int64} {s c i d j : Nat} {x : Int32} (h : d = c → j ≠ i) : sh_X.I (T, sh_u2 I c i x, J, s) d j = I d j := by
  show sh_u2 I c i x d j = I d j
  by_cases e : d = c
  · subst e; exact sh_u2_idx (h rfl)
  · rw [sh_u2_cell e]
theorem se_Ic {T : List sh_Tg} {I : Nat → Nat → Int32} {J : Nat → Nat → Int64} {s c i d : Nat} {x : Int32} (h : d ≠ c) : sh_X.I (T, sh_u2 I c i x, J, s) d = I d := sh_u2_cell h
theorem se_Js {T : List sh_Tg} {I : Nat → Nat → Int32} {J : Nat → Nat → Int64} {s c i : Nat} {x : Int64} : sh_X.J (T, I, sh_u2 J c i x, s) c i = x := by show sh_u2 J c i x c i = x; exact sh_u2_same
theorem se_Jn {T : List sh_Tg} {I : Nat → Nat → Int32} {J : Nat → Nat → Int64} {s c i d j : Nat} {x : Int64} (h : d = c → j ≠ i) : sh_X.J (T, I, sh_u2 J c i x, s) d j = J d j := by
  show sh_u2 J c i x d j = J d j
  by_cases e : d = c
  · subst e; exact sh_u2_idx (h rfl)
  · rw [sh_u2_cell e]
theorem se_Jc {T : List sh_Tg} {I : Nat → Nat → Int32} {J : Nat → Nat → Int64} {s c i d : Nat} {x : Int64} (h : d ≠ c) : sh_X.J (T, I, sh_u2 J c i x, s) d = J d := sh_u2_cell h
/-- the class -/
def se_c (N : Nat) (K : Nat → Int32) (P V : Nat → Nat) (C : Nat → Nat → Int32) (gs : sh_gL) (u z q B fr cl sp cw ifs cd kn : Nat) (m : sh_X) : Prop := (sh_RS gs u m) ∧ (sh_Wc N K P V m) ∧ (∀ x, 28 ≤ x → x ≤ 38 → m.I x = C x) ∧ (m.T[46]? = some (.inl (0, 65))) ∧ (m.I 48 4 = Int32.ofNat z) ∧ (m.I 53 4 = Int32.ofNat q) ∧ (m.I 53 5 = Int32.ofNat B) ∧ (m.I 41 11 = Int32.ofNat fr) ∧ (m.I 41 12 = Int32.ofNat cl) ∧ (m.I 41 14 = Int32.ofNat sp) ∧ (m.I 41 15 = Int32.ofNat cw) ∧ (m.I 41 16 = Int32.ofNat ifs) ∧ (m.I 41 17 = Int32.ofNat cd) ∧ (m.I 41 18 = Int32.ofNat kn)
theorem se_c.rs {N : Nat} {K : Nat → Int32} {P V : Nat → Nat} {C : Nat → Nat → Int32} {gs : sh_gL} {u z q B fr cl sp cw ifs cd kn : Nat} {m : sh_X} (h : se_c N K P V C gs u z q B fr cl sp cw ifs cd kn m) : sh_RS gs u m := h.1
theorem se_c.wc {N : Nat} {K : Nat → Int32} {P V : Nat → Nat} {C : Nat → Nat → Int32} {gs : sh_gL} {u z q B fr cl sp cw ifs cd kn : Nat} {m : sh_X} (h : se_c N K P V C gs u z q B fr cl sp cw ifs cd kn m) : sh_Wc N K P V m := h.2.1
theorem se_c.cc {N : Nat} {K : Nat → Int32} {P V : Nat → Nat} {C : Nat → Nat → Int32} {gs : sh_gL} {u z q B fr cl sp cw ifs cd kn : Nat} {m : sh_X} (h : se_c N K P V C gs u z q B fr cl sp cw ifs cd kn m) : ∀ x, 28 ≤ x → x ≤ 38 → m.I x = C x := h.2.2.1
theorem se_c.h46 {N : Nat} {K : Nat → Int32} {P V : Nat → Nat} {C : Nat → Nat → Int32} {gs : sh_gL} {u z q B fr cl sp cw ifs cd kn : Nat} {m : sh_X} (h : se_c N K P V C gs u z q B fr cl sp cw ifs cd kn m) : m.T[46]? = some (.inl (0, 65)) := h.2.2.2.1
theorem se_c.cz {N : Nat} {K : Nat → Int32} {P V : Nat → Nat} {C : Nat → Nat → Int32} {gs : sh_gL} {u z q B fr cl sp cw ifs cd kn : Nat} {m : sh_X} (h : se_c N K P V C gs u z q B fr cl sp cw ifs cd kn m) : m.I 48 4 = Int32.ofNat z := h.2.2.2.2.1
theorem se_c.cq {N : Nat} {K : Nat → Int32} {P V : Nat → Nat} {C : Nat → Nat → Int32} {gs : sh_gL} {u z q B fr cl sp cw ifs cd kn : Nat} {m : sh_X} (h : se_c N K P V C gs u z q B fr cl sp cw ifs cd kn m) : m.I 53 4 = Int32.ofNat q := h.2.2.2.2.2.1
theorem se_c.cB {N : Nat} {K : Nat → Int32} {P V : Nat → Nat} {C : Nat → Nat → Int32} {gs : sh_gL} {u z q B fr cl sp cw ifs cd kn : Nat} {m : sh_X} (h : se_c N K P V C gs u z q B fr cl sp cw ifs cd kn m) : m.I 53 5 = Int32.ofNat B := h.2.2.2.2.2.2.1
theorem se_c.cfr {N : Nat} {K : Nat → Int32} {P V : Nat → Nat} {C : Nat → Nat → Int32} {gs : sh_gL} {u z q B fr cl sp cw ifs cd kn : Nat} {m : sh_X} (h : se_c N K P V C gs u z q B fr cl sp cw ifs cd kn m) : m.I 41 11 = Int32.ofNat fr := h.2.2.2.2.2.2.2.1
theorem se_c.ccl {N : Nat} {K : Nat → Int32} {P V : Nat → Nat} {C : Nat → Nat → Int32} {gs : sh_gL} {u z q B fr cl sp cw ifs cd kn : Nat} {m : sh_X} (h : se_c N K P V C gs u z q B fr cl sp cw ifs cd kn m) : m.I 41 12 = Int32.ofNat cl := h.2.2.2.2.2.2.2.2.1
theorem se_c.csp {N : Nat} {K : Nat → Int32} {P V : Nat → Nat} {C : Nat → Nat → Int32} {gs : sh_gL} {u z q B fr cl sp cw ifs cd kn : Nat} {m : sh_X} (h : se_c N K P V C gs u z q B fr cl sp cw ifs cd kn m) : m.I 41 14 = Int32.ofNat sp := h.2.2.2.2.2.2.2.2.2.1
theorem se_c.ccw {N : Nat} {K : Nat → Int32} {P V : Nat → Nat} {C : Nat → Nat → Int32} {gs : sh_gL} {u z q B fr cl sp cw ifs cd kn : Nat} {m : sh_X} (h : se_c N K P V C gs u z q B fr cl sp cw ifs cd kn m) : m.I 41 15 = Int32.ofNat cw := h.2.2.2.2.2.2.2.2.2.2.1
theorem se_c.cif {N : Nat} {K : Nat → Int32} {P V : Nat → Nat} {C : Nat → Nat → Int32} {gs : sh_gL} {u z q B fr cl sp cw ifs cd kn : Nat} {m : sh_X} (h : se_c N K P V C gs u z q B fr cl sp cw ifs cd kn m) : m.I 41 16 = Int32.ofNat ifs := h.2.2.2.2.2.2.2.2.2.2.2.1
theorem se_c.ccd {N : Nat} {K : Nat → Int32} {P V : Nat → Nat} {C : Nat → Nat → Int32} {gs : sh_gL} {u z q B fr cl sp cw ifs cd kn : Nat} {m : sh_X} (h : se_c N K P V C gs u z q B fr cl sp cw ifs cd kn m) : m.I 41 17 = Int32.ofNat cd := h.2.2.2.2.2.2.2.2.2.2.2.2.1
theorem se_c.ckn {N : Nat} {K : Nat → Int32} {P V : Nat → Nat} {C : Nat → Nat → Int32} {gs : sh_gL} {u z q B fr cl sp cw ifs cd kn : Nat} {m : sh_X} (h : se_c N K P V C gs u z q B fr cl sp cw ifs cd kn m) : m.I 41 18 = Int32.ofNat kn := h.2.2.2.2.2.2.2.2.2.2.2.2.2
theorem se_c.mk {N : Nat} {K : Nat → Int32} {P V : Nat → Nat} {C : Nat → Nat → Int32} {gs : sh_gL} {u z q B fr cl sp cw ifs cd kn : Nat} {m : sh_X} (rs : sh_RS gs u m) (wc : sh_Wc N K P V m) (cc : ∀ x, 28 ≤ x → x ≤ 38 → m.I x = C x) (h46 : m.T[46]? = some (.inl (0, 65))) (cz : m.I 48 4 = Int32.ofNat z) (cq : m.I 53 4 = Int32.ofNat q) (cB : m.I 53 5 = Int32.ofNat B) (cfr : m.I 41 11 = Int32.ofNat fr) (ccl : m.I 41 12 = Int32.ofNat cl) (csp : m.I 41 14 = Int32.ofNat sp) (ccw : m.I 41 15 = Int32.ofNat cw) (cif : m.I 41 16 = Int32.ofNat ifs) (ccd : m.I 41 17 = Int32.ofNat cd) (ckn : m.I 41 18 = Int32.ofNat kn) : se_c N K P V C gs u z q B fr cl sp cw ifs cd kn m := ⟨rs, wc, cc, h46, cz, cq, cB, cfr, ccl, csp, ccw, cif, ccd, ckn⟩
/-- the model -/
def se_m (N : Nat) (K : Nat → Int32) (P V : Nat → Nat) (A : Nat → Nat → Int32) (q B sp ifs cd kn inn tp li : Nat) (ac : Bool) (m : sh_X) : Prop := (sh_We N K P V m) ∧ (∀ x, 72 ≤ x → x ≤ 91 → m.I x = A x) ∧ (m.I 66 41 = Int32.ofNat tp) ∧ (m.I 66 42 = Int32.ofNat sp) ∧ (m.I 66 53 = Int32.ofNat q) ∧ (m.I 66 54 = Int32.ofNat B) ∧ (m.I 66 55 = Int32.ofNat kn) ∧ (m.I 66 56 = Int32.ofNat ifs) ∧ (m.I 66 57 = sh_b2 ac) ∧ (m.I 66 58 = Int32.ofNat inn) ∧ (m.I 66 59 = Int32.ofNat cd) ∧ (m.I 66 79 = Int32.ofNat li) ∧ (ifs = 0 → ac = true)
theorem se_m.we {N : Nat} {K : Nat → Int32} {P V : Nat → Nat} {A : Nat → Nat → Int32} {q B sp ifs cd kn inn tp li : Nat} {ac : Bool} {m : sh_X} (h : se_m N K P V A q B sp ifs cd kn inn tp li ac m) : sh_We N K P V m := h.1
theorem se_m.aa {N : Nat} {K : Nat → Int32} {P V : Nat → Nat} {A : Nat → Nat → Int32} {q B sp ifs cd kn inn tp li : Nat} {ac : Bool} {m : sh_X} (h : se_m N K P V A q B sp ifs cd kn inn tp li ac m) : ∀ x, 72 ≤ x → x ≤ 91 → m.I x = A x := h.2.1
theorem se_m.mtp {N : Nat} {K : Nat → Int32} {P V : Nat → Nat} {A : Nat → Nat → Int32} {q B sp ifs cd kn inn tp li : Nat} {ac : Bool} {m : sh_X} (h : se_m N K P V A q B sp ifs cd kn inn tp li ac m) : m.I 66 41 = Int32.ofNat tp := h.2.2.1
theorem se_m.msp {N : Nat} {K : Nat → Int32} {P V : Nat → Nat} {A : Nat → Nat → Int32} {q B sp ifs cd kn inn tp li : Nat} {ac : Bool} {m : sh_X} (h : se_m N K P V A q B sp ifs cd kn inn tp li ac m) : m.I 66 42 = Int32.ofNat sp := h.2.2.2.1
theorem se_m.mq {N : Nat} {K : Nat → Int32} {P V : Nat → Nat} {A : Nat → Nat → Int32} {q B sp ifs cd kn inn tp li : Nat} {ac : Bool} {m : sh_X} (h : se_m N K P V A q B sp ifs cd kn inn tp li ac m) : m.I 66 53 = Int32.ofNat q := h.2.2.2.2.1
theorem se_m.mB {N : Nat} {K : Nat → Int32} {P V : Nat → Nat} {A : Nat → Nat → Int32} {q B sp ifs cd kn inn tp li : Nat} {ac : Bool} {m : sh_X} (h : se_m N K P V A q B sp ifs cd kn inn tp li ac m) : m.I 66 54 = Int32.ofNat B := h.2.2.2.2.2.1
theorem se_m.mkn {N : Nat} {K : Nat → Int32} {P V : Nat → Nat} {A : Nat → Nat → Int32} {q B sp ifs cd kn inn tp li : Nat} {ac : Bool} {m : sh_X} (h : se_m N K P V A q B sp ifs cd kn inn tp li ac m) : m.I 66 55 = Int32.ofNat kn := h.2.2.2.2.2.2.1
theorem se_m.mif {N : Nat} {K : Nat → Int32} {P V : Nat → Nat} {A : Nat → Nat → Int32} {q B sp ifs cd kn inn tp li : Nat} {ac : Bool} {m : sh_X} (h : se_m N K P V A q B sp ifs cd kn inn tp li ac m) : m.I 66 56 = Int32.ofNat ifs := h.2.2.2.2.2.2.2.1
theorem se_m.mac {N : Nat} {K : Nat → Int32} {P V : Nat → Nat} {A : Nat → Nat → Int32} {q B sp ifs cd kn inn tp li : Nat} {ac : Bool} {m : sh_X} (h : se_m N K P V A q B sp ifs cd kn inn tp li ac m) : m.I 66 57 = sh_b2 ac := h.2.2.2.2.2.2.2.2.1
theorem se_m.min_ {N : Nat} {K : Nat → Int32} {P V : Nat → Nat} {A : Nat → Nat → Int32} {q B sp ifs cd kn inn tp li : Nat} {ac : Bool} {m : sh_X} (h : se_m N K P V A q B sp ifs cd kn inn tp li ac m) : m.I 66 58 = Int32.ofNat inn := h.2.2.2.2.2.2.2.2.2.1
theorem se_m.mcd {N : Nat} {K : Nat → Int32} {P V : Nat → Nat} {A : Nat → Nat → Int32} {q B sp ifs cd kn inn tp li : Nat} {ac : Bool} {m : sh_X} (h : se_m N K P V A q B sp ifs cd kn inn tp li ac m) : m.I 66 59 = Int32.ofNat cd := h.2.2.2.2.2.2.2.2.2.2.1
theorem se_m.mli {N : Nat} {K : Nat → Int32} {P V : Nat → Nat} {A : Nat → Nat → Int32} {q B sp ifs cd kn inn tp li : Nat} {ac : Bool} {m : sh_X} (h : se_m N K P V A q B sp ifs cd kn inn tp li ac m) : m.I 66 79 = Int32.ofNat li := h.2.2.2.2.2.2.2.2.2.2.2.1
theorem se_m.ia {N : Nat} {K : Nat → Int32} {P V : Nat → Nat} {A : Nat → Nat → Int32} {q B sp ifs cd kn inn tp li : Nat} {ac : Bool} {m : sh_X} (h : se_m N K P V A q B sp ifs cd kn inn tp li ac m) : ifs = 0 → ac = true := h.2.2.2.2.2.2.2.2.2.2.2.2
theorem se_m.mk {N : Nat} {K : Nat → Int32} {P V : Nat → Nat} {A : Nat → Nat → Int32} {q B sp ifs cd kn inn tp li : Nat} {ac : Bool} {m : sh_X} (we : sh_We N K P V m) (aa : ∀ x, 72 ≤ x → x ≤ 91 → m.I x = A x) (mtp : m.I 66 41 = Int32.ofNat tp) (msp : m.I 66 42 = Int32.ofNat sp) (mq : m.I 66 53 = Int32.ofNat q) (mB : m.I 66 54 = Int32.ofNat B) (mkn : m.I 66 55 = Int32.ofNat kn) (mif : m.I 66 56 = Int32.ofNat ifs) (mac : m.I 66 57 = sh_b2 ac) (min_ : m.I 66 58 = Int32.ofNat inn) (mcd : m.I 66 59 = Int32.ofNat cd) (mli : m.I 66 79 = Int32.ofNat li) (ia : ifs = 0 → ac = true) : se_m N K P V A q B sp ifs cd kn inn tp li ac m := ⟨we, aa, mtp, msp, mq, mB, mkn, mif, mac, min_, mcd, mli, ia⟩
/-- a name, on both sides -/
def se_N (N : Nat) (K : Nat → Int32) (V : Nat → Nat) (p : Nat → Bool) (gs : sh_gL) (u tp i : Nat) (mc mm : sh_X) : Prop :=
  ∃ t k b n a, t ≤ N ∧ K t = 1 ∧ mc.I 54 i = Int32.ofNat (V t) ∧ mm.I 93 i = Int32.ofNat t ∧ mm.I 94 i = Int32.ofNat k ∧ mm.I 96 i = Int32.ofNat n ∧ mm.I 97 i = Int32.ofNat a ∧ a + sh_mx n ≤ tp ∧
    ((k = 3 ∧ n = 0 ∧ mc.I 55 i = 0 ∧ mc.J 57 i = mm.J 98 i ∧ sh_lo (mm.J 98 i)) ∨ (sh_typ k b n ∧ mc.I 55 i = Int32.ofNat (sh_te k b n) ∧ mm.I 95 i = Int32.ofNat b ∧ ∃ w, mc.I 56 i = Int32.ofNat w ∧ se_V p mc gs u w k b n (fun j => mm.J 92 (a + j))))
/-- where the model keeps a name's value -/
def se_a (m : sh_X) (i : Nat) : Nat := Int32.toNatClampNeg (m.I 97 i)
def se_e (m : sh_X) (i : Nat) : Nat := se_a m i + sh_mx (Int32.toNatClampNeg (m.I 96 i))
/-- the outputs so far -/
def se_O (p : Nat → Bool) (gs : sh_gL) (mc mm : sh_X) : Prop := ∃ n W f, sh_Ev 23 n W f mc ∧ mm.I 99 2 = Int32.ofNat n ∧ mm.I 102 2 = Int32.ofNat (sh_sum W n) ∧ ∀ k, k < n → mm.I 101 (512 + k) = Int32.ofNat (W k) ∧ (∀ i, i < W k → f k i < gs.length) ∧ ∀ j, j < 64 → sh_b (mm.J 104 k) j = (decide (j < W k) && sh_va p gs (f k j))
def se_J (N : Nat) (K : Nat → Int32) (V : Nat → Nat) (p : Nat → Bool) (gs : sh_gL) (u q B M tp cw : Nat) (ac : Bool) (mc mm : sh_X) : Prop := (∀ i, i < q → se_N N K V p gs u tp i mc mm) ∧ (∀ i j, i < j → j < q → se_e mm i ≤ se_a mm j) ∧ (∀ i, B ≤ i → i < q → M ≤ se_a mm i) ∧ (M ≤ tp) ∧ (ac = sh_va p gs cw) ∧ (cw < gs.length) ∧ (se_O p gs mc mm)
theorem se_J.nm {N : Nat} {K : Nat → Int32} {V : Nat → Nat} {p : Nat → Bool} {gs : sh_gL} {u q B M tp cw : Nat} {ac : Bool} {mc mm : sh_X} (h : se_J N K V p gs u q B M tp cw ac mc mm) : ∀ i, i < q → se_N N K V p gs u tp i mc mm := h.1
theorem se_J.sep {N : Nat} {K : Nat → Int32} {V : Nat → Nat} {p : Nat → Bool} {gs : sh_gL} {u q B M tp cw : Nat} {ac : Bool} {mc mm : sh_X} (h : se_J N K V p gs u q B M tp cw ac mc mm) : ∀ i j, i < j → j < q → se_e mm i ≤ se_a mm j := h.2.1
theorem se_J.nM {N : Nat} {K : Nat → Int32} {V : Nat → Nat} {p : Nat → Bool} {gs : sh_gL} {u q B M tp cw : Nat} {ac : Bool} {mc mm : sh_X} (h : se_J N K V p gs u q B M tp cw ac mc mm) : ∀ i, B ≤ i → i < q → M ≤ se_a mm i := h.2.2.1
theorem se_J.lM {N : Nat} {K : Nat → Int32} {V : Nat → Nat} {p : Nat → Bool} {gs : sh_gL} {u q B M tp cw : Nat} {ac : Bool} {mc mm : sh_X} (h : se_J N K V p gs u q B M tp cw ac mc mm) : M ≤ tp := h.2.2.2.1
theorem se_J.ac_ {N : Nat} {K : Nat → Int32} {V : Nat → Nat} {p : Nat → Bool} {gs : sh_gL} {u q B M tp cw : Nat} {ac : Bool} {mc mm : sh_X} (h : se_J N K V p gs u q B M tp cw ac mc mm) : ac = sh_va p gs cw := h.2.2.2.2.1
theorem se_J.lcw {N : Nat} {K : Nat → Int32} {V : Nat → Nat} {p : Nat → Bool} {gs : sh_gL} {u q B M tp cw : Nat} {ac : Bool} {mc mm : sh_X} (h : se_J N K V p gs u q B M tp cw ac mc mm) : cw < gs.length := h.2.2.2.2.2.1
theorem se_J.ou {N : Nat} {K : Nat → Int32} {V : Nat → Nat} {p : Nat → Bool} {gs : sh_gL} {u q B M tp cw : Nat} {ac : Bool} {mc mm : sh_X} (h : se_J N K V p gs u q B M tp cw ac mc mm) : se_O p gs mc mm := h.2.2.2.2.2.2
theorem se_J.mk {N : Nat} {K : Nat → Int32} {V : Nat → Nat} {p : Nat → Bool} {gs : sh_gL} {u q B M tp cw : Nat} {ac : Bool} {mc mm : sh_X} (nm : ∀ i, i < q → se_N N K V p gs u tp i mc mm) (sep : ∀ i j, i < j → j < q → se_e mm i ≤ se_a mm j) (nM : ∀ i, B ≤ i → i < q → M ≤ se_a mm i) (lM : M ≤ tp) (ac_ : ac = sh_va p gs cw) (lcw : cw < gs.length) (ou : se_O p gs mc mm) : se_J N K V p gs u q B M tp cw ac mc mm := ⟨nm, sep, nM, lM, ac_, lcw, ou⟩
section
variable {N : Nat} {K : Nat → Int32} {P V : Nat → Nat} {A C : Nat → Nat → Int32} {p : Nat → Bool}
theorem se_c.next {gs gs2 : sh_gL} {u z q B fr cl sp cw ifs cd kn u2 z2 q2 B2 fr2 cl2 sp2 cw2 ifs2 cd2 kn2 u0 z0 q0 fr0 cl0 : Nat} {m m2 : sh_X} (h : se_c N K P V C gs u z q B fr cl sp cw ifs cd kn m) (f : se_F u0 z0 q0 fr0 cl0 m m2) (rs : sh_RS gs2 u2 m2) (cz : m2.I 48 4 = Int32.ofNat z2) (cq : m2.I 53 4 = Int32.ofNat q2) (cB : m2.I 53 5 = Int32.ofNat B2) (cfr : m2.I 41 11 = Int32.ofNat fr2) (ccl : m2.I 41 12 = Int32.ofNat cl2) (csp : m2.I 41 14 = Int32.ofNat sp2) (ccw : m2.I 41 15 = Int32.ofNat cw2) (cif : m2.I 41 16 = Int32.ofNat ifs2) (ccd : m2.I 41 17 = Int32.ofNat cd2) (ckn : m2.I 41 18 = Int32.ofNat kn2) : se_c N K P V C gs2 u2 z2 q2 B2 fr2 cl2 sp2 cw2 ifs2 cd2 kn2 m2 :=
  se_c.mk rs (h.wc.same (by rw [f.I 2 (by omega) (by omega)]) (f.I 3 (by omega) (by omega)) (f.I 4 (by omega) (by omega)) (f.J 5 (by omega) (by omega))) (fun x a b => (f.I x (by omega) (by omega)).trans (h.cc x a b)) (f.T 46 _ (by omega) h.h46) cz cq cB cfr ccl csp ccw cif ccd ckn
/-- the Reckoner was at work -/
theorem se_c.R {gs gs2 : sh_gL} {u z q B fr cl sp cw ifs cd kn u2 : Nat} {m m2 : sh_X} (h : se_c N K P V C gs u z q B fr cl sp cw ifs cd kn m) (f : sh_Rf m m2) (hp : ∀ j, j < u → m2.I 45 j = m.I 45 j) (rs : sh_RS gs2 u2 m2) : se_c N K P V C gs2 u2 z q B fr cl sp cw ifs cd kn m2 := by
  have k : ∀ c, 41 ≤ c → c ≤ 57 → c ≠ 44 → c ≠ 45 → c ≠ 46 → c ≠ 47 → m2.I c = m.I c := fun c a b d e f' g => f.I c (by omega) (by omega) (by omega) (by omega) (by omega) d e f' g
  have k1 := k 41 (by omega) (by omega) (by omega) (by omega) (by omega) (by omega)
  have k2 := k 53 (by omega) (by omega) (by omega) (by omega) (by omega) (by omega)
  have k3 := k 48 (by omega) (by omega) (by omega) (by omega) (by omega) (by omega)
  exact h.next (se_F.R (u := u) (z := 0) (q := 0) (fr := 0) (cl := 0) f hp) rs (by rw [k3]; exact h.cz) (by rw [k2]; exact h.cq) (by rw [k2]; exact h.cB) (by rw [k1]; exact h.cfr) (by rw [k1]; exact h.ccl) (by rw [k1]; exact h.csp) (by rw [k1]; exact h.ccw) (by rw [k1]; exact h.cif) (by rw [k1]; exact h.ccd) (by rw [k1]; exact h.ckn)
theorem sh_RS.wI {gs : sh_gL} {u c i : Nat} {x : Int32} {m : sh_X} (h : sh_RS gs u m) (hc : 41 ≤ c ∧ c ≤ 57 ∧ c ≠ 44 ∧ c ≠ 45) : sh_RS gs u (m.T, sh_u2 m.I c i x, m.J, m.s) := by
  obtain ⟨h1, h2, h3, h4, h5, h6⟩ := h
  refine ⟨h1.wr (by omega) (by omega) (by omega) (by omega) (by omega), ?_, h3, h4, ?_, ?_⟩
  · rw [show sh_X.I (m.T, sh_u2 m.I c i x, m.J, m.s) 44 = m.I 44 from sh_u2_cell (by omega)]; exact h2
  · unfold sh_pe; rw [show sh_X.I (m.T, sh_u2 m.I c i x, m.J, m.s) 45 = m.I 45 from sh_u2_cell (by omega)]; exact h5
  · unfold sh_pe; rw [show sh_X.I (m.T, sh_u2 m.I c i x, m.J, m.s) 45 = m.I 45 from sh_u2_cell (by omega)]; exact h6
theorem sh_RS.wJ {gs : sh_gL} {u : Nat} {J : Nat → Nat → Int64} {m : sh_X} (h : sh_RS gs u m) : sh_RS gs u (m.T, m.I, J, m.s) := by
  obtain ⟨h1, h2, h3, h4, h5, h6⟩ := h
  exact ⟨h1.same rfl rfl, h2, h3, h4, h5, h6⟩
/-- cells are written that the state doesn't speak of -/
theorem se_c.wI {gs : sh_gL} {u z q B fr cl sp cw ifs cd kn c i : Nat} {x : Int32} {m : sh_X} (h : se_c N K P V C gs u z q B fr cl sp cw ifs cd kn m) (hc : 42 ≤ c ∧ c ≤ 57 ∧ c ≠ 44 ∧ c ≠ 45 ∧ c ≠ 48 ∧ c ≠ 53 ∨ (c = 41 ∧ i = 13)) : se_c N K P V C gs u z q B fr cl sp cw ifs cd kn (m.T, sh_u2 m.I c i x, m.J, m.s) := by
  have k : ∀ d j, (d = c → j ≠ i) → sh_X.I (m.T, sh_u2 m.I c i x, m.J, m.s) d j = m.I d j := by
    intro d j h
    by_cases e : d = c
    · subst e; exact sh_u2_idx (h rfl)
    · show sh_u2 m.I c i x d j = _; rw [sh_u2_cell e]
  exact h.next (se_F.wI (u := 0) (z := 0) (q := 0) (fr := 0) (cl := 0) (by omega) (by omega) (by omega) (by omega) (by omega) (by omega)) (h.rs.wI (by omega)) ((k 48 4 (by omega)).trans h.cz) ((k 53 4 (by omega)).trans h.cq) ((k 53 5 (by omega)).trans h.cB) ((k 41 11 (by omega)).trans h.cfr) ((k 41 12 (by omega)).trans h.ccl) ((k 41 14 (by omega)).trans h.csp) ((k 41 15 (by omega)).trans h.ccw) ((k 41 16 (by omega)).trans h.cif) ((k 41 17 (by omega)).trans h.ccd) ((k 41 18 (by omega)).trans h.ckn)
theorem se_c.wJ {gs : sh_gL} {u z q B fr cl sp cw ifs cd kn c i : Nat} {x : Int64} {m : sh_X} (h : se_c N K P V C gs u z q B fr cl sp cw ifs cd kn m) (hc : c = 51 ∨ c = 57) : se_c N K P V C gs u z q B fr cl sp cw ifs cd kn (m.T, m.I, sh_u2 m.J c i x, m.s) :=
  h.next (se_F.wJ (u := 0) (z := 0) (q := 0) (fr := 0) (cl := 0) (by omega)) h.rs.wJ h.cz h.cq h.cB h.cfr h.ccl h.csp h.ccw h.cif h.ccd h.ckn
theorem se_c.nx {gs : sh_gL} {u z q B fr cl sp cw ifs cd kn i : Nat} {m : sh_X} (h : se_c N K P V C gs u z q B fr cl sp cw ifs cd kn m) : se_c N K P V C gs u z q B fr cl sp cw ifs cd kn (se_nx i m) := h.wI (by omega)
/-- spent and top are written -/
theorem se_c.wsp {gs : sh_gL} {u z q B fr cl sp cw ifs cd kn sp2 : Nat} {m : sh_X} (h : se_c N K P V C gs u z q B fr cl sp cw ifs cd kn m) : se_c N K P V C gs u z q B fr cl sp2 cw ifs cd kn (m.T, sh_u2 m.I 41 14 (Int32.ofNat sp2), m.J, m.s) := by
  have k : ∀ j, j ≠ 14 → sh_X.I (m.T, sh_u2 m.I 41 14 (Int32.ofNat sp2), m.J, m.s) 41 j = m.I 41 j := fun j hj => se_In (by omega)
  have k2 : ∀ d, d ≠ 41 → sh_X.I (m.T, sh_u2 m.I 41 14 (Int32.ofNat sp2), m.J, m.s) d = m.I d := fun d hd => sh_u2_cell hd
  exact h.next (se_F.wI (u := 0) (z := 0) (q := 0) (fr := 0) (cl := 0) (by omega) (by omega) (by omega) (by omega) (by omega) (by omega)) (h.rs.wI (by omega)) (by rw [k2 48 (by omega)]; exact h.cz) (by rw [k2 53 (by omega)]; exact h.cq) (by rw [k2 53 (by omega)]; exact h.cB) ((k 11 (by omega)).trans h.cfr) ((k 12 (by omega)).trans h.ccl) se_Is ((k 15 (by omega)).trans h.ccw) ((k 16 (by omega)).trans h.cif) ((k 17 (by omega)).trans h.ccd) ((k 18 (by omega)).trans h.ckn)
theorem se_c.wz {gs : sh_gL} {u z q B fr cl sp cw ifs cd kn z2 : Nat} {m : sh_X} (h : se_c N K P V C gs u z q B fr cl sp cw ifs cd kn m) : se_c N K P V C gs u z2 q B fr cl sp cw ifs cd kn (m.T, sh_u2 m.I 48 4 (Int32.ofNat z2), m.J, m.s) := by
  have k2 : ∀ d, d ≠ 48 → sh_X.I (m.T, sh_u2 m.I 48 4 (Int32.ofNat z2), m.J, m.s) d = m.I d := fun d hd => sh_u2_cell hd
  have k41 := k2 41 (by omega)
  have k53 := k2 53 (by omega)
  exact h.next (se_F.wI (u := 0) (z := 0) (q := 0) (fr := 0) (cl := 0) (by omega) (by omega) (by omega) (by omega) (by omega) (by omega)) (h.rs.wI (by omega)) se_Is (by rw [k53]; exact h.cq) (by rw [k53]; exact h.cB) (by rw [k41]; exact h.cfr) (by rw [k41]; exact h.ccl) (by rw [k41]; exact h.csp) (by rw [k41]; exact h.ccw) (by rw [k41]; exact h.cif) (by rw [k41]; exact h.ccd) (by rw [k41]; exact h.ckn)
theorem se_c.Tl {gs : sh_gL} {u z q B fr cl sp cw ifs cd kn : Nat} {m : sh_X} (h : se_c N K P V C gs u z q B fr cl sp cw ifs cd kn m) : m.T.length < 900000 := by
  obtain ⟨⟨_, _, _, a, b, c, n, g⟩, _⟩ := h.rs
  have := g.tT
  have := g.n1
  have : 0 < 131072 / n := Nat.div_pos (by omega) (by have := g.n0; omega)
  omega
/-- the model, behind changes -/
theorem se_m.next {q B sp ifs cd kn inn tp li q2 B2 sp2 ifs2 cd2 kn2 inn2 tp2 li2 tp0 q0 un0 li0 : Nat} {ac ac2 : Bool} {m m2 : sh_X} (h : se_m N K P V A q B sp ifs cd kn inn tp li ac m) (f : se_G tp0 q0 un0 li0 m m2) (mtp : m2.I 66 41 = Int32.ofNat tp2) (msp : m2.I 66 42 = Int32.ofNat sp2) (mq : m2.I 66 53 = Int32.ofNat q2) (mB : m2.I 66 54 = Int32.ofNat B2) (mkn : m2.I 66 55 = Int32.ofNat kn2) (mif : m2.I 66 56 = Int32.ofNat ifs2) (mac : m2.I 66 57 = sh_b2 ac2) (min_ : m2.I 66 58 = Int32.ofNat inn2) (mcd : m2.I 66 59 = Int32.ofNat cd2) (mli : m2.I 66 79 = Int32.ofNat li2) (ia : ifs2 = 0 → ac2 = true) : se_m N K P V A q2 B2 sp2 ifs2 cd2 kn2 inn2 tp2 li2 ac2 m2 :=
  se_m.mk (h.we.same (f.I 71 (by omega) (by omega)) (f.I 68 (by omega) (by omega)) (f.I 69 (by omega) (by omega)) (f.I 70 (by omega) (by omega))) (fun x a b => (f.I x (by omega) (by omega)).trans (h.aa x a b)) mtp msp mq mB mkn mif mac min_ mcd mli ia
/-- an expression's changes: top and cost alone -/
theorem se_m.G {q B sp ifs cd kn inn tp li tp2 sp2 tp0 q0 un0 li0 : Nat} {ac : Bool} {m m2 : sh_X} (h : se_m N K P V A q B sp ifs cd kn inn tp li ac m) (f : se_G tp0 q0 un0 li0 m m2) (mtp : m2.I 66 41 = Int32.ofNat tp2) (msp : m2.I 66 42 = Int32.ofNat sp2) : se_m N K P V A q B sp2 ifs cd kn inn tp2 li ac m2 :=
  h.next f mtp msp ((f.F 53 (by omega)).trans h.mq) ((f.F 54 (by omega)).trans h.mB) ((f.F 55 (by omega)).trans h.mkn) ((f.F 56 (by omega)).trans h.mif) ((f.F 57 (by omega)).trans h.mac) ((f.F 58 (by omega)).trans h.min_) ((f.F 59 (by omega)).trans h.mcd) ((f.F 79 (by omega)).trans h.mli) h.ia
theorem se_N.keep {e gs : sh_gL} {u u2 tp tp2 i z q fr cl un li : Nat} {mc mm mc2 mm2 : sh_X} (h : se_N N K V p gs u tp i mc mm) (f : se_F u z q fr cl mc mc2) (g : se_G tp q un li mm mm2) (hi : i < q) (hu : u ≤ u2) (ht : tp ≤ tp2) : se_N N K V p (e ++ gs) u2 tp2 i mc2 mm2 := by
  obtain ⟨t, k, b, n, a, h1, h2, h3, h4, h5, h6, h7, h8, h9⟩ := h
  obtain ⟨f1, f2, f3, f4⟩ := f.na i hi
  obtain ⟨g1, g2, g3, g4, g5, g6⟩ := g.na i hi
  refine ⟨t, k, b, n, a, h1, h2, f1.trans h3, g1.trans h4, g2.trans h5, g4.trans h6, g5.trans h7, by omega, ?_⟩
  rcases h9 with ⟨r1, r2, r3, r4, r5⟩ | ⟨r1, r2, r3, w, r4, r5⟩
  · exact Or.inl ⟨r1, r2, f2.trans r3, by rw [f4, g6]; exact r4, by rw [g6]; exact r5⟩
  · exact Or.inr ⟨r1, f2.trans r2, g3.trans r3, w, f3.trans r4, (r5.keep hu f.po).cong (fun j hj => (g.me (a + j) (by omega)).symm)⟩
theorem se_O.keep {e gs : sh_gL} {u z q fr cl tp q' un li : Nat} {mc mm mc2 mm2 : sh_X} (h : se_O p gs mc mm) (f : se_F u z q fr cl mc mc2) (g : se_G tp q' un li mm mm2) : se_O p (e ++ gs) mc2 mm2 := by
  obtain ⟨n, W, fw, h1, h2, h3, h4⟩ := h
  refine ⟨n, W, fw, sh_Ev.mk (by rw [f.I 23 (by omega) (by omega)]; exact h1.am) (by rw [f.I 23 (by omega) (by omega)]; exact h1.to) h1.n1 h1.t1 (fun k hk => by rw [f.I 24 (by omega) (by omega)]; exact h1.fi k hk) (fun k hk => by rw [f.I 25 (by omega) (by omega)]; exact h1.wi k hk) h1.w1 (fun k hk i hi => by rw [f.I 27 (by omega) (by omega)]; exact h1.ws k hk i hi), by rw [g.I 99 (by omega) (by omega)]; exact h2, by rw [g.I 102 (by omega) (by omega)]; exact h3, fun k hk => ?_⟩
  obtain ⟨a1, a2, a3⟩ := h4 k hk
  refine ⟨by rw [g.I 101 (by omega) (by omega)]; exact a1, fun i hi => sh_lt_app (a2 i hi), fun j hj => ?_⟩
  rw [g.J 104 (by omega) (by omega) (by omega) (by omega) (by omega), a3 j hj]
  by_cases hw : j < W k
  · rw [sh_va_ext p e (a2 j hw)]
  · rw [decide_eq_false hw, Bool.false_and, Bool.false_and]
theorem se_J.keep {e gs : sh_gL} {u u2 q B M tp tp2 cw z fr cl un li : Nat} {ac : Bool} {mc mm mc2 mm2 : sh_X} (h : se_J N K V p gs u q B M tp cw ac mc mm) (f : se_F u z q fr cl mc mc2) (g : se_G tp q un li mm mm2) (hu : u ≤ u2) (ht : tp ≤ tp2) : se_J N K V p (e ++ gs) u2 q B M tp2 cw ac mc2 mm2 := by
  have ea : ∀ i, i < q → se_a mm2 i = se_a mm i ∧ se_e mm2 i = se_e mm i := fun i hi => by
    obtain ⟨g1, g2, g3, g4, g5, g6⟩ := g.na i hi
    unfold se_e se_a
    rw [g4, g5]
    exact ⟨rfl, rfl⟩
  exact se_J.mk (fun i hi => (h.nm i hi).keep f g hi hu ht) (fun i j hij hj => by rw [(ea i (by omega)).2, (ea j hj).1]; exact h.sep i j hij hj) (fun i h1 h2 => by rw [(ea i h2).1]; exact h.nM i h1 h2) (by have := h.lM; omega) (by rw [sh_va_ext p e h.lcw]; exact h.ac_) (sh_lt_app h.lcw) (h.ou.keep f g)
end
