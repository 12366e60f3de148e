/-! EVALUATION: the model's loop over its stack -/
noncomputable def se_ev (Q : sh_Q279) (fm : Int32) (r : Option (Bool × sh_X)) : Option (Bool × sh_X) := match r with
  | none => none
  | some (true, m) => sf_294_10 Q fm m
  | some (false, m) => some (false, m)
/-- the part e stands on the stack, at un -/
def se_St (fm un e : Nat) (m : sh_X) : Prop := (m.I 66 73 = Int32.ofNat (un + 1)) ∧ (fm ≤ un) ∧ (un < 8990) ∧ (m.I 105 un = Int32.ofNat e) ∧ (e < 9000)
theorem se_St.h73 {fm un e : Nat} {m : sh_X} (h : se_St fm un e m) : m.I 66 73 = Int32.ofNat (un + 1) := h.1
theorem se_St.lf {fm un e : Nat} {m : sh_X} (h : se_St fm un e m) : fm ≤ un := h.2.1
theorem se_St.lu {fm un e : Nat} {m : sh_X} (h : se_St fm un e m) : un < 8990 := h.2.2.1
theorem se_St.h105 {fm un e : Nat} {m : sh_X} (h : se_St fm un e m) : m.I 105 un = Int32.ofNat e := h.2.2.2.1
theorem se_St.le {fm un e : Nat} {m : sh_X} (h : se_St fm un e m) : e < 9000 := h.2.2.2.2
theorem se_St.mk {fm un e : Nat} {m : sh_X} (h73 : m.I 66 73 = Int32.ofNat (un + 1)) (lf : fm ≤ un) (lu : un < 8990) (h105 : m.I 105 un = Int32.ofNat e) (le : e < 9000) : se_St fm un e m := ⟨h73, lf, lu, h105, le⟩
theorem se_119 {Q : sh_Q279} {fm : Int32} {r : Option (Bool × sh_X)} {m : sh_X} (h : sf_294_10s Q fm m = sh_bn r fun b m2 => sf_294_119 Q fm b m2) : sf_294_10 Q fm m = se_ev Q fm r := by
  unfold sf_294_10
  rw [sh_while_eq, h]
  cases r with
  | none => rfl
  | some q =>
    obtain ⟨b, m2⟩ := q
    cases b with
    | false => rfl
    | true => rfl
theorem se_um1 {un : Nat} : Int32.ofNat (un + 1) - 1 = Int32.ofNat un := sh_nIsub (b := 1) (by omega)
theorem se_294s {Q : sh_Q279} {fm un e : Nat} {m : sh_X} (h : se_St fm un e m) : sf_294_10s Q (Int32.ofNat fm) m = (if m.I 72 e = 6 ∨ m.I 72 e = 9 then
          sh_bn (sf_296 (Int32.ofNat e) m) fun r1 m11 => sf_294_119 Q (Int32.ofNat fm) r1 m11
        else
        if m.I 72 e = 7 then
          sh_bn (sf_311 (Int32.ofNat e) m) fun r2 m12 => sf_294_119 Q (Int32.ofNat fm) r2 m12
        else
        if m.I 72 e = 8 ∨ m.I 72 e = 10 then
          sh_bn (sf_302 (Int32.ofNat e) m) fun r3 m13 => sf_294_119 Q (Int32.ofNat fm) r3 m13
        else
          sh_bn (Q.f313 (Int32.ofNat e) (m.T, sh_u2 m.I 66 73 (Int32.ofNat un), m.J, m.s)) fun r4 m14 => sf_294_119 Q (Int32.ofNat fm) r4 m14) := by
  have lu := h.lu
  have lf := h.lf
  have le := h.le
  unfold sf_294_10s
  rw [h.h73, if_pos ((sh_nIlt (by omega) (by omega)).mpr (by omega)), se_um1, if_pos (sh_okn' (by omega) (by omega)), sh_nIc (by omega), h.h105, if_pos (sh_okn' le (by omega)), sh_nIc (by omega)]
theorem se_294u {Q : sh_Q279} {fm un e : Nat} {m : sh_X} (h : se_St fm un e m) (hk : m.I 72 e = 6 ∨ m.I 72 e = 9) : sf_294_10 Q (Int32.ofNat fm) m = se_ev Q (Int32.ofNat fm) (sf_296 (Int32.ofNat e) m) := se_119 (by rw [se_294s h, if_pos hk])
theorem se_294r {Q : sh_Q279} {fm un e : Nat} {m : sh_X} (h : se_St fm un e m) (hk : m.I 72 e = 7) : sf_294_10 Q (Int32.ofNat fm) m = se_ev Q (Int32.ofNat fm) (sf_311 (Int32.ofNat e) m) := se_119 (by rw [se_294s h, hk, if_neg (by decide), if_pos rfl])
theorem se_294b {Q : sh_Q279} {fm un e : Nat} {m : sh_X} (h : se_St fm un e m) (hk : m.I 72 e = 8 ∨ m.I 72 e = 10) : sf_294_10 Q (Int32.ofNat fm) m = se_ev Q (Int32.ofNat fm) (sf_302 (Int32.ofNat e) m) := se_119 (by
  rw [se_294s h]
  rcases hk with hk | hk
  · rw [hk, if_neg (by decide), if_neg (by decide), if_pos (by decide)]
  · rw [hk, if_neg (by decide), if_neg (by decide), if_pos (by decide)])
theorem se_294p {Q : sh_Q279} {fm un e : Nat} {m : sh_X} (h : se_St fm un e m) {k : Int32} (hk : m.I 72 e = k) (h5 : k = 1 ∨ k = 2 ∨ k = 3 ∨ k = 4 ∨ k = 5) : sf_294_10 Q (Int32.ofNat fm) m = se_ev Q (Int32.ofNat fm) (Q.f313 (Int32.ofNat e) (m.T, sh_u2 m.I 66 73 (Int32.ofNat un), m.J, m.s)) := se_119 (by
  rw [se_294s h, hk]
  rcases h5 with rfl | rfl | rfl | rfl | rfl
  all_goals rw [if_neg (by decide), if_neg (by decide), if_neg (by decide)])
/-- the stack is empty again -/
theorem se_294e {Q : sh_Q279} {fm : Nat} {m : sh_X} (h : m.I 66 73 = Int32.ofNat fm) : sf_294_10 Q (Int32.ofNat fm) m = some (true, m) := by
  unfold sf_294_10
  rw [sh_while_eq]
  have e : sf_294_10s Q (Int32.ofNat fm) m = some (.inr (true, m)) := by
    unfold sf_294_10s
    rw [h, if_neg (sh_nlt0 fm)]
  rw [e]
/-- a part is put on the stack, above un -/
def se_Pk (un : Nat) (m m2 : sh_X) : Prop := (m2.T = m.T) ∧ (m2.s = m.s) ∧ (∀ x, x ≠ 111 → m2.J x = m.J x) ∧ (∀ x, x ≠ 66 → (x < 105 ∨ 110 < x) → m2.I x = m.I x) ∧ (∀ f, f ≠ 73 → m2.I 66 f = m.I 66 f) ∧ (∀ j, j < un → m2.I 105 j = m.I 105 j ∧ m2.I 106 j = m.I 106 j ∧ m2.I 107 j = m.I 107 j ∧ m2.I 108 j = m.I 108 j ∧ m2.I 109 j = m.I 109 j ∧ m2.I 110 j = m.I 110 j ∧ m2.J 111 j = m.J 111 j)
theorem se_Pk.T {un : Nat} {m m2 : sh_X} (h : se_Pk un m m2) : m2.T = m.T := h.1
theorem se_Pk.s {un : Nat} {m m2 : sh_X} (h : se_Pk un m m2) : m2.s = m.s := h.2.1
theorem se_Pk.J {un : Nat} {m m2 : sh_X} (h : se_Pk un m m2) : ∀ x, x ≠ 111 → m2.J x = m.J x := h.2.2.1
theorem se_Pk.I {un : Nat} {m m2 : sh_X} (h : se_Pk un m m2) : ∀ x, x ≠ 66 → (x < 105 ∨ 110 < x) → m2.I x = m.I x := h.2.2.2.1
theorem se_Pk.F {un : Nat} {m m2 : sh_X} (h : se_Pk un m m2) : ∀ f, f ≠ 73 → m2.I 66 f = m.I 66 f := h.2.2.2.2.1
theorem se_Pk.w {un : Nat} {m m2 : sh_X} (h : se_Pk un m m2) : ∀ j, j < un → m2.I 105 j = m.I 105 j ∧ m2.I 106 j = m.I 106 j ∧ m2.I 107 j = m.I 107 j ∧ m2.I 108 j = m.I 108 j ∧ m2.I 109 j = m.I 109 j ∧ m2.I 110 j = m.I 110 j ∧ m2.J 111 j = m.J 111 j := h.2.2.2.2.2
theorem se_Pk.mk {un : Nat} {m m2 : sh_X} (T : m2.T = m.T) (s : m2.s = m.s) (J : ∀ x, x ≠ 111 → m2.J x = m.J x) (I : ∀ x, x ≠ 66 → (x < 105 ∨ 110 < x) → m2.I x = m.I x) (F : ∀ f, f ≠ 73 → m2.I 66 f = m.I 66 f) (w : ∀ j, j < un → m2.I 105 j = m.I 105 j ∧ m2.I 106 j = m.I 106 j ∧ m2.I 107 j = m.I 107 j ∧ m2.I 108 j = m.I 108 j ∧ m2.I 109 j = m.I 109 j ∧ m2.I 110 j = m.I 110 j ∧ m2.J 111 j = m.J 111 j) : se_Pk un m m2 := ⟨T, s, J, I, F, w⟩
theorem se_Pk.G {un tp q li : Nat} {m m2 : sh_X} (h : se_Pk un m m2) : se_G tp q un li m m2 :=
  se_G.mk h.T h.s (fun x a b => by
    by_cases e : x = 111 ∨ x = 115 ∨ x < 105 ∨ 110 < x
    · exact h.I x a (by omega)
    · omega) (fun x _ _ _ a _ => h.J x a) (fun f a => h.F f (by omega)) (fun j _ => by rw [h.J 92 (by omega)]) (fun j _ => by rw [h.I 93 (by omega) (by omega), h.I 94 (by omega) (by omega), h.I 95 (by omega) (by omega), h.I 96 (by omega) (by omega), h.I 97 (by omega) (by omega), h.J 98 (by omega)]; exact ⟨rfl, rfl, rfl, rfl, rfl, rfl⟩) h.w (fun j _ => by rw [h.I 112 (by omega) (by omega), h.I 113 (by omega) (by omega), h.I 114 (by omega) (by omega), h.I 116 (by omega) (by omega), h.J 115 (by omega)]; exact ⟨rfl, rfl, rfl, rfl, rfl⟩)
theorem se_Pk.m {N : Nat} {K : Nat → Int32} {P V : Nat → Nat} {A : Nat → Nat → Int32} {un q B sp ifs cd kn inn tp li : Nat} {ac : Bool} {m m2 : sh_X} (h : se_Pk un m m2) (s : se_m N K P V A q B sp ifs cd kn inn tp li ac m) : se_m N K P V A q B sp ifs cd kn inn tp li ac m2 := s.G (h.G (tp := 0) (q := 0) (li := 0)) ((h.F 41 (by omega)).trans s.mtp) ((h.F 42 (by omega)).trans s.msp)
/-- the first step of a part with parts in it: its first one is put on the stack -/
theorem se_push1 {fm un e a : Nat} {m : sh_X} (h : se_St fm un e m) (h74 : m.I 74 e = Int32.ofNat a) (ha : a < 9000) (hl : un + 1 < 8990) :
    ∃ m2, (if sh_okb (Int32.ofNat e) 9000 = true then sh_bn (sf_295 (m.I 74 (Int32.toNatClampNeg (Int32.ofNat e))) ⟨m.T, sh_u2 m.I 106 un 1, m.J, m.s⟩) fun _ m11 => some (true, m11) else none) = some (true, m2) ∧ se_Pk un m m2 ∧ se_St fm (un + 1) a m2 ∧ m2.I 106 (un + 1) = 0 ∧ m2.I 105 un = Int32.ofNat e ∧ m2.I 106 un = 1 := by
  have lu := h.lu
  have o : sh_okb (Int32.ofNat (un + 1)) 9000 = true := sh_okn' (by omega) (by omega)
  have lf := h.lf
  have h2 : sh_X.I (m.T, sh_u2 m.I 106 un 1, m.J, m.s) 66 73 = Int32.ofNat (un + 1) := by rw [se_Ic (by omega)]; exact h.h73
  refine ⟨(m.T, sh_u2 (sh_u2 (sh_u2 (sh_u2 m.I 106 un 1) 105 (un + 1) (Int32.ofNat a)) 106 (un + 1) 0) 66 73 (Int32.ofNat (un + 2)), m.J, m.s), ?_, ?_, ?_, ?_, ?_, ?_⟩
  · rw [if_pos (sh_okn' h.le (by omega)), sh_nIc (by have := h.le; omega), h74]
    unfold sf_295
    rw [h2, if_pos o, if_pos o, sh_nIc (by omega), sh_nI1]
    rfl
  · refine se_Pk.mk rfl rfl (fun _ _ => rfl) (fun x a1 a2 => ?_) (fun f hf => ?_) (fun j hj => ⟨?_, ?_, ?_, ?_, ?_, ?_, rfl⟩)
    · rw [se_Ic a1, sh_u2_cell (by omega), sh_u2_cell (by omega), sh_u2_cell (by omega)]
    · rw [se_In (by omega), sh_u2_cell (by omega), sh_u2_cell (by omega), sh_u2_cell (by omega)]
    · rw [se_Ic (by omega), sh_u2_cell (by omega), sh_u2_idx (by omega), sh_u2_cell (by omega)]
    · rw [se_Ic (by omega), sh_u2_idx (by omega), sh_u2_cell (by omega), sh_u2_idx (by omega)]
    · rw [se_Ic (by omega), sh_u2_cell (by omega), sh_u2_cell (by omega), sh_u2_cell (by omega)]
    · rw [se_Ic (by omega), sh_u2_cell (by omega), sh_u2_cell (by omega), sh_u2_cell (by omega)]
    · rw [se_Ic (by omega), sh_u2_cell (by omega), sh_u2_cell (by omega), sh_u2_cell (by omega)]
    · rw [se_Ic (by omega), sh_u2_cell (by omega), sh_u2_cell (by omega), sh_u2_cell (by omega)]
  · exact se_St.mk se_Is (by omega) hl (by rw [se_Ic (by omega), sh_u2_cell (by omega), sh_u2_same]) ha
  · rw [se_Ic (by omega), sh_u2_same]
  · rw [se_Ic (by omega), sh_u2_cell (by omega), sh_u2_idx (by omega), sh_u2_cell (by omega)]; exact h.h105
  · rw [se_Ic (by omega), sh_u2_idx (by omega), sh_u2_cell (by omega), sh_u2_same]
