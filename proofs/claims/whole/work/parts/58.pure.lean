/-! GARBLING: labels -/
def sh_Yz (gs : sh_gL) (a b : Nat) (m : sh_X) : Prop := (sh_GS gs m) ∧ (sh_rf m.T 61 3 = a) ∧ (sh_rf m.T 61 4 = b) ∧ (gs.length ≤ sh_ln m.T a) ∧ (gs.length ≤ sh_ln m.T b) ∧ (sh_ln m.T a ≤ 65536) ∧ (sh_ln m.T b ≤ 65536) ∧ (a ≠ b) ∧ (a = 64 ∨ 125 ≤ a) ∧ (b = 65 ∨ 125 ≤ b)
theorem sh_Yz.g {gs : sh_gL} {a b : Nat} {m : sh_X} (h : sh_Yz gs a b m) : sh_GS gs m := h.1
theorem sh_Yz.ra {gs : sh_gL} {a b : Nat} {m : sh_X} (h : sh_Yz gs a b m) : sh_rf m.T 61 3 = a := h.2.1
theorem sh_Yz.rb {gs : sh_gL} {a b : Nat} {m : sh_X} (h : sh_Yz gs a b m) : sh_rf m.T 61 4 = b := h.2.2.1
theorem sh_Yz.la {gs : sh_gL} {a b : Nat} {m : sh_X} (h : sh_Yz gs a b m) : gs.length ≤ sh_ln m.T a := h.2.2.2.1
theorem sh_Yz.lb {gs : sh_gL} {a b : Nat} {m : sh_X} (h : sh_Yz gs a b m) : gs.length ≤ sh_ln m.T b := h.2.2.2.2.1
theorem sh_Yz.la2 {gs : sh_gL} {a b : Nat} {m : sh_X} (h : sh_Yz gs a b m) : sh_ln m.T a ≤ 65536 := h.2.2.2.2.2.1
theorem sh_Yz.lb2 {gs : sh_gL} {a b : Nat} {m : sh_X} (h : sh_Yz gs a b m) : sh_ln m.T b ≤ 65536 := h.2.2.2.2.2.2.1
theorem sh_Yz.ab {gs : sh_gL} {a b : Nat} {m : sh_X} (h : sh_Yz gs a b m) : a ≠ b := h.2.2.2.2.2.2.2.1
theorem sh_Yz.fa {gs : sh_gL} {a b : Nat} {m : sh_X} (h : sh_Yz gs a b m) : a = 64 ∨ 125 ≤ a := h.2.2.2.2.2.2.2.2.1
theorem sh_Yz.fb {gs : sh_gL} {a b : Nat} {m : sh_X} (h : sh_Yz gs a b m) : b = 65 ∨ 125 ≤ b := h.2.2.2.2.2.2.2.2.2
theorem sh_Yz.mk {gs : sh_gL} {a b : Nat} {m : sh_X} (g : sh_GS gs m) (ra : sh_rf m.T 61 3 = a) (rb : sh_rf m.T 61 4 = b) (la : gs.length ≤ sh_ln m.T a) (lb : gs.length ≤ sh_ln m.T b) (la2 : sh_ln m.T a ≤ 65536) (lb2 : sh_ln m.T b ≤ 65536) (ab : a ≠ b) (fa : a = 64 ∨ 125 ≤ a) (fb : b = 65 ∨ 125 ≤ b) : sh_Yz gs a b m := ⟨g, ra, rb, la, lb, la2, lb2, ab, fa, fb⟩
/-- what the garbling leaves as it was -/
def sh_Yf (a b : Nat) (m m2 : sh_X) : Prop := (m2.T = m.T) ∧ (m2.I = m.I) ∧ (m2.s = m.s) ∧ (∀ c, c ≠ a → c ≠ b → c ≠ 62 → c ≠ 63 → m2.J c = m.J c)
theorem sh_Yf.T {a b : Nat} {m m2 : sh_X} (h : sh_Yf a b m m2) : m2.T = m.T := h.1
theorem sh_Yf.I {a b : Nat} {m m2 : sh_X} (h : sh_Yf a b m m2) : m2.I = m.I := h.2.1
theorem sh_Yf.s {a b : Nat} {m m2 : sh_X} (h : sh_Yf a b m m2) : m2.s = m.s := h.2.2.1
theorem sh_Yf.J {a b : Nat} {m m2 : sh_X} (h : sh_Yf a b m m2) : ∀ c, c ≠ a → c ≠ b → c ≠ 62 → c ≠ 63 → m2.J c = m.J c := h.2.2.2
theorem sh_Yf.mk {a b : Nat} {m m2 : sh_X} (T : m2.T = m.T) (I : m2.I = m.I) (s : m2.s = m.s) (J : ∀ c, c ≠ a → c ≠ b → c ≠ 62 → c ≠ 63 → m2.J c = m.J c) : sh_Yf a b m m2 := ⟨T, I, s, J⟩
theorem sh_Yf.refl (a b : Nat) (m : sh_X) : sh_Yf a b m m := sh_Yf.mk rfl rfl rfl (fun _ _ _ _ _ => rfl)
theorem sh_Yf.trans {a b : Nat} {m m2 m3 : sh_X} (h : sh_Yf a b m m2) (g : sh_Yf a b m2 m3) : sh_Yf a b m m3 := sh_Yf.mk (g.T.trans h.T) (g.I.trans h.I) (g.s.trans h.s) (fun c h1 h2 h3 h4 => (g.J c h1 h2 h3 h4).trans (h.J c h1 h2 h3 h4))
theorem sh_GS.same {gs : sh_gL} {m m2 : sh_X} (h : sh_GS gs m) (hT : m2.T = m.T) (hI : m2.I = m.I) : sh_GS gs m2 := by
  obtain ⟨h1, h6, h7, a, b, d, n, g⟩ := h
  refine ⟨h1, h6, h7, a, b, d, n, sh_Gv.mk (ra := ?_) (rb := ?_) (rc := ?_) (la := ?_) (lb := ?_) (lc := ?_) (ab := g.ab) (ac := g.ac) (bc := g.bc) (fa := ?_) (fb := ?_) (fc := ?_) (nT := ?_) (n0 := g.n0) (n1 := g.n1) (n5 := g.n5) (tT := ?_) (le := g.le) (w := ?_) (k := ?_) (l := ?_) (r := ?_) (wf := g.wf)⟩
  all_goals first | rw [hT] | rw [hI]
  · exact g.ra
  · exact g.rb
  · exact g.rc
  · exact g.la
  · exact g.lb
  · exact g.lc
  · exact g.fa
  · exact g.fb
  · exact g.fc
  · exact g.nT
  · exact g.tT
  · exact g.w
  · exact g.k
  · exact g.l
  · exact g.r
theorem sh_Yz.same {gs : sh_gL} {a b : Nat} {m m2 : sh_X} (h : sh_Yz gs a b m) (hT : m2.T = m.T) (hI : m2.I = m.I) : sh_Yz gs a b m2 :=
  sh_Yz.mk (g := h.g.same hT hI) (ra := by rw [hT]; exact h.ra) (rb := by rw [hT]; exact h.rb) (la := by rw [hT]; exact h.la) (lb := by rw [hT]; exact h.lb) (la2 := by rw [hT]; exact h.la2) (lb2 := by rw [hT]; exact h.lb2) (ab := h.ab) (fa := h.fa) (fb := h.fb)
theorem sh_Yf.Yz {gs : sh_gL} {a b : Nat} {m m2 : sh_X} (f : sh_Yf a b m m2) (h : sh_Yz gs a b m) : sh_Yz gs a b m2 := h.same f.T f.I
/-- Garbling.toss -/
theorem sh_222 {k a b : Nat} {m : sh_X} (hk : k < 2) : ∃ r m2, sf_222 (Int32.ofNat k) m = some (r, m2) ∧ sh_Yf a b m m2 ∧ ∀ c, c ≠ 62 → m2.J c = m.J c := by
  unfold sf_222
  rw [if_pos ((sh_okn (by omega)).mpr hk), if_pos ((sh_okn (by omega)).mpr hk), if_pos ((sh_okn (by omega)).mpr hk)]
  exact ⟨_, _, rfl, sh_Yf.mk rfl rfl rfl (fun c _ _ h3 _ => sh_u2_cell h3), fun c h => sh_u2_cell h⟩
/-- Garbling.hasWire -/
theorem sh_225 {gs : sh_gL} {a b w : Nat} {m : sh_X} (h : sh_Yz gs a b m) (hw : w < 2147483648) : sf_225 (Int32.ofNat w) m = some (decide (w < gs.length)) := by
  obtain ⟨_, _, _, a1, b1, c1, n1, g⟩ := h.g
  have hl := h.g.len
  have l1 := h.la
  have l2 := h.lb
  have l3 := h.la2
  have l4 := h.lb2
  unfold sf_225
  rw [if_neg (sh_nI0 hw), g.w, h.ra, h.rb]
  by_cases d : w < gs.length
  · rw [if_pos ((sh_nIlt hw (by omega)).mpr d), if_pos ((sh_nIlt hw (by omega)).mpr (by omega)), if_pos ((sh_nIlt hw (by omega)).mpr (by omega))]
    simp [d]
  · rw [if_neg (fun q => d ((sh_nIlt hw (by omega)).mp q))]
    simp [d]
/-- a bit times the offset -/
def sh_bo (o : Int64) (b : Bool) : Int64 := if b = true then o else 0
/-- the wire w is held as the label of the bit v -/
def sh_lb (a b : Nat) (o : Int64) (m : sh_X) (w : Nat) (v : Bool) : Prop := m.J b w = m.J a w ^^^ sh_bo o v
theorem sh_ush : ∀ i : Fin 64, ((Int32.toInt64 (Int32.ofNat i.1)).toUInt64 &&& Int64.toUInt64 63).toBitVec % 64 = BitVec.ofNat 64 i.1 := by decide +kernel
/-- a bit of a long, by an unsigned shift -/
theorem sh_ubit (x : Int64) {i : Nat} (hi : i < 64) : ((x.toUInt64 >>> ((Int32.toInt64 (Int32.ofNat i)).toUInt64 &&& Int64.toUInt64 63)).toInt64) &&& (1 : Int64) = if x.toBitVec.getLsbD i = true then 1 else 0 := by
  rw [← Int64.toBitVec_inj, Int64.toBitVec_and]
  have e : ((x.toUInt64 >>> ((Int32.toInt64 (Int32.ofNat i)).toUInt64 &&& Int64.toUInt64 63)).toInt64).toBitVec = x.toBitVec >>> i := by
    show (x.toUInt64 >>> _).toBitVec = _
    rw [UInt64.toBitVec_shiftRight, sh_ush ⟨i, hi⟩]
    show x.toBitVec >>> (BitVec.ofNat 64 i) = _
    rw [BitVec.ushiftRight_eq', BitVec.toNat_ofNat, Nat.mod_eq_of_lt (by omega)]
  rw [e]
  apply BitVec.eq_of_getLsbD_eq
  intro j hj
  rw [BitVec.getLsbD_and, BitVec.getLsbD_ushiftRight]
  have one : ∀ j, (1 : Int64).toBitVec.getLsbD j = decide (j = 0) := by
    intro j
    show (1#64).getLsbD j = _
    rw [BitVec.getLsbD_one]
    simp
  have zero : ∀ j, (0 : Int64).toBitVec.getLsbD j = false := fun j => BitVec.getLsbD_zero
  by_cases hj0 : j = 0
  · subst hj0
    rw [one, Nat.add_zero]
    by_cases hb : x.toBitVec.getLsbD i = true
    · rw [if_pos hb, one, hb]; rfl
    · rw [if_neg hb, zero, Bool.eq_false_iff.mpr hb]; rfl
  · rw [one]
    by_cases hb : x.toBitVec.getLsbD i = true
    · rw [if_pos hb, one]; simp [hj0]
    · rw [if_neg hb, zero]; simp [hj0]
theorem sh_ubit_mul (x o : Int64) {i : Nat} (hi : i < 64) : (((x.toUInt64 >>> ((Int32.toInt64 (Int32.ofNat i)).toUInt64 &&& Int64.toUInt64 63)).toInt64) &&& (1 : Int64)) * o = sh_bo o (x.toBitVec.getLsbD i) := by
  rw [sh_ubit x hi]
  unfold sh_bo
  split
  · exact Int64.one_mul o
  · exact Int64.zero_mul
theorem sh_ubit32 (x : Int64) {i : Nat} (hi : i < 64) : Int64.toInt32 (((x.toUInt64 >>> ((Int32.toInt64 (Int32.ofNat i)).toUInt64 &&& Int64.toUInt64 63)).toInt64) &&& (1 : Int64)) = Int32.ofNat (sh_bn1 (x.toBitVec.getLsbD i)) := by
  rw [sh_ubit x hi]
  unfold sh_bn1
  split <;> rfl
theorem sh_x3 (a b c : Int64) : (a ^^^ b ^^^ c) ^^^ c = a ^^^ b := by rw [Int64.xor_assoc (a ^^^ b), Int64.xor_self, Int64.xor_zero]
theorem sh_x2 (a c : Int64) : (a ^^^ c) ^^^ c = a := by rw [Int64.xor_assoc, Int64.xor_self, Int64.xor_zero]
theorem sh_and1 (x : Int64) : Int64.toInt32 (x &&& (1 : Int64)) = Int32.ofNat (sh_bn1 (x.toBitVec.getLsbD 0)) := by
  have h := sh_lbit32 x (i := 0) (by omega)
  have e : x >>> (Int32.toInt64 (Int32.ofNat 0) &&& 63) = x := by
    rw [← Int64.toBitVec_inj, Int64.toBitVec_shiftRight]
    have e2 := sh_sh63 ⟨0, by omega⟩
    unfold BitVec.sshiftRight'
    rw [e2]
    exact BitVec.sshiftRight_zero
  rw [e] at h
  exact h
/-- Garbling.transfer: the label of the bit goes over -/
theorem sh_230 {a b : Nat} {z : Int64} {v : Bool} {m : sh_X} : ∃ m2, sf_230 z (Int32.ofNat (sh_bn1 v)) m = some (z ^^^ sh_bo (m.J 61 5) v, m2) ∧ sh_Yf a b m m2 ∧ ∀ c, c ≠ 62 → m2.J c = m.J c := by
  obtain ⟨r1, m1, a1, a2, a3⟩ := sh_222 (k := 0) (a := a) (b := b) (m := m) (by omega)
  obtain ⟨r2, m2, b1, b2, b3⟩ := sh_222 (k := 0) (a := a) (b := b) (m := m1) (by omega)
  obtain ⟨r3, m3, c1, c2, c3⟩ := sh_222 (k := 1) (a := a) (b := b) (m := m2) (by omega)
  have o : m3.J 61 5 = m.J 61 5 := by rw [c3 61 (by omega), b3 61 (by omega), a3 61 (by omega)]
  refine ⟨m3, ?_, a2.trans (b2.trans c2), fun c h => by rw [c3 c h, b3 c h, a3 c h]⟩
  unfold sf_230
  rw [show (0 : Int32) = Int32.ofNat 0 from rfl, a1, sh_bn_some, b1, sh_bn_some, show (1 : Int32) = Int32.ofNat 1 from rfl, c1, sh_bn_some, sh_and1]
  unfold sf_230_36 sf_230_57 sf_230_78 sf_230_92
  rw [o]
  generalize r3.toBitVec.getLsbD 0 = d
  generalize m.J 61 5 = off
  have z0 : Int32.ofNat (sh_bn1 false) = 0 := rfl
  have z1 : Int32.ofNat (sh_bn1 true) = 1 := rfl
  cases v <;> cases d <;> simp only [z0, z1, sh_bo]
  · show some ((z ^^^ r1) ^^^ r1, m3) = some (z ^^^ 0, m3)
    rw [sh_x2, Int64.xor_zero]
  · show some ((z ^^^ r2) ^^^ r2, m3) = some (z ^^^ 0, m3)
    rw [sh_x2, Int64.xor_zero]
  · show some (((z ^^^ off) ^^^ r1) ^^^ r1, m3) = some (z ^^^ off, m3)
    rw [sh_x2]
  · show some (((z ^^^ off) ^^^ r2) ^^^ r2, m3) = some (z ^^^ off, m3)
    rw [sh_x2]
