/-! AND gates: garbled and evaluated -/
def sh_b0 (x : Int64) : Bool := x.toBitVec.getLsbD 0
def sh_rw (x y : Bool) : Nat := 2 * sh_bn1 x + sh_bn1 y
theorem sh_an1 (x : Int64) : x &&& (1 : Int64) = if sh_b0 x = true then 1 else 0 := by
  have h := sh_lbit x (i := 0) (by omega)
  have e : x >>> (Int32.toInt64 (Int32.ofNat 0) &&& 63) = x := by
    rw [← Int64.toBitVec_inj, Int64.toBitVec_shiftRight]
    have e2 := sh_sh63 ⟨0, by omega⟩
    unfold BitVec.sshiftRight'
    rw [e2]
    exact BitVec.sshiftRight_zero
  rw [e] at h
  exact h
theorem sh_row (x y : Int64) : Int64.toInt32 (((2 : Int64) * (x &&& (1 : Int64))) + (y &&& (1 : Int64))) = Int32.ofNat (sh_rw (sh_b0 x) (sh_b0 y)) := by
  rw [sh_an1 x, sh_an1 y]
  cases sh_b0 x <;> cases sh_b0 y <;> decide
theorem sh_rw_lt (x y : Bool) : sh_rw x y < 4 := by cases x <;> cases y <;> decide
theorem sh_b0_xor (x y : Int64) : sh_b0 (x ^^^ y) = Bool.xor (sh_b0 x) (sh_b0 y) := by
  unfold sh_b0
  rw [Int64.toBitVec_xor, BitVec.getLsbD_xor]
theorem sh_b0_bo (o : Int64) (v : Bool) (ho : sh_b0 o = true) : sh_b0 (sh_bo o v) = v := by
  cases v
  · exact BitVec.getLsbD_zero
  · exact ho
theorem sh_p1 : ∀ c : Fin 4, Int32.toInt64 (Int32.ofNat c.1 >>> ((1 : Int32) &&& 31)) = if c.1.testBit 1 = true then 1 else 0 := by decide +kernel
theorem sh_p0 : ∀ c : Fin 4, Int32.toInt64 (Int32.ofNat c.1 &&& 1) = if c.1.testBit 0 = true then 1 else 0 := by decide +kernel
theorem sh_p2 : ∀ c : Fin 4, Int32.toInt64 ((Int32.ofNat c.1 >>> ((1 : Int32) &&& 31)) &&& (Int32.ofNat c.1 &&& 1)) = if (c.1.testBit 1 && c.1.testBit 0) = true then 1 else 0 := by decide +kernel
theorem sh_bm (o : Int64) (v : Bool) : (if v = true then (1 : Int64) else 0) * o = sh_bo o v := by
  cases v
  · exact Int64.zero_mul
  · exact Int64.one_mul o
def sh_ca (c : Nat) : Bool := c.testBit 1
def sh_cb (c : Nat) : Bool := c.testBit 0
theorem sh_cinj : ∀ x y : Bool, ∀ c d : Fin 4, c ≠ d → sh_rw (Bool.xor x (sh_ca c.1)) (Bool.xor y (sh_cb c.1)) ≠ sh_rw (Bool.xor x (sh_ca d.1)) (Bool.xor y (sh_cb d.1)) := by decide +kernel
theorem sh_csur : ∀ x y : Bool, ∃ c : Fin 4, sh_ca c.1 = x ∧ sh_cb c.1 = y := by decide +kernel
/-- what a row of the table hides -/
noncomputable def sh_tr (o z zx zy : Int64) (w : Int32) (x y : Bool) : Int64 := (z ^^^ sh_bo o (x && y)) ^^^ sf_232 (zx ^^^ sh_bo o x) (zy ^^^ sh_bo o y) w
/-- Garbling.garbleAnd -/
theorem sh_231 {gs : sh_gL} {a b w : Nat} {zx zy : Int64} {m : sh_X} (h : sh_Yz gs a b m) (hw : w < gs.length) (ho : sh_b0 (m.J 61 5) = true) :
    ∃ z m2, sf_231 (Int32.ofNat w) zx zy m = some ((), m2) ∧ sh_Yf a b m m2 ∧ m2.J a w = z ∧ (∀ v, v ≠ w → m2.J a v = m.J a v) ∧ m2.J b = m.J b ∧ ∀ x y, m2.J 63 (sh_rw (Bool.xor (sh_b0 zx) x) (Bool.xor (sh_b0 zy) y)) = sh_tr (m.J 61 5) z zx zy (Int32.ofNat w) x y := by
  have hlen := h.g.len
  obtain ⟨ha1, ha2, ha3, ha4, ha5⟩ := sh_ne62 h.fa
  obtain ⟨hb1, hb2, hb3, hb4, hb5⟩ := sh_ne62b h.fb
  obtain ⟨z, m1, t1, t2, t3⟩ := sh_222 (k := 0) (a := a) (b := b) (m := m) (by omega)
  unfold sf_231
  rw [show (0 : Int32) = Int32.ofNat 0 from rfl, t1, sh_bn_some]
  unfold sf_231_10
  obtain ⟨⟨c, m2⟩, ⟨q1, q2, q3, q4⟩, q6⟩ := sh_loop (f := fun q => sf_231_10s (Int32.ofNat w) zx zy z q.1 q.2) (n := 4) (i := 0) (s := (Int32.ofNat 0, m1))
    (fun i s => s.1 = Int32.ofNat i ∧ sh_Yf a b m s.2 ∧ (∀ c, c ≠ 62 → c ≠ 63 → s.2.J c = m.J c) ∧ ∀ j, j < i → ∀ hj : j < 4, s.2.J 63 (sh_rw (Bool.xor (sh_b0 zx) (sh_ca j)) (Bool.xor (sh_b0 zy) (sh_cb j))) = sh_tr (m.J 61 5) z zx zy (Int32.ofNat w) (sh_ca j) (sh_cb j)) (by
      rintro i ⟨c, m2⟩ hi ⟨r1, r2, r3, r4⟩
      have r1 : c = Int32.ofNat i := r1
      subst r1
      have r2 : sh_Yf a b m m2 := r2
      have r3 : ∀ c, c ≠ 62 → c ≠ 63 → m2.J c = m.J c := r3
      have off : m2.J 61 5 = m.J 61 5 := by rw [r3 61 (by omega) (by omega)]
      have e1 : Int32.toInt64 (Int32.ofNat i >>> ((1 : Int32) &&& 31)) * m.J 61 5 = sh_bo (m.J 61 5) (sh_ca i) := by rw [sh_p1 ⟨i, hi⟩]; exact sh_bm _ _
      have e0 : Int32.toInt64 (Int32.ofNat i &&& 1) * m.J 61 5 = sh_bo (m.J 61 5) (sh_cb i) := by rw [sh_p0 ⟨i, hi⟩]; exact sh_bm _ _
      have e2 : Int32.toInt64 ((Int32.ofNat i >>> ((1 : Int32) &&& 31)) &&& (Int32.ofNat i &&& 1)) * m.J 61 5 = sh_bo (m.J 61 5) (sh_ca i && sh_cb i) := by rw [sh_p2 ⟨i, hi⟩]; exact sh_bm _ _
      have rr := sh_rw_lt (Bool.xor (sh_b0 zx) (sh_ca i)) (Bool.xor (sh_b0 zy) (sh_cb i))
      refine ⟨(Int32.ofNat i + 1, (m2.T, m2.I, sh_u2 m2.J 63 (sh_rw (Bool.xor (sh_b0 zx) (sh_ca i)) (Bool.xor (sh_b0 zy) (sh_cb i))) (sh_tr (m.J 61 5) z zx zy (Int32.ofNat w) (sh_ca i) (sh_cb i)), m2.s)), ?_, sh_nI1, r2.trans (sh_Yf.mk rfl rfl rfl (fun c _ _ _ h4 => sh_u2_cell h4)), fun c h1 h2 => (sh_u2_cell h2).trans (r3 c h1 h2), fun j hj hj4 => ?_⟩
      · show sf_231_10s (Int32.ofNat w) zx zy z (Int32.ofNat i) m2 = _
        unfold sf_231_10s
        rw [if_pos (show Int32.ofNat i < 4 from (sh_nIlt (b := 4) (by omega) (by omega)).mpr hi), off, e1, e0, e2, sh_row, sh_b0_xor, sh_b0_xor, sh_b0_bo _ _ ho, sh_b0_bo _ _ ho, if_pos ((sh_okn (by omega)).mpr rr), sh_nIc (by omega)]
        rfl
      · show sh_u2 m2.J 63 _ _ 63 _ = _
        by_cases hji : j = i
        · subst hji; rw [sh_u2_same]
        · rw [sh_u2_idx (sh_cinj _ _ ⟨j, hj4⟩ ⟨i, hi⟩ (fun q => hji (Fin.mk.inj q)))]
          exact r4 j (by omega) hj4) (Nat.zero_le _) ⟨rfl, t2, fun c h1 _ => t3 c h1, fun j hj => absurd hj (by omega)⟩
  have q1 : c = Int32.ofNat 4 := q1
  subst q1
  have q2 : sh_Yf a b m m2 := q2
  have q3 : ∀ c, c ≠ 62 → c ≠ 63 → m2.J c = m.J c := q3
  have z2 := q2.Yz h
  refine ⟨z, (m2.T, m2.I, sh_u2 m2.J a w z, m2.s), q6 _ ?_, q2.trans (sh_Yf.mk rfl rfl rfl (fun c h1 _ _ _ => sh_u2_cell h1)), sh_u2_same, fun v hv => (sh_u2_idx hv).trans (by rw [q3 a ha1 ha2]), (sh_u2_cell h.ab.symm).trans (q3 b hb1 hb2), fun x y => ?_⟩
  · show sf_231_10s (Int32.ofNat w) zx zy z (Int32.ofNat 4) m2 = _
    unfold sf_231_10s
    rw [if_neg (show ¬ Int32.ofNat 4 < 4 by decide), sh_225 z2 (by omega), sh_bc_some, if_pos (decide_eq_true hw), z2.ra, if_pos ((sh_okn (by omega)).mpr (by have := z2.la; omega)), sh_nIc (by omega)]
  · obtain ⟨c, c1, c2⟩ := sh_csur x y
    show sh_u2 m2.J a w z 63 _ = _
    rw [sh_u2_cell (by omega), ← c1, ← c2]
    exact q4 c.1 c.2 c.2
/-- Garbling.evaluateAnd -/
theorem sh_233 {gs : sh_gL} {a b w : Nat} {l r : Int64} {m : sh_X} (h : sh_Yz gs a b m) (hw : w < gs.length) :
    sf_233 (Int32.ofNat w) l r m = some ((), (m.T, m.I, sh_u2 m.J b w (m.J 63 (sh_rw (sh_b0 l) (sh_b0 r)) ^^^ sf_232 l r (Int32.ofNat w)), m.s)) := by
  have hlen := h.g.len
  have rr := sh_rw_lt (sh_b0 l) (sh_b0 r)
  unfold sf_233
  rw [sh_225 h (by omega), sh_bc_some, if_pos (decide_eq_true hw), sh_row, if_pos ((sh_okn (by omega)).mpr rr), h.rb, if_pos ((sh_okn (by omega)).mpr (by have := h.lb; omega)), sh_nIc (by omega), sh_nIc (by omega)]
/-- an AND gate, garbled and evaluated: its wire is held as the label of its bit -/
theorem sh_andg {gs : sh_gL} {a b w x y : Nat} {o : Int64} {vx vy : Bool} {m : sh_X} (h : sh_Yz gs a b m) (ho : m.J 61 5 = o) (ho0 : sh_b0 o = true) (hw : w < gs.length) (hx : x < w) (hy : y < w) (lx : sh_lb a b o m x vx) (ly : sh_lb a b o m y vy) :
    ∃ m2 m3, sf_231 (Int32.ofNat w) (m.J a x) (m.J a y) m = some ((), m2) ∧ sf_233 (Int32.ofNat w) (m2.J b x) (m2.J b y) m2 = some ((), m3) ∧ sh_Yz gs a b m2 ∧ sh_Yf a b m m2 ∧ sh_Yf a b m m3 ∧ sh_lb a b o m3 w (vx && vy) ∧ ∀ v c, v ≠ w → sh_lb a b o m v c → sh_lb a b o m3 v c := by
  subst ho
  obtain ⟨z, m2, k1, k2, k3, k4, k5, k6⟩ := sh_231 (zx := m.J a x) (zy := m.J a y) h hw ho0
  have z2 := k2.Yz h
  have k7 := sh_233 (l := m2.J b x) (r := m2.J b y) z2 hw
  refine ⟨m2, _, k1, k7, z2, k2, k2.trans (sh_Yf.mk rfl rfl rfl (fun c _ h2 _ _ => sh_u2_cell h2)), ?_, fun v c hv hl => ?_⟩
  · show sh_u2 m2.J b w _ b w = sh_u2 m2.J b w _ a w ^^^ _
    rw [sh_u2_same, sh_u2_cell h.ab, k3, k5]
    have lx : m.J b x = m.J a x ^^^ sh_bo (m.J 61 5) vx := lx
    have ly : m.J b y = m.J a y ^^^ sh_bo (m.J 61 5) vy := ly
    rw [lx, ly, sh_b0_xor, sh_b0_xor, sh_b0_bo _ _ ho0, sh_b0_bo _ _ ho0, k6 vx vy]
    unfold sh_tr
    rw [sh_x2]
  · show sh_u2 m2.J b w _ b v = sh_u2 m2.J b w _ a v ^^^ _
    rw [sh_u2_idx hv, sh_u2_cell h.ab, k4 v hv, k5]
    exact hl
