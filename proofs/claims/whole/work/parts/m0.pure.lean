/-! FEED: bytes come behind the text on both sides -/
/-- the byte of the class, and that of the model -/
def sk_cb (x s : Int32) : Int32 := vp_nar .byte ((Int32.toInt8 ((x.toUInt32 >>> (Int32.toUInt32 s &&& Int32.toUInt32 31)).toInt32)).toInt32)
def sk_mb (x s : Int32) : Int32 := vp_nar .byte ((Int32.toInt8 (x >>> (s &&& 31))).toInt32)
theorem sk_by (x : Int8) : -128 ≤ (vp_nar .byte x.toInt32).toInt ∧ (vp_nar .byte x.toInt32).toInt ≤ 127 := by
  have h1 := Int8.le_toInt x
  have h2 := Int8.toInt_lt x
  have e : x.toInt32.toInt = x.toInt := Int8.toInt_toInt32 x
  have b : -128 ≤ x.toInt32.toInt ∧ x.toInt32.toInt ≤ 127 := by rw [e]; omega
  rw [sj_nar b.1 b.2]
  exact b
theorem sk_sh (x : Int32) {s : Int32} {k : Nat} (hk : k ≤ 24) (h1 : (Int32.toUInt32 s &&& Int32.toUInt32 31).toBitVec % 32 = BitVec.ofNat 32 k) (h2 : (s &&& 31).toBitVec.smod 32 = BitVec.ofNat 32 k) : sk_cb x s = sk_mb x s := by
  unfold sk_cb sk_mb
  refine congrArg (fun z : Int8 => vp_nar .byte z.toInt32) ?_
  rw [← Int8.toBitVec_inj]
  apply BitVec.eq_of_getLsbD_eq
  intro i hi
  have kk : (BitVec.ofNat 32 k).toNat = k := by rw [BitVec.toNat_ofNat]; exact Nat.mod_eq_of_lt (by omega)
  have e1 : (Int32.toInt8 ((x.toUInt32 >>> (Int32.toUInt32 s &&& Int32.toUInt32 31)).toInt32)).toBitVec = ((x.toBitVec >>> ((Int32.toUInt32 s &&& Int32.toUInt32 31).toBitVec % 32)) : BitVec 32).signExtend 8 := by
    rw [Int32.toBitVec_toInt8]
    rfl
  have e2 : (Int32.toInt8 (x >>> (s &&& 31))).toBitVec = (x.toBitVec.sshiftRight' ((s &&& 31).toBitVec.smod 32)).signExtend 8 := by
    rw [Int32.toBitVec_toInt8, Int32.toBitVec_shiftRight]
  rw [e1, e2, h1, h2]
  unfold BitVec.sshiftRight'
  rw [kk, BitVec.getLsbD_signExtend, BitVec.getLsbD_signExtend, BitVec.getLsbD_sshiftRight]
  have : (x.toBitVec >>> BitVec.ofNat 32 k) = x.toBitVec >>> k := by
    show x.toBitVec >>> (BitVec.ofNat 32 k).toNat = _
    rw [kk]
  rw [this, BitVec.getLsbD_ushiftRight]
  simp [show i < 32 by omega, show k + i < 32 by omega, show ¬ 32 ≤ i by omega]
theorem sk_s24 (x : Int32) : sk_cb x 24 = sk_mb x 24 := sk_sh x (k := 24) (by omega) (by decide +kernel) (by decide +kernel)
theorem sk_s16 (x : Int32) : sk_cb x 16 = sk_mb x 16 := sk_sh x (k := 16) (by omega) (by decide +kernel) (by decide +kernel)
theorem sk_s8 (x : Int32) : sk_cb x 8 = sk_mb x 8 := sk_sh x (k := 8) (by omega) (by decide +kernel) (by decide +kernel)
theorem sk_s0 (x : Int32) : sk_cb x 0 = sk_mb x 0 := sk_sh x (k := 0) (by omega) (by decide +kernel) (by decide +kernel)
/-- k bytes B came behind the n bytes that stood in cell t; field f of cell o counts them -/
def sk_W (o t f n k : Nat) (B : Nat → Int32) (m m2 : sh_X) : Prop := (m2.T = m.T) ∧ (m2.J = m.J) ∧ (m2.s = m.s) ∧ (∀ c, c ≠ o → c ≠ t → m2.I c = m.I c) ∧ (∀ i, i ≠ f → m2.I o i = m.I o i) ∧ (m2.I o f = Int32.ofNat (n + k)) ∧ (∀ i, i < n → m2.I t i = m.I t i) ∧ (∀ j, j < k → m2.I t (n + j) = B j)
theorem sk_W.T {o t f n k : Nat} {B : Nat → Int32} {m m2 : sh_X} (h : sk_W o t f n k B m m2) : m2.T = m.T := h.1
theorem sk_W.J {o t f n k : Nat} {B : Nat → Int32} {m m2 : sh_X} (h : sk_W o t f n k B m m2) : m2.J = m.J := h.2.1
theorem sk_W.s {o t f n k : Nat} {B : Nat → Int32} {m m2 : sh_X} (h : sk_W o t f n k B m m2) : m2.s = m.s := h.2.2.1
theorem sk_W.I {o t f n k : Nat} {B : Nat → Int32} {m m2 : sh_X} (h : sk_W o t f n k B m m2) : ∀ c, c ≠ o → c ≠ t → m2.I c = m.I c := h.2.2.2.1
theorem sk_W.F {o t f n k : Nat} {B : Nat → Int32} {m m2 : sh_X} (h : sk_W o t f n k B m m2) : ∀ i, i ≠ f → m2.I o i = m.I o i := h.2.2.2.2.1
theorem sk_W.c {o t f n k : Nat} {B : Nat → Int32} {m m2 : sh_X} (h : sk_W o t f n k B m m2) : m2.I o f = Int32.ofNat (n + k) := h.2.2.2.2.2.1
theorem sk_W.a {o t f n k : Nat} {B : Nat → Int32} {m m2 : sh_X} (h : sk_W o t f n k B m m2) : ∀ i, i < n → m2.I t i = m.I t i := h.2.2.2.2.2.2.1
theorem sk_W.b {o t f n k : Nat} {B : Nat → Int32} {m m2 : sh_X} (h : sk_W o t f n k B m m2) : ∀ j, j < k → m2.I t (n + j) = B j := h.2.2.2.2.2.2.2
theorem sk_W.mk {o t f n k : Nat} {B : Nat → Int32} {m m2 : sh_X} (T : m2.T = m.T) (J : m2.J = m.J) (s : m2.s = m.s) (I : ∀ c, c ≠ o → c ≠ t → m2.I c = m.I c) (F : ∀ i, i ≠ f → m2.I o i = m.I o i) (c : m2.I o f = Int32.ofNat (n + k)) (a : ∀ i, i < n → m2.I t i = m.I t i) (b : ∀ j, j < k → m2.I t (n + j) = B j) : sk_W o t f n k B m m2 := ⟨T, J, s, I, F, c, a, b⟩
theorem sk_W.step {o t f n k : Nat} {B : Nat → Int32} {m m2 : sh_X} (h : sk_W o t f n k B m m2) (ot : o ≠ t) : sk_W o t f n (k + 1) B m (m2.T, sh_u2 (sh_u2 m2.I t (n + k) (B k)) o f (Int32.ofNat (n + k) + 1), m2.J, m2.s) :=
  sk_W.mk h.T h.J h.s (fun c a b => by rw [se_Ic a, sh_u2_cell b]; exact h.I c a b) (fun i a => by rw [se_In (fun _ => a), sh_u2_cell ot]; exact h.F i a) (by rw [se_Is]; exact sh_nI1)
    (fun i hi => by rw [se_Ic (Ne.symm ot), sh_u2_idx (by omega)]; exact h.a i hi)
    (fun j hj => by
      rw [se_Ic (Ne.symm ot)]
      rcases Nat.lt_or_ge j k with q | q
      · rw [sh_u2_idx (by omega)]; exact h.b j q
      · have e : j = k := by omega
        subst e
        exact sh_u2_same)
theorem sk_14s {n k : Nat} {B : Nat → Int32} {x s : Int32} {m m2 : sh_X} (h : sk_W 0 1 10 n k B m m2) (hn : n + k < 4000) (hs : ¬ s < 0) (hB : B k = sk_cb x s) :
    sf_14_3s x s m2 = some (.inl (s + (-8), (m2.T, sh_u2 (sh_u2 m2.I 1 (n + k) (B k)) 0 10 (Int32.ofNat (n + k) + 1), m2.J, m2.s))) := by
  unfold sf_14_3s
  rw [if_neg hs, h.c, if_pos (show Int32.ofNat (n + k) < 4000 from (sh_nIlt (b := 4000) (by omega) (by omega)).mpr hn), if_pos (sh_okn' hn (by omega)), sh_nIc (by omega), hB]
  rfl
theorem sk_14w {x s s2 : Int32} {m m2 : sh_X} (h : sf_14_3s x s m = some (.inl (s2, m2))) : sf_14_3 x s m = sf_14_3 x s2 m2 := by
  unfold sf_14_3
  exact sh_wstep (f := fun q : Int32 × sh_X => sf_14_3s x q.1 q.2) (s := (s, m)) (t := (s2, m2)) h
theorem sk_14 {n k : Nat} {B : Nat → Int32} {x : Int32} {m m2 : sh_X} (h : sk_W 0 1 10 n k B m m2) (hn : n + (k + 3) < 4000) (b0 : B k = sk_mb x 24) (b1 : B (k + 1) = sk_mb x 16) (b2 : B (k + 2) = sk_mb x 8) (b3 : B (k + 3) = sk_mb x 0) :
    ∃ m3, sf_14 x m2 = some ((), m3) ∧ sk_W 0 1 10 n (k + 4) B m m3 := by
  have ot : (0 : Nat) ≠ 1 := by omega
  refine ⟨_, ?_, (((h.step ot).step ot).step ot).step ot⟩
  unfold sf_14
  rw [sk_14w (sk_14s h (by omega) (by decide) (b0.trans (sk_s24 x).symm)), show (24 : Int32) + (-8) = 16 by decide]
  rw [sk_14w (sk_14s (h.step ot) (by omega) (by decide) (b1.trans (sk_s16 x).symm)), show (16 : Int32) + (-8) = 8 by decide]
  rw [sk_14w (sk_14s ((h.step ot).step ot) (by omega) (by decide) (b2.trans (sk_s8 x).symm)), show (8 : Int32) + (-8) = 0 by decide]
  rw [sk_14w (sk_14s (((h.step ot).step ot).step ot) (by omega) (by decide) (b3.trans (sk_s0 x).symm)), show (0 : Int32) + (-8) = -8 by decide]
  unfold sf_14_3
  refine sh_wend ?_
  show sf_14_3s x (-8) _ = _
  unfold sf_14_3s
  rw [if_pos (show (-8 : Int32) < 0 by decide)]
/-- the word that is read at the k-th byte -/
def sk_sel (x1 x2 x3 x4 x5 : Int32) (k : Nat) : Int32 := if k < 16 then (if k < 12 then (if k < 8 then (if k < 4 then x1 else x2) else x3) else x4) else x5
def sk_B (x1 x2 x3 x4 x5 : Int32) (k : Nat) : Int32 := sk_mb (sk_sel x1 x2 x3 x4 x5 k) (24 - (8 * (Int32.ofNat k &&& 3)))
theorem sk_Bk {x1 x2 x3 x4 x5 x s : Int32} {k : Nat} (h1 : sk_sel x1 x2 x3 x4 x5 k = x) (h2 : (24 - (8 * (Int32.ofNat k &&& 3)) : Int32) = s) : sk_B x1 x2 x3 x4 x5 k = sk_mb x s := by unfold sk_B; rw [h1, h2]
theorem sk_m {n k : Nat} {x1 x2 x3 x4 x5 : Int32} {m m2 : sh_X} (h : sk_W 66 67 2 n k (sk_B x1 x2 x3 x4 x5) m m2) (hn : n + k < 4000) (hk : k < 20) :
    sf_244_23s x1 x2 x3 x4 x5 (Int32.ofNat k) m2 = some (.inl (Int32.ofNat (k + 1), (m2.T, sh_u2 (sh_u2 m2.I 67 (n + k) (sk_B x1 x2 x3 x4 x5 k)) 66 2 (Int32.ofNat (n + k) + 1), m2.J, m2.s))) := by
  have lt : ∀ q : Nat, q < 100 → (Int32.ofNat k < Int32.ofNat q ↔ k < q) := fun q hq => sh_nIlt (by omega) (by omega)
  have fin : ∀ x7, x7 = sk_sel x1 x2 x3 x4 x5 k → sf_244_74 x1 x2 x3 x4 x5 (Int32.ofNat k) x7 m2 = some (.inl (Int32.ofNat (k + 1), (m2.T, sh_u2 (sh_u2 m2.I 67 (n + k) (sk_B x1 x2 x3 x4 x5 k)) 66 2 (Int32.ofNat (n + k) + 1), m2.J, m2.s))) := fun x7 h7 => by
    unfold sf_244_74
    rw [h.c, if_pos (sh_okn' hn (by omega)), sh_nIc (by omega), h7, sh_nI1 (i := k)]
    rfl
  have l20 : Int32.ofNat k < 20 := (lt 20 (by omega)).mpr hk
  unfold sf_244_23s
  rw [if_pos l20]
  unfold sf_244_42 sf_244_52 sf_244_63
  unfold sk_sel at fin
  have c4 : (Int32.ofNat k < 4) ↔ k < 4 := lt 4 (by omega)
  have c8 : (Int32.ofNat k < 8) ↔ k < 8 := lt 8 (by omega)
  have c12 : (Int32.ofNat k < 12) ↔ k < 12 := lt 12 (by omega)
  have c16 : (Int32.ofNat k < 16) ↔ k < 16 := lt 16 (by omega)
  simp only [c4, c8, c12, c16]
  by_cases h16 : k < 16
  · simp only [if_pos h16]
    by_cases h12 : k < 12
    · simp only [if_pos h12]
      by_cases h8 : k < 8
      · simp only [if_pos h8]
        by_cases h4 : k < 4
        · simp only [if_pos h4]
          exact fin x1 (by rw [if_pos h16, if_pos h12, if_pos h8, if_pos h4])
        · simp only [if_neg h4]
          exact fin x2 (by rw [if_pos h16, if_pos h12, if_pos h8, if_neg h4])
      · simp only [if_neg h8, if_neg (show ¬ k < 4 by omega)]
        exact fin x3 (by rw [if_pos h16, if_pos h12, if_neg h8])
    · simp only [if_neg h12, if_neg (show ¬ k < 4 by omega), if_neg (show ¬ k < 8 by omega)]
      exact fin x4 (by rw [if_pos h16, if_neg h12])
  · simp only [if_neg h16, if_neg (show ¬ k < 4 by omega), if_neg (show ¬ k < 8 by omega), if_neg (show ¬ k < 12 by omega)]
    exact fin x5 (by rw [if_neg h16])
theorem sk_mw {n : Nat} {x1 x2 x3 x4 x5 : Int32} {m : sh_X} (hn : n + 20 ≤ 4000) : ∀ (j k : Nat) (m2 : sh_X), j + k = 20 → sk_W 66 67 2 n k (sk_B x1 x2 x3 x4 x5) m m2 → ∃ m3, sf_244_23 x1 x2 x3 x4 x5 (Int32.ofNat k) m2 = some (true, m3) ∧ sk_W 66 67 2 n 20 (sk_B x1 x2 x3 x4 x5) m m3 := by
  intro j
  induction j with
  | zero =>
    intro k m2 hk h
    have e : k = 20 := by omega
    subst e
    refine ⟨m2, ?_, h⟩
    unfold sf_244_23
    refine sh_wend ?_
    show sf_244_23s x1 x2 x3 x4 x5 (Int32.ofNat 20) m2 = _
    unfold sf_244_23s
    rw [if_neg (show ¬ Int32.ofNat 20 < 20 by decide)]
  | succ j ih =>
    intro k m2 hk h
    obtain ⟨m3, h1, h2⟩ := ih (k + 1) _ (by omega) (h.step (by omega))
    refine ⟨m3, ?_, h2⟩
    unfold sf_244_23 at h1 ⊢
    rw [sh_wstep (f := fun q : Int32 × sh_X => sf_244_23s x1 x2 x3 x4 x5 q.1 q.2) (s := (Int32.ofNat k, m2)) (sk_m h (by omega) (by omega))]
    exact h1
/-- both take twenty bytes, or both refuse -/
theorem sk_feed {n : Nat} {x1 x2 x3 x4 x5 : Int32} {mc mm : sh_X} (h1 : mc.I 0 10 = Int32.ofNat n) (h2 : mm.I 66 2 = Int32.ofNat n) (n4 : n ≤ 4000) :
    (sf_13 x1 x2 x3 x4 x5 mc = some (false, mc) ∧ sf_244 x1 x2 x3 x4 x5 mm = some (false, (mm.T, sh_u2 mm.I 66 0 0, mm.J, mm.s))) ∨
    ∃ (mc2 mm2 : sh_X) (B : Nat → Int32), n + 20 ≤ 4000 ∧ sf_13 x1 x2 x3 x4 x5 mc = some (true, mc2) ∧ sf_244 x1 x2 x3 x4 x5 mm = some (true, mm2) ∧ sk_W 0 1 10 n 20 B mc mc2 ∧ sk_W 66 67 2 n 20 B (mm.T, sh_u2 mm.I 66 0 0, mm.J, mm.s) mm2 ∧ ∀ j, -128 ≤ (B j).toInt ∧ (B j).toInt ≤ 127 := by
  unfold sf_13 sf_244
  rw [h1, h2, show Int32.ofNat n + 20 = Int32.ofNat (n + 20) from sh_nIadd (b := 20)]
  rcases Nat.lt_or_ge 3980 n with c | c
  · left
    rw [if_pos (show (3980 : Int32) < Int32.ofNat n from (sh_nIlt (a := 3980) (by omega) (by omega)).mpr c), if_pos (show (4000 : Int32) < Int32.ofNat (n + 20) from (sh_nIlt (a := 4000) (by omega) (by omega)).mpr (by omega))]
    exact ⟨rfl, rfl⟩
  · right
    rw [if_neg (show ¬ (3980 : Int32) < Int32.ofNat n from fun q => absurd ((sh_nIlt (a := 3980) (by omega) (by omega)).mp q) (by omega)), if_neg (show ¬ (4000 : Int32) < Int32.ofNat (n + 20) from fun q => absurd ((sh_nIlt (a := 4000) (by omega) (by omega)).mp q) (by omega))]
    have w0 : sk_W 0 1 10 n 0 (sk_B x1 x2 x3 x4 x5) mc mc := sk_W.mk rfl rfl rfl (fun _ _ _ => rfl) (fun _ _ => rfl) h1 (fun _ _ => rfl) (fun j hj => absurd hj (by omega))
    have v0 : sk_W 66 67 2 n 0 (sk_B x1 x2 x3 x4 x5) (mm.T, sh_u2 mm.I 66 0 0, mm.J, mm.s) (mm.T, sh_u2 mm.I 66 0 0, mm.J, mm.s) := sk_W.mk rfl rfl rfl (fun _ _ _ => rfl) (fun _ _ => rfl) (by rw [se_In (fun _ => by omega)]; exact h2) (fun _ _ => rfl) (fun j hj => absurd hj (by omega))
    obtain ⟨m1, a1, w1⟩ := sk_14 (x := x1) w0 (by omega) (sk_Bk rfl (by decide)) (sk_Bk rfl (by decide)) (sk_Bk rfl (by decide)) (sk_Bk rfl (by decide))
    obtain ⟨m2, a2, w2⟩ := sk_14 (x := x2) w1 (by omega) (sk_Bk rfl (by decide)) (sk_Bk rfl (by decide)) (sk_Bk rfl (by decide)) (sk_Bk rfl (by decide))
    obtain ⟨m3, a3, w3⟩ := sk_14 (x := x3) w2 (by omega) (sk_Bk rfl (by decide)) (sk_Bk rfl (by decide)) (sk_Bk rfl (by decide)) (sk_Bk rfl (by decide))
    obtain ⟨m4, a4, w4⟩ := sk_14 (x := x4) w3 (by omega) (sk_Bk rfl (by decide)) (sk_Bk rfl (by decide)) (sk_Bk rfl (by decide)) (sk_Bk rfl (by decide))
    obtain ⟨m5, a5, w5⟩ := sk_14 (x := x5) w4 (by omega) (sk_Bk rfl (by decide)) (sk_Bk rfl (by decide)) (sk_Bk rfl (by decide)) (sk_Bk rfl (by decide))
    obtain ⟨n5, b5, v5⟩ := sk_mw (x1 := x1) (x2 := x2) (x3 := x3) (x4 := x4) (x5 := x5) (by omega) 20 0 _ rfl v0
    refine ⟨m5, n5, _, by omega, ?_, b5, w5, v5, fun j => by unfold sk_B sk_mb; exact sk_by _⟩
    rw [a1]
    show sh_bn (sf_14 x2 m1) _ = _
    rw [a2]
    show sh_bn (sf_14 x3 m2) _ = _
    rw [a3]
    show sh_bn (sf_14 x4 m3) _ = _
    rw [a4]
    show sh_bn (sf_14 x5 m4) _ = _
    rw [a5]
    rfl
