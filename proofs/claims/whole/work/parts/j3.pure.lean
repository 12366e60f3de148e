/-! COMPILE: both compile -/
theorem sj_txl {T : List sh_Tg} : (sh_tx2 T).length = T.length := by unfold sh_tx2; exact List.length_set
theorem sj_txo {T : List sh_Tg} {c : Nat} (h : c ≠ 2) : (sh_tx2 T)[c]? = T[c]? := by unfold sh_tx2; exact List.getElem?_set_ne (Ne.symm h)
theorem sj_txr {T : List sh_Tg} (h : 2 < T.length) : sh_rf (sh_tx2 T) 2 5 = 1 := by
  have e : (sh_tx2 T)[2]? = some (.inr (1, [.inr (.ref 4), .inr (.ref 5), .inr (.ref 6), .inr (.ref 7), .inr (.ref 8), .inr (.ref 2), .inl 0, .inl 0, .inl 0, .inl 0, .inl 0])) := by
    unfold sh_tx2
    rw [List.getElem?_set_self h]
  unfold sh_rf
  rw [e]
  rfl
/-- what a compile of the model leaves as it was -/
def sj_N (m m2 : sh_X) : Prop := (m2.T = m.T) ∧ (m2.s = m.s) ∧ (∀ c, c ≠ 66 → (c < 68 ∨ 116 < c) → m2.I c = m.I c) ∧ (∀ c, (c < 92 ∨ 116 < c) → c ≠ 66 → m2.J c = m.J c) ∧ (∀ f, f = 1 ∨ 80 < f → m2.I 66 f = m.I 66 f)
theorem sj_N.T {m m2 : sh_X} (h : sj_N m m2) : m2.T = m.T := h.1
theorem sj_N.s {m m2 : sh_X} (h : sj_N m m2) : m2.s = m.s := h.2.1
theorem sj_N.I {m m2 : sh_X} (h : sj_N m m2) : ∀ c, c ≠ 66 → (c < 68 ∨ 116 < c) → m2.I c = m.I c := h.2.2.1
theorem sj_N.J {m m2 : sh_X} (h : sj_N m m2) : ∀ c, (c < 92 ∨ 116 < c) → c ≠ 66 → m2.J c = m.J c := h.2.2.2.1
theorem sj_N.F {m m2 : sh_X} (h : sj_N m m2) : ∀ f, f = 1 ∨ 80 < f → m2.I 66 f = m.I 66 f := h.2.2.2.2
theorem sj_N.mk {m m2 : sh_X} (T : m2.T = m.T) (s : m2.s = m.s) (I : ∀ c, c ≠ 66 → (c < 68 ∨ 116 < c) → m2.I c = m.I c) (J : ∀ c, (c < 92 ∨ 116 < c) → c ≠ 66 → m2.J c = m.J c) (F : ∀ f, f = 1 ∨ 80 < f → m2.I 66 f = m.I 66 f) : sj_N m m2 := ⟨T, s, I, J, F⟩
theorem sj_N.refl (m : sh_X) : sj_N m m := sj_N.mk rfl rfl (fun _ _ _ => rfl) (fun _ _ _ => rfl) (fun _ _ => rfl)
theorem sj_N.trans {m m2 m3 : sh_X} (h : sj_N m m2) (g : sj_N m2 m3) : sj_N m m3 := sj_N.mk (g.T.trans h.T) (g.s.trans h.s) (fun c a b => (g.I c a b).trans (h.I c a b)) (fun c a b => (g.J c a b).trans (h.J c a b)) (fun f a => (g.F f a).trans (h.F f a))
theorem se_U.N {m m2 : sh_X} (h : se_U m m2) : sj_N m m2 := sj_N.mk h.T h.s (fun c a b => h.I c a (by omega)) (fun c a b => h.J c b (by omega)) (fun f a => h.F f (by omega))
theorem sh_Mg.N {m m2 : sh_X} (h : sh_Mg m m2) : sj_N m m2 := sj_N.mk h.T h.s (fun c a b => h.I c a (by omega)) (fun c _ _ => by rw [h.J]) (fun f a => h.I6 f (by omega) (by omega) (by omega) (by omega) (by omega) (by omega) (by omega) (by omega) (by omega))
theorem sh_Mh.N {m m2 : sh_X} (h : sh_Mh m m2) : sj_N m m2 := sj_N.mk h.T h.s (fun c a b => h.I c a (by omega)) (fun c _ _ => by rw [h.J]) (fun f a => h.I6 f (by omega) (by omega) (by omega) (by omega) (by omega) (by omega) (by omega) (by omega) (by omega))
theorem sh_Mlf.N {m m2 : sh_X} (h : sh_Mlf m m2) : sj_N m m2 := sj_N.mk h.T h.s (fun c a b => h.I c a (by omega) (by omega) (by omega)) (fun c _ _ => by rw [h.J]) (fun f a => h.I6 f (by omega) (by omega) (by omega))
theorem sh_mftN {k p : Int32} {m : sh_X} : sj_N m (sh_mft k p m) := sj_N.mk rfl rfl (fun c a _ => sh_mftI a) (fun _ _ _ => rfl) (fun f a => by
  show sh_u2 (sh_u2 m.I 66 6 k) 66 7 p 66 f = _
  rw [sh_u2_idx (by omega), sh_u2_idx (by omega)])
theorem sj_Nw {m : sh_X} {f : Nat} {x : Int32} (hf : f ≠ 1 ∧ f ≤ 80) : sj_N m (m.T, sh_u2 m.I 66 f x, m.J, m.s) := sj_N.mk rfl rfl (fun c a _ => se_Ic a) (fun _ _ _ => rfl) (fun g a => se_In (by omega))
/-- what both have behind a compile -/
def sj_Z (kc : Nat) (r : Int32) (mc mm mc2 mm2 : sh_X) : Prop := (sj_K 1 mc mc2) ∧ (sj_N mm mm2) ∧ (mc2.I 0 10 = 0) ∧ (mc2.I 0 11 = Int32.ofNat (kc + 1)) ∧ (mc2.I 0 14 = 0) ∧ (mc2.I 0 12 = mm2.I 66 7) ∧ (mm2.I 66 0 = 0) ∧ (mm2.I 66 2 = 0) ∧ (mm2.I 66 5 = 0) ∧ (mm2.I 66 80 = Int32.ofNat (kc + 1)) ∧ ((mc2.I 0 13 = 0 ∧ mm2.I 66 4 = 0 ∧ ∃ gs, sh_GS gs mc2) ∨ (mc2.I 0 13 = 1 ∧ mm2.I 66 4 = 1 ∧ sj_R mc2 mm2 ∧ ∃ n W f gs, sj_E n W f mc2 mm2 ∧ sh_GS gs mc2 ∧ (∀ X, X < 2 → ∀ k, k < n X → mc2.J (16 + 5 * X) k = 0) ∧ ∀ k, k < 512 → mm2.J 103 k = 0))
theorem sj_Z.k {kc : Nat} {r : Int32} {mc mm mc2 mm2 : sh_X} (h : sj_Z kc r mc mm mc2 mm2) : sj_K 1 mc mc2 := h.1
theorem sj_Z.n {kc : Nat} {r : Int32} {mc mm mc2 mm2 : sh_X} (h : sj_Z kc r mc mm mc2 mm2) : sj_N mm mm2 := h.2.1
theorem sj_Z.c10 {kc : Nat} {r : Int32} {mc mm mc2 mm2 : sh_X} (h : sj_Z kc r mc mm mc2 mm2) : mc2.I 0 10 = 0 := h.2.2.1
theorem sj_Z.c11 {kc : Nat} {r : Int32} {mc mm mc2 mm2 : sh_X} (h : sj_Z kc r mc mm mc2 mm2) : mc2.I 0 11 = Int32.ofNat (kc + 1) := h.2.2.2.1
theorem sj_Z.c14 {kc : Nat} {r : Int32} {mc mm mc2 mm2 : sh_X} (h : sj_Z kc r mc mm mc2 mm2) : mc2.I 0 14 = 0 := h.2.2.2.2.1
theorem sj_Z.pl {kc : Nat} {r : Int32} {mc mm mc2 mm2 : sh_X} (h : sj_Z kc r mc mm mc2 mm2) : mc2.I 0 12 = mm2.I 66 7 := h.2.2.2.2.2.1
theorem sj_Z.m0 {kc : Nat} {r : Int32} {mc mm mc2 mm2 : sh_X} (h : sj_Z kc r mc mm mc2 mm2) : mm2.I 66 0 = 0 := h.2.2.2.2.2.2.1
theorem sj_Z.m2_ {kc : Nat} {r : Int32} {mc mm mc2 mm2 : sh_X} (h : sj_Z kc r mc mm mc2 mm2) : mm2.I 66 2 = 0 := h.2.2.2.2.2.2.2.1
theorem sj_Z.m5 {kc : Nat} {r : Int32} {mc mm mc2 mm2 : sh_X} (h : sj_Z kc r mc mm mc2 mm2) : mm2.I 66 5 = 0 := h.2.2.2.2.2.2.2.2.1
theorem sj_Z.m80 {kc : Nat} {r : Int32} {mc mm mc2 mm2 : sh_X} (h : sj_Z kc r mc mm mc2 mm2) : mm2.I 66 80 = Int32.ofNat (kc + 1) := h.2.2.2.2.2.2.2.2.2.1
theorem sj_Z.st {kc : Nat} {r : Int32} {mc mm mc2 mm2 : sh_X} (h : sj_Z kc r mc mm mc2 mm2) : (mc2.I 0 13 = 0 ∧ mm2.I 66 4 = 0 ∧ ∃ gs, sh_GS gs mc2) ∨ (mc2.I 0 13 = 1 ∧ mm2.I 66 4 = 1 ∧ sj_R mc2 mm2 ∧ ∃ n W f gs, sj_E n W f mc2 mm2 ∧ sh_GS gs mc2 ∧ (∀ X, X < 2 → ∀ k, k < n X → mc2.J (16 + 5 * X) k = 0) ∧ ∀ k, k < 512 → mm2.J 103 k = 0) := h.2.2.2.2.2.2.2.2.2.2
theorem sj_Z.mk {kc : Nat} {r : Int32} {mc mm mc2 mm2 : sh_X} (k : sj_K 1 mc mc2) (n : sj_N mm mm2) (c10 : mc2.I 0 10 = 0) (c11 : mc2.I 0 11 = Int32.ofNat (kc + 1)) (c14 : mc2.I 0 14 = 0) (pl : mc2.I 0 12 = mm2.I 66 7) (m0 : mm2.I 66 0 = 0) (m2_ : mm2.I 66 2 = 0) (m5 : mm2.I 66 5 = 0) (m80 : mm2.I 66 80 = Int32.ofNat (kc + 1)) (st : (mc2.I 0 13 = 0 ∧ mm2.I 66 4 = 0 ∧ ∃ gs, sh_GS gs mc2) ∨ (mc2.I 0 13 = 1 ∧ mm2.I 66 4 = 1 ∧ sj_R mc2 mm2 ∧ ∃ n W f gs, sj_E n W f mc2 mm2 ∧ sh_GS gs mc2 ∧ (∀ X, X < 2 → ∀ k, k < n X → mc2.J (16 + 5 * X) k = 0) ∧ ∀ k, k < 512 → mm2.J 103 k = 0)) : sj_Z kc r mc mm mc2 mm2 := ⟨k, n, c10, c11, c14, pl, m0, m2_, m5, m80, st⟩
theorem sj_comp {kc n : Nat} {gs : sh_gL} {mc mm : sh_X} (g : sh_GS gs mc) (b1 : mc.T[1]? = some (.inl (1, 4000))) (t46 : mc.T[46]? = some (.inl (0, 65))) (tl : mc.T.length < 700000) (hn : mc.I 0 10 = Int32.ofNat n) (n4 : n ≤ 4000) (hk : kc < 24) (hc11 : mc.I 0 11 = Int32.ofNat kc) (h2 : mm.I 66 2 = Int32.ofNat n) (h80 : mm.I 66 80 = Int32.ofNat kc) (hb : ∀ i, i < n → mm.I 67 i = mc.I 1 i) (hr : ∀ i, i < n → -128 ≤ (mm.I 67 i).toInt ∧ (mm.I 67 i).toInt ≤ 127) :
    ∃ r mc2 mm2, sf_16 mc = some (r, mc2) ∧ sf_246 mm = some (r, mm2) ∧ sj_Z kc r mc mm mc2 mm2 := by
  -- the class is cleared
  obtain ⟨m1, a1, a2, a3, a4, a5, a6, a7, a8, a9, a10⟩ := sj_17 g
  have T1l : m1.T.length < 700100 := by
    have q := a3.n
    have d1 : 131072 / sj_l mc ≤ 131072 / 4096 := by
      obtain ⟨_, _, _, a, b, d, nn, gv⟩ := g
      unfold sj_l
      rw [gv.ra, gv.la]
      exact Nat.div_le_div_left gv.n0 (by omega)
    omega
  have nT1 : 125 ≤ m1.T.length := by obtain ⟨_, _, _, a, b, d, nn, gv⟩ := a2; exact gv.nT
  obtain ⟨m2, hm2⟩ : ∃ m2 : sh_X, (sh_tx2 m1.T, sh_u2 (sh_u2 (sh_u2 m1.I 2 6 (Int32.ofNat n)) 2 7 0) 2 8 0, m1.J, m1.s) = m2 := ⟨_, rfl⟩
  have k2 : ∀ c, c ≠ 2 → m2.I c = m1.I c := fun c hc => by
    rw [← hm2]
    show sh_u2 (sh_u2 (sh_u2 m1.I 2 6 (Int32.ofNat n)) 2 7 0) 2 8 0 c = m1.I c
    rw [sh_u2_cell hc, sh_u2_cell hc, sh_u2_cell hc]
  have T2 : m2.T = sh_tx2 m1.T := by rw [← hm2]
  have e24 : sf_24 (m1.I 0 10) m1 = sf_24_30 (Int32.ofNat 0) (Int32.ofNat 0) m2 := by
    unfold sf_24
    have e21 : sf_21 (m1.I 0 10) 4000 = Int32.ofNat n := by
      unfold sf_21
      rw [a8, hn, if_neg (show ¬ (4000 : Int32) < Int32.ofNat n from fun q => by have := (sh_nIlt (a := 4000) (by omega) (by omega)).mp q; omega)]
    rw [e21, hm2]
    rfl
  obtain ⟨g2, l2⟩ := a2.Tg (m2 := m2) (fun c h1 _ _ => by rw [T2]; exact sj_txo h1) (by rw [T2]; exact sj_txl) (fun c hc => k2 c (by omega))
  have K2 : sj_K 0 m1 m2 := sj_K.mk (fun c t x _ _ h => by rw [T2, sj_txo x]; exact h) (by rw [l2, T2, sj_txl]; exact Nat.le_refl _) (by rw [T2, sj_txl]; exact Nat.le_refl _) (by rw [l2, ← hm2]; exact Nat.le_refl _) (fun c _ h => k2 c (by omega)) (k2 1 (by omega)) (fun _ _ => by rw [← hm2])
  have K02 : sj_K 0 mc m2 := a3.trans K2
  have Bc2 : sh_Bc n m2 := sh_Bc.mk (by rw [T2]; exact sj_txr (by omega)) (by
    have e : m2.T[1]? = some (.inl (1, 4000)) := K02.T 1 _ (by omega) (by omega) (by omega) b1
    unfold sh_ln
    rw [e]) (by rw [← hm2, se_In (by omega), sh_u2_idx (by omega), sh_u2_same]) n4
  obtain ⟨B, hB⟩ : ∃ B, sh_by (m2.I 1) n = B := ⟨_, rfl⟩
  have Cw2 : sh_Cw B [] [] m2 := sh_Cw.mk (by rw [← hm2, se_In (by omega), sh_u2_same]; rfl) (fun i t h => by cases h) (by rw [← hm2]; exact se_Is) (fun a w h => by cases h) (fun a b u v h => by cases h)
  have lex := sh_24l n 0 0 [] [] m2 (by omega) hB Bc2 Cw2 (by rw [T2, sj_txl]; omega) (Nat.le_refl _) (Or.inl (Nat.le_refl _)) (Nat.le_refl _) (Nat.zero_le _)
  -- the model is cleared
  obtain ⟨n0, hn0⟩ : ∃ n0 : sh_X, (mm.T, sh_u2 mm.I 66 0 0, mm.J, mm.s) = n0 := ⟨_, rfl⟩
  have N0 : sj_N mm n0 := by rw [← hn0]; exact sj_Nw (by omega)
  have z66 : ∀ f, f ≠ 0 → n0.I 66 f = mm.I 66 f := fun f hf => by rw [← hn0]; exact se_In (by omega)
  have zI : ∀ c, c ≠ 66 → n0.I c = mm.I c := fun c hc => by rw [← hn0]; exact se_Ic hc
  obtain ⟨n1, b1', b2, b3, b4, b5, b6, b7, b8, b9, b10, b11, b12, b13, b14⟩ := sj_247 n0
  obtain ⟨n2, hn2⟩ : ∃ n2 : sh_X, (n1.T, sh_u2 (sh_u2 n1.I 66 6 0) 66 11 0, n1.J, n1.s) = n2 := ⟨_, rfl⟩
  have y66 : ∀ f, f ≠ 6 → f ≠ 11 → n2.I 66 f = n1.I 66 f := fun f h1 h2 => by rw [← hn2, se_In (by omega), sh_u2_idx h1]
  have yI : ∀ c, c ≠ 66 → n2.I c = n1.I c := fun c hc => by rw [← hn2, se_Ic hc, sh_u2_cell hc]
  have N2 : sj_N mm n2 := by
    refine N0.trans (sj_N.mk (by rw [← hn2]; exact b2) (by rw [← hn2]; exact b3) (fun c h1 _ => (yI c h1).trans (b4 c h1)) (fun c h1 _ => by rw [← hn2]; exact b13 c (by omega)) (fun f hf => (y66 f (by omega) (by omega)).trans (b12 f (by omega) (by omega) (by omega) (by omega) (by omega) (by omega) (by omega))))
  have e246 : sf_246 mm = sh_bn (sf_248_7 (Int32.ofNat 0) n2) fun r2 m12 => if r2 = true then sf_246_36 0 m12 else sf_246_89 r2 m12 := by
    unfold sf_246 sf_248
    rw [h80, if_neg (show ¬ Int32.ofNat kc = 24 from fun q => by have := (sh_nIeq (b := 24) (by omega) (by omega)).mp q; omega), hn0, b1', sh_bn_some]
    show (sh_bn (sf_248_7 0 (n1.T, sh_u2 (sh_u2 n1.I 66 6 0) 66 11 0, n1.J, n1.s)) _) = _
    rw [hn2]
    rfl
  have n67 : n2.I 67 = mm.I 67 := (yI 67 (by omega)).trans ((b4 67 (by omega)).trans (zI 67 (by omega)))
  have Bm2 : sh_Bm n n2 := sh_Bm.mk ((y66 3 (by omega) (by omega)).trans (b6.trans ((z66 2 (by omega)).trans h2))) n4
  have hBm : sh_by (n2.I 67) n = B := by
    rw [← hB]
    funext i
    by_cases hi : i < n
    · rw [sh_by_in hi, sh_by_in hi, n67, hb i hi, K02.I1]
    · rw [sh_by_out hi, sh_by_out hi]
  have Mw2 : sh_Mw [] n2 := sh_Mw.mk (by rw [← hn2]; exact se_Is) (fun i t h => by cases h)
  have lexm := sh_248l n 0 [] n2 (by omega) hBm Bm2 Mw2 (Nat.le_refl _) (Nat.zero_le _)
  -- registers behind
  have r80 : n2.I 66 80 = Int32.ofNat (kc + 1) := (y66 80 (by omega) (by omega)).trans (b5.trans (by rw [z66 80 (by omega), h80, sh_nI1]))
  have r2 : n2.I 66 2 = 0 := (y66 2 (by omega) (by omega)).trans b7
  have r5 : n2.I 66 5 = 0 := (y66 5 (by omega) (by omega)).trans b8
  have r4 : n2.I 66 4 = 0 := (y66 4 (by omega) (by omega)).trans b9
  have r0 : n2.I 66 0 = 0 := (y66 0 (by omega) (by omega)).trans ((b12 0 (by omega) (by omega) (by omega) (by omega) (by omega) (by omega) (by omega)).trans (by rw [← hn0]; exact se_Is))
  have cls : sf_16 mc = sh_bh (sf_24_30 (Int32.ofNat 0) (Int32.ofNat 0) m2) (fun m12 => sf_16_74 (m12.I 2 9) ⟨m12.T, sh_u2 m12.I 0 12 (m12.I 2 10), m12.J, m12.s⟩) fun _ m12 => sh_bh (sf_43 m12) (fun m13 => sf_16_74 (m13.I 2 9) ⟨m13.T, sh_u2 m13.I 0 12 (m13.I 2 10), m13.J, m13.s⟩) fun _ m13 => sh_bh (sf_78 m13) (fun m14 => sf_16_74 (m14.I 2 9) ⟨m14.T, sh_u2 m14.I 0 12 (m14.I 2 10), m14.J, m14.s⟩) fun _ m14 => sf_16_74 0 ⟨m14.T, sh_u2 m14.I 0 13 1, m14.J, m14.s⟩ := by
    unfold sf_16
    rw [hc11, if_pos (show Int32.ofNat kc < 24 from (sh_nIlt (b := 24) (by omega) (by omega)).mpr hk), a1, sh_bn_some, e24]
  have z0 : m2.I 0 = m1.I 0 := k2 0 (by omega)
  -- a fault on both sides
  have bad : ∀ {k q : Int32} {y x : sh_X} {gs' : sh_gL}, sh_GS gs' y → sj_K 0 mc y → y.I 0 = m1.I 0 → y.T.length < 800000 → sj_N n2 x → x.I 66 0 = 0 → x.I 66 2 = 0 → x.I 66 5 = 0 → x.I 66 80 = Int32.ofNat (kc + 1) → x.I 66 6 = k → x.I 66 7 = q → sf_16 mc = sf_16_74 ((sh_flt k q y).I 2 9) ((sh_flt k q y).T, sh_u2 (sh_flt k q y).I 0 12 ((sh_flt k q y).I 2 10), (sh_flt k q y).J, (sh_flt k q y).s) → sf_246 mm = sf_246_87 x → ∃ r mc2 mm2, sf_16 mc = some (r, mc2) ∧ sf_246 mm = some (r, mm2) ∧ sj_Z kc r mc mm mc2 mm2 := by
    intro k q y x gs' G Ky y0 yl Nx x0 x2 x5 x80 x6 x7 ec em
    obtain ⟨f1, f2⟩ := sj_flt (k := k) (p := q) G yl
    have e9 : (sh_flt k q y).I 2 9 = k := by
      show sh_u2 (sh_u2 y.I 2 9 k) 2 10 q 2 9 = k
      rw [sh_u2_idx (by omega), sh_u2_same]
    have e10 : (sh_flt k q y).I 2 10 = q := by
      show sh_u2 (sh_u2 y.I 2 9 k) 2 10 q 2 10 = q
      rw [sh_u2_same]
    have eI : ∀ c, c ≠ 2 → (sh_flt k q y).I c = y.I c := fun c hc => by
      show sh_u2 (sh_u2 y.I 2 9 k) 2 10 q c = y.I c
      rw [sh_u2_cell hc, sh_u2_cell hc]
    obtain ⟨x1, hx1⟩ : ∃ x1 : sh_X, (x.T, sh_u2 x.I 66 4 (sh_b2 false), x.J, x.s) = x1 := ⟨_, rfl⟩
    have xF : ∀ f, f ≠ 4 → x1.I 66 f = x.I 66 f := fun f hf => by rw [← hx1]; exact se_In (by omega)
    obtain ⟨z, hz⟩ : ∃ z : sh_X, ((sh_flt k q y).T, sh_u2 (sh_u2 (sh_flt k q y).I 0 12 q) 0 10 0, (sh_flt k q y).J, (sh_flt k q y).s) = z := ⟨_, rfl⟩
    have zI : ∀ c, c ≠ 0 → z.I c = (sh_flt k q y).I c := fun c hc => by
      rw [← hz]
      show sh_u2 (sh_u2 (sh_flt k q y).I 0 12 q) 0 10 0 c = _
      rw [sh_u2_cell hc, sh_u2_cell hc]
    have z0' : ∀ f, f ≠ 10 → f ≠ 12 → z.I 0 f = m1.I 0 f := fun f h1 h2 => by
      rw [← hz, se_In (by omega), sh_u2_idx h2, eI 0 (by omega), y0]
    have Kz : sj_K 0 (sh_flt k q y) z := sj_K.of (by rw [← hz]) (by rw [← hz]) (fun c _ h => zI c (by omega)) (zI 1 (by omega)) (fun _ _ => by rw [← hz])
    have em2 : sf_246 mm = some (k, x1) := by
      rw [em]
      show some (sh_X.I (x.T, sh_u2 x.I 66 4 (sh_b2 false), x.J, x.s) 66 6, (x.T, sh_u2 x.I 66 4 (sh_b2 false), x.J, x.s)) = _
      rw [hx1, xF 6 (by omega), x6]
    refine ⟨k, z, x1, ?_, em2, sj_Z.mk ((Ky.trans f1).trans Kz) ((N2.trans Nx).trans (by rw [← hx1]; exact sj_Nw (by omega))) (by rw [← hz]; exact se_Is) (by rw [z0' 11 (by omega) (by omega), a4, hc11, sh_nI1]) (by rw [z0' 14 (by omega) (by omega)]; exact a6) ?_ (by rw [xF 0 (by omega)]; exact x0) (by rw [xF 2 (by omega)]; exact x2) (by rw [xF 5 (by omega)]; exact x5) (by rw [xF 80 (by omega)]; exact x80) (Or.inl ⟨by rw [z0' 13 (by omega) (by omega)]; exact a5, by rw [← hx1]; exact se_Is, gs', f2.cong (by rw [← hz]) (fun c hc => zI c (by omega))⟩)⟩
    · rw [ec, e9, e10, ← hz]
      rfl
    · rw [xF 7 (by omega), x7, ← hz, se_In (by omega), sh_u2_same]
  cases hlx : sh_lx B n n 0 with
  | inl p =>
    rw [hlx] at lex lexm
    obtain ⟨y, c1, c2⟩ := lex
    obtain ⟨x, d1, d2⟩ := lexm
    have yT : y.T = m2.T := c2.T
    refine bad (k := 1) (q := Int32.ofNat p) (y := y) (x := sh_mft 1 (Int32.ofNat p) x) (gs' := [(0, 0, 0), (0, 0, 0)]) (g2.cong c2.T (fun c hc => c2.I c (by omega) (by omega) (by omega) (by omega) (by omega))) (K02.trans c2.K) ((c2.I 0 (by omega) (by omega) (by omega) (by omega) (by omega)).trans z0) (by rw [yT, T2, sj_txl]; omega) (d2.N.trans sh_mftN) ?_ ?_ ?_ ?_ ?_ ?_ (by rw [cls, c1]; rfl) ?_
    · show sh_u2 (sh_u2 x.I 66 6 1) 66 7 (Int32.ofNat p) 66 0 = 0
      rw [sh_u2_idx (by omega), sh_u2_idx (by omega), d2.I6 0 (by omega) (by omega) (by omega)]; exact r0
    · show sh_u2 (sh_u2 x.I 66 6 1) 66 7 (Int32.ofNat p) 66 2 = 0
      rw [sh_u2_idx (by omega), sh_u2_idx (by omega), d2.I6 2 (by omega) (by omega) (by omega)]; exact r2
    · show sh_u2 (sh_u2 x.I 66 6 1) 66 7 (Int32.ofNat p) 66 5 = 0
      rw [sh_u2_idx (by omega), sh_u2_idx (by omega), d2.I6 5 (by omega) (by omega) (by omega)]; exact r5
    · show sh_u2 (sh_u2 x.I 66 6 1) 66 7 (Int32.ofNat p) 66 80 = _
      rw [sh_u2_idx (by omega), sh_u2_idx (by omega), d2.I6 80 (by omega) (by omega) (by omega)]; exact r80
    · show sh_u2 (sh_u2 x.I 66 6 1) 66 7 (Int32.ofNat p) 66 6 = 1
      rw [sh_u2_idx (by omega), sh_u2_same]
    · show sh_u2 (sh_u2 x.I 66 6 1) 66 7 (Int32.ofNat p) 66 7 = _
      rw [sh_u2_same]
    · rw [e246, d1, sh_bn_some, if_neg (by decide)]
      rfl
  | inr l =>
    rw [hlx] at lex lexm
    obtain ⟨nm, m3, c1, c2, c3, c4, c5⟩ := lex
    obtain ⟨n3, d1, d2, d3, d4, d5⟩ := lexm
    have c2 : sh_Cw B (l ++ [(0, n, 0)]) nm m3 := c2
    have c4 : l.length ≤ n := c4
    have d3 : ∀ (i : Nat) (t : sh_Tok), (l ++ [(0, n, 0)])[i]? = some t → n3.I 68 i = t.1 ∧ n3.I 69 i = Int32.ofNat t.2.1 ∧ n3.I 70 i = Int32.ofNat t.2.2 := d3
    have hBe : ∀ i, n ≤ i → B i = -1 := fun i hi => by rw [← hB]; exact sh_by_out (by omega)
    have hBr : ∀ i, -1 ≤ (B i).toInt ∧ (B i).toInt < 256 := fun i => by rw [← hB]; exact sh_by_rng _ _ _
    obtain ⟨K, P, V, hT, hWc, hWx⟩ := sh_text hBe hBr n4 (Nat.le_refl _) hlx c4 c2 c5
    have n67' : n3.I 67 = mm.I 67 := (d4.I 67 (by omega) (by omega) (by omega) (by omega)).trans n67
    obtain ⟨n4', e1, e2, e3, e4, e5, e6⟩ := sj_copy (n := n) (m := n3) ((d4.I6 3 (by omega) (by omega) (by omega)).trans Bm2.le) n4 (fun i hi => by rw [n67']; exact hr i hi)
    have lN : l.length ≤ 4000 := hT.N4
    have tl1 : (l ++ [((0 : Int32), n, 0)]).length = l.length + 1 := by rw [List.length_append]; rfl
    have Wa : sh_Wa (l ++ [(0, n, 0)]) n3 := sh_Wa.mk d3 (by omega)
    have Wa4 : sh_Wa (l ++ [(0, n, 0)]) n4' := Wa.same (e5 68 (by omega)) (e5 69 (by omega)) (e5 70 (by omega))
    have Wb67 : sh_Wb B n 67 n4' := sh_Wb.mk n4 (fun i hi => by rw [e5 67 (by omega), n67', ← hBm, n67, sh_by_in hi]) (fun i hi => by rw [e5 67 (by omega), n67']; exact hr i hi)
    have Wb71 : sh_Wb B n 71 n4' := sh_Wb.mk n4 (fun i hi => by rw [e6 i hi, n67', ← hBm, n67, sh_by_in hi]) (fun i hi => by rw [e6 i hi, n67']; exact hr i hi)
    have Wq : sh_Wq l.length K P V n4' := ⟨lN, B, n, _, hWx, Wa4, Wb67⟩
    have We : sh_We l.length K P V n4' := ⟨lN, B, n, _, hWx, Wa4, Wb71⟩
    have N4 : sj_N n2 n4' := d4.N.trans (sj_N.mk e2 e3 (fun c h1 h2 => e5 c (by omega)) (fun c _ _ => by rw [e4]) (fun f _ => by rw [e5 66 (by omega)]))
    have q66 : ∀ f, f ≠ 6 → f ≠ 7 → f ≠ 11 → n4'.I 66 f = n2.I 66 f := fun f h1 h2 h3 => by rw [e5 66 (by omega)]; exact d4.I6 f h1 h2 h3
    have T3 : m3.T = m2.T := c3.T
    have T3l : m3.T.length < 700100 := by rw [T3, T2, sj_txl]; exact T1l
    have cls2 : sf_16 mc = sh_bh (sf_43 m3) (fun m13 => sf_16_74 (m13.I 2 9) ⟨m13.T, sh_u2 m13.I 0 12 (m13.I 2 10), m13.J, m13.s⟩) fun _ m13 => sh_bh (sf_78 m13) (fun m14 => sf_16_74 (m14.I 2 9) ⟨m14.T, sh_u2 m14.I 0 12 (m14.I 2 10), m14.J, m14.s⟩) fun _ m14 => sf_16_74 0 ⟨m14.T, sh_u2 m14.I 0 13 1, m14.J, m14.s⟩ := by
      rw [cls, c1]
      rfl
    have md2 : sf_246 mm = (sh_bn (sf_255 n4') fun r1 m11 => if r1 = true then (sh_bn (sf_278 m11) fun r2 m12 => if r2 = true then (sh_bn (sf_282 m12) fun r3 m13 => if r3 = true then sf_246_88 true m13 else sf_246_87 m13) else sf_246_87 m12) else sf_246_87 m11) := by
      rw [e246, d1, sh_bn_some, if_pos rfl, e1]
    have g3 : sh_GS [(0, 0, 0), (0, 0, 0)] m3 := g2.cong c3.T (fun c hc => c3.I c (by omega) (by omega) (by omega) (by omega) (by omega))
    have K3 : sj_K 0 mc m3 := K02.trans c3.K
    have z3 : m3.I 0 = m1.I 0 := (c3.I 0 (by omega) (by omega) (by omega) (by omega) (by omega)).trans z0
    rcases sh_parse hT hWc Wq (by omega) with ⟨z, mcf, mmf, p1, p2, p3, ⟨y, p4, p5⟩, p6, p7, p8⟩ | ⟨m4, n5, p1, p2, p3, p4, p5⟩
    · have j66 : ∀ f, f ≠ 6 → f ≠ 7 → f ≠ 11 → f ≠ 20 → f ≠ 21 → f ≠ 31 → f ≠ 36 → f ≠ 37 → f ≠ 38 → f ≠ 39 → mmf.I 66 f = n2.I 66 f := fun f h1 h2 h3 h4 h5 h6 h7 h8 h9 h10 => (p6.I6 f h1 h2 h4 h5 h6 h7 h8 h9 h10).trans (q66 f h1 h2 h3)
      refine bad (k := 2) (q := Int32.ofNat (P z)) (y := y) (x := mmf) (gs' := [(0, 0, 0), (0, 0, 0)]) (g3.cong p4.T (fun c hc => p4.I c (by omega))) (K3.trans p4.K) ((p4.I 0 (by omega)).trans z3) (by rw [p4.T]; omega) (N4.trans p6.N) ((j66 0 (by omega) (by omega) (by omega) (by omega) (by omega) (by omega) (by omega) (by omega) (by omega) (by omega)).trans r0) ((j66 2 (by omega) (by omega) (by omega) (by omega) (by omega) (by omega) (by omega) (by omega) (by omega) (by omega)).trans r2) ((j66 5 (by omega) (by omega) (by omega) (by omega) (by omega) (by omega) (by omega) (by omega) (by omega) (by omega)).trans r5) ((j66 80 (by omega) (by omega) (by omega) (by omega) (by omega) (by omega) (by omega) (by omega) (by omega) (by omega)).trans r80) p7 p8 ?_ ?_
      · rw [cls2, p2, p5]
        rfl
      · rw [md2, p3, sh_bn_some, if_neg (by decide)]
    -- heads
    obtain ⟨F, pf, cf, gf, ht, pf0, cf0, gf0, hF, h31, h12, h11, hFs, nI, w, c2', g2', a36, w0, hIn, hSl, h10, l1, l2', l3, l4, l5⟩ := p5
    obtain ⟨m5, hm5⟩ : ∃ m5 : sh_X, (m4.T, sh_u2 (sh_u2 (sh_u2 (sh_u2 (sh_u2 (sh_u2 (sh_u2 (sh_u2 (sh_u2 (sh_u2 (sh_u2 (sh_u2 (sh_u2 (sh_u2 m4.I 44 4 2) 45 0 0) 45 1 1) 53 4 0) 53 5 0) 48 4 0) 41 11 0) 41 12 0) 41 14 0) 41 15 1) 41 16 0) 41 17 0) 41 18 (Int32.ofNat F)) 41 13 (Int32.ofNat (cf F)), m4.J, m4.s) = m5 := ⟨_, rfl⟩
    have k5 : ∀ c, c ≠ 41 → c ≠ 44 → c ≠ 45 → c ≠ 48 → c ≠ 53 → m5.I c = m4.I c := fun c h1 h2 h3 h4 h5 => by
      rw [← hm5]
      show sh_u2 (sh_u2 (sh_u2 (sh_u2 (sh_u2 (sh_u2 (sh_u2 (sh_u2 (sh_u2 (sh_u2 (sh_u2 (sh_u2 (sh_u2 (sh_u2 m4.I 44 4 2) 45 0 0) 45 1 1) 53 4 0) 53 5 0) 48 4 0) 41 11 0) 41 12 0) 41 14 0) 41 15 1) 41 16 0) 41 17 0) 41 18 (Int32.ofNat F)) 41 13 (Int32.ofNat (cf F)) c = m4.I c
      rw [sh_u2_cell h1, sh_u2_cell h1, sh_u2_cell h1, sh_u2_cell h1, sh_u2_cell h1, sh_u2_cell h1, sh_u2_cell h1, sh_u2_cell h1, sh_u2_cell h4, sh_u2_cell h5, sh_u2_cell h5, sh_u2_cell h3, sh_u2_cell h3, sh_u2_cell h2]
    have T5 : m5.T = m4.T := by rw [← hm5]
    have e79 : sf_79 m4 = some ((), m5) := by
      unfold sf_79 sf_80 sf_81
      rw [sh_bn_some, sh_bn_some, ← hm5]
      have q12 : sh_X.I (m4.T, sh_u2 (sh_u2 (sh_u2 (sh_u2 (sh_u2 m4.I 44 4 2) 45 0 0) 45 1 1) 53 4 0) 53 5 0, m4.J, m4.s) 28 12 = Int32.ofNat F := by
        rw [se_Ic (by omega), sh_u2_cell (by omega), sh_u2_cell (by omega), sh_u2_cell (by omega), sh_u2_cell (by omega)]; exact h12
      have q11 : sh_X.I (m4.T, sh_u2 (sh_u2 (sh_u2 (sh_u2 (sh_u2 m4.I 44 4 2) 45 0 0) 45 1 1) 53 4 0) 53 5 0, m4.J, m4.s) 28 11 = Int32.ofNat (cf F) := by
        rw [se_Ic (by omega), sh_u2_cell (by omega), sh_u2_cell (by omega), sh_u2_cell (by omega), sh_u2_cell (by omega)]; exact h11
      show some ((), (m4.T, sh_u2 (sh_u2 (sh_u2 (sh_u2 (sh_u2 (sh_u2 (sh_u2 (sh_u2 (sh_u2 (sh_u2 (sh_u2 (sh_u2 (sh_u2 (sh_u2 m4.I 44 4 2) 45 0 0) 45 1 1) 53 4 0) 53 5 0) 48 4 0) 41 11 0) 41 12 0) 41 14 0) 41 15 1) 41 16 0) 41 17 0) 41 18 (sh_X.I (m4.T, sh_u2 (sh_u2 (sh_u2 (sh_u2 (sh_u2 m4.I 44 4 2) 45 0 0) 45 1 1) 53 4 0) 53 5 0, m4.J, m4.s) 28 12)) 41 13 (sh_X.I (m4.T, sh_u2 (sh_u2 (sh_u2 (sh_u2 (sh_u2 m4.I 44 4 2) 45 0 0) 45 1 1) 53 4 0) 53 5 0, m4.J, m4.s) 28 11), m4.J, m4.s)) = _
      rw [q12, q11]
    have Wc4 : sh_Wc l.length K P V m4 := hWc.same (by rw [p3.I 2 (by omega)]) (p3.I 3 (by omega)) (p3.I 4 (by omega)) (by rw [p3.J])
    have Wc5 : sh_Wc l.length K P V m5 := Wc4.same (by rw [k5 2 (by omega) (by omega) (by omega) (by omega) (by omega)]) (k5 3 (by omega) (by omega) (by omega) (by omega) (by omega)) (k5 4 (by omega) (by omega) (by omega) (by omega) (by omega)) (by rw [← hm5])
    have We5 : sh_We l.length K P V n5 := We.same (p4.I 71 (by omega) (by omega)) (p4.I 68 (by omega) (by omega)) (p4.I 69 (by omega) (by omega)) (p4.I 70 (by omega) (by omega))
    have g5 : sh_GS [(0, 0, 0), (0, 0, 0)] m5 := (g3.cong p3.T (fun c hc => p3.I c (by omega))).cong T5 (fun c hc => k5 c (by omega) (by omega) (by omega) (by omega) (by omega))
    have K5 : sj_K 0 mc m5 := (K3.trans p3.K).trans (sj_K.of T5 (by rw [← hm5]) (fun c _ h => k5 c (by omega) (by omega) (by omega) (by omega) (by omega)) (k5 1 (by omega) (by omega) (by omega) (by omega) (by omega)) (fun _ _ => by rw [← hm5]))
    have T5l : m5.T.length < 700100 := by rw [T5, p3.T]; exact T3l
    have z5 : m5.I 0 = m1.I 0 := (k5 0 (by omega) (by omega) (by omega) (by omega) (by omega)).trans ((p3.I 0 (by omega)).trans z3)
    have j66 : ∀ f, f ≠ 6 → f ≠ 7 → f ≠ 11 → f ≠ 20 → f ≠ 21 → f ≠ 31 → f ≠ 36 → f ≠ 37 → f ≠ 38 → f ≠ 39 → n5.I 66 f = n2.I 66 f := fun f h1 h2 h3 h4 h5 h6 h7 h8 h9 h10 => (p4.I6 f h1 h2 h4 h5 h6 h7 h8 h9 h10).trans (q66 f h1 h2 h3)
    have kc5 : ∀ x, 28 ≤ x → x ≤ 38 → m5.I x = m4.I x := fun x h1 h2 => k5 x (by omega) (by omega) (by omega) (by omega) (by omega)
    have hd0 : ∀ f, f < F → ∃ n' nt rt t, sh_Hd0 l.length K n5.I m5.I f n' nt rt t := fun f hf => by
      obtain ⟨n', nt, rt, t, hd⟩ := sj_hd (hFs f hf).2.2.2
      exact ⟨n', nt, rt, t, sh_Hd0.mk hd.a79 (by rw [kc5 29 (by omega) (by omega)]; exact hd.c29) hd.k1 hd.nN hd.a80 (by rw [kc5 33 (by omega) (by omega)]; exact hd.c33) hd.n8 (hd.pr.mono (fun _ _ => ⟨rfl, rfl, rfl⟩) (fun k _ => by rw [kc5 34 (by omega) (by omega)])) hd.tN (by rw [kc5 31 (by omega) (by omega)]; exact hd.c31) hd.ty hd.rN⟩
    have cls3 : sf_16 mc = sh_bh (sh_bt (sf_82_2 (Int32.ofNat 0) m5) (fun m => (none, m)) fun _ m12 => sf_78_10 0 m12) (fun m14 => sf_16_74 (m14.I 2 9) ⟨m14.T, sh_u2 m14.I 0 12 (m14.I 2 10), m14.J, m14.s⟩) fun _ m14 => sf_16_74 0 ⟨m14.T, sh_u2 m14.I 0 13 1, m14.J, m14.s⟩ := by
      rw [cls2, p1]
      show sh_bh (sf_78 m4) _ _ = _
      unfold sf_78 sf_82
      rw [e79, sh_bn_some]
      rfl
    have md3 : sf_246 mm = (sh_bn (sf_278_2 (Int32.ofNat 0) n5) fun r2 m12 => if r2 = true then (sh_bn (sf_282 m12) fun r3 m13 => if r3 = true then sf_246_88 true m13 else sf_246_87 m13) else sf_246_87 m12) := by
      rw [md2, p2, sh_bn_some, if_pos rfl]
      rfl
    have N5 : sj_N n2 n5 := N4.trans p4.N
    rcases sh_heads (F := F) (mc0 := m5) (mm := n5) hT hF We5 Wc5 (by rw [kc5 28 (by omega) (by omega)]; exact h12) h31 hd0 (by omega) F 0 m5 (by omega) (sh_Hc.refl m5) (fun f hf => absurd hf (by omega)) with ⟨q, z, y, q1, q2, q3, q4⟩ | ⟨mcH, q1, q2, q3, q4⟩
    · have f66 : ∀ f, f ≠ 6 → f ≠ 7 → (sh_mft q (Int32.ofNat (P z)) n5).I 66 f = n5.I 66 f := fun f h1 h2 => by
        show sh_u2 (sh_u2 n5.I 66 6 q) 66 7 (Int32.ofNat (P z)) 66 f = _
        rw [sh_u2_idx h2, sh_u2_idx h1]
      refine bad (k := q) (q := Int32.ofNat (P z)) (y := y) (x := sh_mft q (Int32.ofNat (P z)) n5) (gs' := [(0, 0, 0), (0, 0, 0)]) (g5.cong q3.T (fun c hc => q3.I c (by omega) (by omega))) (K5.trans (sj_K.of q3.T q3.s (fun c _ h => q3.I c (by omega) (by omega)) (q3.I 1 (by omega) (by omega)) (fun _ _ => by rw [q3.J]))) ((q3.I 0 (by omega) (by omega)).trans z5) (by rw [q3.T]; omega) (N5.trans sh_mftN) ((f66 0 (by omega) (by omega)).trans ((j66 0 (by omega) (by omega) (by omega) (by omega) (by omega) (by omega) (by omega) (by omega) (by omega) (by omega)).trans r0)) ((f66 2 (by omega) (by omega)).trans ((j66 2 (by omega) (by omega) (by omega) (by omega) (by omega) (by omega) (by omega) (by omega) (by omega) (by omega)).trans r2)) ((f66 5 (by omega) (by omega)).trans ((j66 5 (by omega) (by omega) (by omega) (by omega) (by omega) (by omega) (by omega) (by omega) (by omega) (by omega)).trans r5)) ((f66 80 (by omega) (by omega)).trans ((j66 80 (by omega) (by omega) (by omega) (by omega) (by omega) (by omega) (by omega) (by omega) (by omega) (by omega)).trans r80)) sh_mft_67.1 sh_mft_67.2 ?_ ?_
      · rw [cls3, q2]
        rfl
      · rw [md3, q4, sh_bn_some, if_neg (by decide)]
    -- the program
    have TH : mcH.T = m5.T := q2.T
    have kH : ∀ x, x ≠ 32 → x ≠ 35 → mcH.I x = m5.I x := fun x h1 h2 => q2.I x h1 h2
    have KH : sj_K 0 mc mcH := K5.trans (sj_K.of q2.T q2.s (fun c _ h => kH c (by omega) (by omega)) (kH 1 (by omega) (by omega)) (fun _ _ => by rw [q2.J]))
    have zH : mcH.I 0 = m1.I 0 := (kH 0 (by omega) (by omega)).trans z5
    have gH : sh_GS [(0, 0, 0), (0, 0, 0)] mcH := g5.cong q2.T (fun c hc => kH c (by omega) (by omega))
    have THl : mcH.T.length < 700100 := by rw [TH]; exact T5l
    obtain ⟨C, hCd⟩ : ∃ C : Nat → Nat → Int32, C = fun x => if x = 32 ∨ x = 35 then mcH.I x else m4.I x := ⟨_, rfl⟩
    have C4 : ∀ x, x ≠ 32 → x ≠ 35 → C x = m4.I x := fun x h1 h2 => by rw [hCd]; exact if_neg (by omega)
    have CH : ∀ x, 28 ≤ x → x ≤ 38 → mcH.I x = C x := fun x h1 h2 => by
      by_cases h : x = 32 ∨ x = 35
      · rw [hCd]; exact (if_pos h).symm
      · rw [C4 x (by omega) (by omega), kH x (by omega) (by omega), kc5 x h1 h2]
    have cc : ∀ y, C 36 y = m4.I 36 y ∧ C 37 y = m4.I 37 y ∧ C 38 y = m4.I 38 y := fun y => by rw [C4 36 (by omega) (by omega), C4 37 (by omega) (by omega), C4 38 (by omega) (by omega)]; exact ⟨rfl, rfl, rfl⟩
    have hFs2 : sh_Fs l.length K V n5.I C ht F pf cf gf := fun f hf => by
      obtain ⟨f1, f2, f3, f4⟩ := hFs f hf
      exact ⟨f1, f2, f3, sj_fn f4 C4⟩
    have hHds2 : sh_Hds l.length K V n5.I C F := fun f hf => by
      obtain ⟨n', nt, rt, t, hd, f2, f3, f4, f5⟩ := q3 f hf
      refine ⟨n', nt, rt, t, sh_Hd0.mk hd.a79 (by rw [← CH 29 (by omega) (by omega)]; exact hd.c29) hd.k1 hd.nN hd.a80 (by rw [← CH 33 (by omega) (by omega)]; exact hd.c33) hd.n8 (hd.pr.mono (fun _ _ => ⟨rfl, rfl, rfl⟩) (fun k _ => by rw [CH 34 (by omega) (by omega)])) hd.tN (by rw [← CH 31 (by omega) (by omega)]; exact hd.c31) hd.ty hd.rN, fun j hj => by rw [← CH 35 (by omega) (by omega)]; exact f2 j hj, by rw [← CH 32 (by omega) (by omega)]; exact f3, f4, f5⟩
    have hIn2 : sh_In K n5.I C (cf F) nI w := fun x hx => by
      obtain ⟨f1, f2, f3, f4⟩ := hIn x hx
      exact ⟨f1, by rw [(cc _).1]; exact f2, by rw [(cc _).2.1]; exact f3, f4⟩
    have hSl2 : sh_Sl n5.I (sp_S l.length K V n5.I C ht) (gf F) g2' 0 (n5.I 66 37) (cf F + nI) c2' (w nI) l.length := sh_Sl_fr hSl (Nat.le_refl _) (Nat.le_refl _) (Nat.le_refl _) (Nat.le_refl _) (Nat.le_refl _) (fun _ _ _ _ _ _ => rfl) (fun y _ _ => cc y)
    have i41 : m5.I 41 11 = 0 ∧ m5.I 41 12 = 0 ∧ m5.I 41 13 = Int32.ofNat (cf F) ∧ m5.I 41 14 = 0 ∧ m5.I 41 15 = 1 ∧ m5.I 41 16 = 0 ∧ m5.I 41 17 = 0 ∧ m5.I 41 18 = Int32.ofNat F ∧ m5.I 44 4 = 2 ∧ m5.I 45 0 = 0 ∧ m5.I 45 1 = 1 ∧ m5.I 53 4 = 0 ∧ m5.I 53 5 = 0 ∧ m5.I 48 4 = 0 := by
      rw [← hm5]
      refine ⟨?_, ?_, ?_, ?_, ?_, ?_, ?_, ?_, ?_, ?_, ?_, ?_, ?_, ?_⟩ <;> simp [sh_X.I, sh_u2]
    obtain ⟨u1, u2, u3, u4, u5, u6, u7, u8, u9, u10, u11, u12, u13, u14⟩ := i41
    have h41 : mcH.I 41 = m5.I 41 := kH 41 (by omega) (by omega)
    have h45 : mcH.I 45 = m5.I 45 := kH 45 (by omega) (by omega)
    have h53 : mcH.I 53 = m5.I 53 := kH 53 (by omega) (by omega)
    have WcH : sh_Wc l.length K P V mcH := Wc5.same (by rw [kH 2 (by omega) (by omega)]) (kH 3 (by omega) (by omega)) (kH 4 (by omega) (by omega)) (by rw [q2.J])
    have cH : se_c l.length K P V C [(0, 0, 0), (0, 0, 0)] 2 0 0 0 0 0 0 1 0 0 F mcH := se_c.mk ⟨gH, by rw [kH 44 (by omega) (by omega)]; exact u9, by omega, by omega, ⟨by rw [h45]; exact u10, by show 0 < 2; omega⟩, ⟨by rw [h45]; exact u11, by show 1 < 2; omega⟩⟩ WcH (fun x h1 h2 => CH x h1 h2) (KH.T 46 _ (by omega) (by omega) (by omega) t46) (by rw [kH 48 (by omega) (by omega)]; exact u14) (by rw [h53]; exact u12) (by rw [h53]; exact u13) (by rw [h41]; exact u1) (by rw [h41]; exact u2) (by rw [h41]; exact u4) (by rw [h41]; exact u5) (by rw [h41]; exact u6) (by rw [h41]; exact u7) (by rw [h41]; exact u8)
    have el : ∀ c, 9 ≤ c → c ≤ 27 → mcH.I c = m1.I c := fun c h1 h2 => by
      rw [kH c (by omega) (by omega), k5 c (by omega) (by omega) (by omega) (by omega) (by omega), p3.I c (by omega), c3.I c (by omega) (by omega) (by omega) (by omega) (by omega), k2 c (by omega)]
    have H : sj_H l.length K P V n5.I C pf cf gf w F ht nI c2' g2' mcH := ⟨hT, hF, hFs2, hHds2, by rw [C4 28 (by omega) (by omega)]; exact h12, a36, w0, hIn2, hSl2, by rw [C4 28 (by omega) (by omega)]; exact h10, l1, l2', l3, l5, l4, cH, by rw [h41]; exact u3, fun x hx => by rw [el x (by omega) (by omega)]; exact a9 x hx⟩
    have M : sj_M l.length K P V n5.I F n5 := ⟨We5, fun _ _ _ => rfl, h31, rfl, rfl⟩
    obtain ⟨p, hp, _, _⟩ := sj_p K V w n5.I nI (n5.J 103)
    have cls4 : sf_16 mc = sh_bh (sf_78_10 0 mcH) (fun m14 => sf_16_74 (m14.I 2 9) ⟨m14.T, sh_u2 m14.I 0 12 (m14.I 2 10), m14.J, m14.s⟩) fun _ m14 => sf_16_74 0 ⟨m14.T, sh_u2 m14.I 0 13 1, m14.J, m14.s⟩ := by
      rw [cls3, q1]
      rfl
    have md4 : sf_246 mm = sh_bn (sf_282 n5) fun r3 m13 => if r3 = true then sf_246_88 true m13 else sf_246_87 m13 := by
      rw [md3, q4, sh_bn_some, if_pos rfl]
    rcases sj_do H M hp with ⟨kk, tt, x, y, v1, v2, v3, v4, v5⟩ | ⟨mcE, mmE, gsE, v1, v2, v3, v4, v5, v6, v7, v8, v9, v10⟩
    · obtain ⟨gs', u', hrs⟩ := v3.g
      have f66 : ∀ f, f ≠ 6 → f ≠ 7 → (sh_mft kk (Int32.ofNat (P tt)) y).I 66 f = y.I 66 f := fun f h1 h2 => by
        show sh_u2 (sh_u2 y.I 66 6 kk) 66 7 (Int32.ofNat (P tt)) 66 f = _
        rw [sh_u2_idx h2, sh_u2_idx h1]
      have xl : x.T.length < 800000 := by
        have q := v3.n
        have d1 : 131072 / sh_ln mcH.T (sh_rf mcH.T 9 0) ≤ 131072 / 4096 := by
          obtain ⟨_, _, _, a, b, d, nn, gv⟩ := gH
          rw [gv.ra, gv.la]
          exact Nat.div_le_div_left gv.n0 (by omega)
        omega
      have yF : ∀ f, f < 41 ∨ 79 < f → f ≠ 6 → f ≠ 7 → f ≠ 11 → f ≠ 20 → f ≠ 21 → f ≠ 31 → f ≠ 36 → f ≠ 37 → f ≠ 38 → f ≠ 39 → (sh_mft kk (Int32.ofNat (P tt)) y).I 66 f = n2.I 66 f := fun f h0 h1 h2 h3 h4 h5 h6 h7 h8 h9 h10 => (f66 f h1 h2).trans ((v5.F f h0).trans (j66 f h1 h2 h3 h4 h5 h6 h7 h8 h9 h10))
      refine bad (k := kk) (q := Int32.ofNat (P tt)) (y := x) (x := sh_mft kk (Int32.ofNat (P tt)) y) (gs' := gs') hrs.1 (KH.trans v3.K) ((v3.I 0 (by omega) (by omega)).trans zH) xl ((N5.trans v5.N).trans sh_mftN) ((yF 0 (by omega) (by omega) (by omega) (by omega) (by omega) (by omega) (by omega) (by omega) (by omega) (by omega) (by omega)).trans r0) ((yF 2 (by omega) (by omega) (by omega) (by omega) (by omega) (by omega) (by omega) (by omega) (by omega) (by omega) (by omega)).trans r2) ((yF 5 (by omega) (by omega) (by omega) (by omega) (by omega) (by omega) (by omega) (by omega) (by omega) (by omega) (by omega)).trans r5) ((yF 80 (by omega) (by omega) (by omega) (by omega) (by omega) (by omega) (by omega) (by omega) (by omega) (by omega) (by omega)).trans r80) sh_mft_67.1 sh_mft_67.2 ?_ ?_
      · rw [cls4, v2]
        rfl
      · rw [md4, v4, sh_bn_some, if_neg (by decide)]
    -- it is compiled
    obtain ⟨z, hz⟩ : ∃ z : sh_X, (mcE.T, sh_u2 (sh_u2 mcE.I 0 13 1) 0 10 0, mcE.J, mcE.s) = z := ⟨_, rfl⟩
    have zI : ∀ c, c ≠ 0 → z.I c = mcE.I c := fun c hc => by rw [← hz, se_Ic hc, sh_u2_cell hc]
    have z0' : ∀ f, f ≠ 10 → f ≠ 13 → z.I 0 f = m1.I 0 f := fun f h1 h2 => by rw [← hz, se_In (by omega), sh_u2_idx h2, v3.I 0 (by omega) (by omega), zH]
    obtain ⟨x1, hx1⟩ : ∃ x1 : sh_X, (mmE.T, sh_u2 (sh_u2 mmE.I 66 4 (sh_b2 true)) 66 7 (-1), mmE.J, mmE.s) = x1 := ⟨_, rfl⟩
    have xI : ∀ c, c ≠ 66 → x1.I c = mmE.I c := fun c hc => by rw [← hx1, se_Ic hc, sh_u2_cell hc]
    have xF : ∀ f, f ≠ 4 → f ≠ 7 → x1.I 66 f = mmE.I 66 f := fun f h1 h2 => by rw [← hx1, se_In (by omega), sh_u2_idx h1]
    have e66 : mmE.I 66 6 = 0 := by
      rw [v4.F 6 (by omega), p4.e6, e5 66 (by omega), d4.e6, ← hn2, se_In (by omega), sh_u2_same]
    have xr : ∀ f, f < 41 ∨ 79 < f → f ≠ 4 → f ≠ 6 → f ≠ 7 → f ≠ 11 → f ≠ 20 → f ≠ 21 → f ≠ 31 → f ≠ 36 → f ≠ 37 → f ≠ 38 → f ≠ 39 → x1.I 66 f = n2.I 66 f := fun f h0 h00 h1 h2 h3 h4 h5 h6 h7 h8 h9 h10 => (xF f h00 h2).trans ((v4.F f h0).trans (j66 f h1 h2 h3 h4 h5 h6 h7 h8 h9 h10))
    have mE : sf_246 mm = some (0, x1) := by
      rw [md4, v2, sh_bn_some, if_pos rfl]
      show some (sh_X.I (mmE.T, sh_u2 (sh_u2 mmE.I 66 4 (sh_b2 true)) 66 7 (-1), mmE.J, mmE.s) 66 6, (mmE.T, sh_u2 (sh_u2 mmE.I 66 4 (sh_b2 true)) 66 7 (-1), mmE.J, mmE.s)) = _
      rw [hx1, xF 6 (by omega) (by omega), e66]
    have gE : sh_GS gsE z := v5.cong (by rw [← hz]) (fun c hc => zI c (by omega))
    have KE : sj_K 0 mc z := (KH.trans v3.K).trans (sj_K.of (by rw [← hz]) (by rw [← hz]) (fun c _ h => zI c (by omega)) (zI 1 (by omega)) (fun _ _ => by rw [← hz]))
    have Nx1 : sj_N n2 x1 := (N5.trans v4.N).trans (by rw [← hx1]; exact sj_N.mk rfl rfl (fun c a _ => by rw [se_Ic a, sh_u2_cell a]) (fun _ _ _ => rfl) (fun f a => by rw [se_In (by omega), sh_u2_idx (by omega)]))
    have M2 : sj_M l.length K P V n5.I F x1 := ⟨We5.same (by rw [xI 71 (by omega), v4.I 71 (by omega) (by omega)]) (by rw [xI 68 (by omega), v4.I 68 (by omega) (by omega)]) (by rw [xI 69 (by omega), v4.I 69 (by omega) (by omega)]) (by rw [xI 70 (by omega), v4.I 70 (by omega) (by omega)]), fun x h1 h2 => by rw [xI x (by omega), v4.I x (by omega) (by omega)], by rw [xF 31 (by omega) (by omega), v4.F 31 (by omega)]; exact h31, by rw [xF 36 (by omega) (by omega), v4.F 36 (by omega)], by rw [xF 37 (by omega) (by omega), v4.F 37 (by omega)]⟩
    have R : sj_R z x1 := ⟨_, _, _, _, _, _, _, _, _, _, _, _, _, _, _, mcH, mcE, H, M2, v1, sj_Q.mk (fun c t _ _ _ h => by rw [← hz]; exact h) (fun c hc => zI c (by omega))⟩
    obtain ⟨W, f, I1, I2⟩ := v8
    obtain ⟨n3', W3, f3, o1, o2, o3, o4⟩ := v10
    refine ⟨0, z, x1, ?_, mE, sj_Z.mk (KE.more (by omega)) (N2.trans Nx1) (by rw [← hz]; exact se_Is) (by rw [z0' 11 (by omega) (by omega), a4, hc11, sh_nI1]) (by rw [z0' 14 (by omega) (by omega)]; exact a6) ?_ ((xr 0 (by omega) (by omega) (by omega) (by omega) (by omega) (by omega) (by omega) (by omega) (by omega) (by omega) (by omega) (by omega)).trans r0) ((xr 2 (by omega) (by omega) (by omega) (by omega) (by omega) (by omega) (by omega) (by omega) (by omega) (by omega) (by omega) (by omega)).trans r2) ((xr 5 (by omega) (by omega) (by omega) (by omega) (by omega) (by omega) (by omega) (by omega) (by omega) (by omega) (by omega) (by omega)).trans r5) ((xr 80 (by omega) (by omega) (by omega) (by omega) (by omega) (by omega) (by omega) (by omega) (by omega) (by omega) (by omega) (by omega)).trans r80) (Or.inr ⟨?_, ?_, R, fun X => if X < 2 then se_en K V w n5.I X nI else n3', fun X => if X < 2 then W X else W3, fun X => if X < 2 then f X else f3, gsE, fun X hX => ?_, gE, fun X hX k hk => ?_, fun k hk => ?_⟩)⟩
    · rw [cls4, v1, ← hz]
      rfl
    · rw [z0' 12 (by omega) (by omega), a7, ← hx1]
      exact se_Is.symm
    · rw [← hz, se_In (by omega), sh_u2_same]
    · rw [← hx1, se_In (by omega), sh_u2_same]
      rfl
    · by_cases h2' : X < 2
      · obtain ⟨y1, y2, y3, y4, y5⟩ := I1 X h2'
        simp only [if_pos h2']
        refine ⟨y1.cong (zI _ (by omega)) (zI _ (by omega)) (zI _ (by omega)) (zI _ (by omega)), by rw [xI 99 (by omega)]; exact y3, by rw [xI 102 (by omega), y2]; exact y4, fun k hk => by rw [xI 101 (by omega)]; exact (y5 k hk).1⟩
      · have X2 : X = 2 := by omega
        subst X2
        simp only [if_neg h2']
        refine ⟨o1.cong (zI _ (by omega)) (zI _ (by omega)) (zI _ (by omega)) (zI _ (by omega)), by rw [xI 99 (by omega)]; exact o2, by rw [xI 102 (by omega)]; exact o3, fun k hk => by rw [xI 101 (by omega)]; exact (o4 k hk).1⟩
    · simp only [if_pos hX] at hk
      rw [← hz]
      exact v9 X hX k hk
    · rw [← hx1]
      show mmE.J 103 k = 0
      rw [v4.J 103 (by omega) (by omega), p4.J, e4, d4.J, ← hn2]
      exact b14 k hk
