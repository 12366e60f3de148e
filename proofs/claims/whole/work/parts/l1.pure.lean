/-! CIRCUITS: both take a circuit -/
theorem sj_t5l {T : List sh_Tg} : (sh_tx58 T).length = T.length := by unfold sh_tx58; exact List.length_set
theorem sj_t5o {T : List sh_Tg} {c : Nat} (h : c ≠ 58) : (sh_tx58 T)[c]? = T[c]? := by unfold sh_tx58; exact List.getElem?_set_ne (Ne.symm h)
theorem sj_t5r {T : List sh_Tg} (h : 58 < T.length) : sh_rf (sh_tx58 T) 58 5 = 1 := by
  have e : (sh_tx58 T)[58]? = some (.inr (10, [.inr (.ref 10), .inr (.ref 14), .inr (.ref 19), .inr (.ref 24), .inr (.ref 60), .inr (.ref 2), .inl 0, .inl 0, .inl 0, .inl 0, .inl 0, .inl 0])) := by
    unfold sh_tx58
    rw [List.getElem?_set_self h]
  unfold sh_rf
  rw [e]
  rfl
/-- an exception of a circuit -/
theorem sj_ftk {q : Int32} {gs : sh_gL} {m : sh_X} (h : sh_GS gs m) (hl : m.T.length < 800000) : sj_K 1 m (sj_ft q m) ∧ sh_GS gs (sj_ft q m) := by
  obtain ⟨f1, f2⟩ := sj_flt (k := 0) (p := 0) h hl
  have eI : ∀ c, c ≠ 2 → c ≠ 58 → (sj_ft q m).I c = (sh_flt 0 0 m).I c := fun c h1 h2 => by
    show sh_u2 m.I 58 11 q c = sh_u2 (sh_u2 m.I 2 9 0) 2 10 0 c
    rw [sh_u2_cell h2, sh_u2_cell h1, sh_u2_cell h1]
  exact ⟨f1.trans (sj_K.of (m := sh_flt 0 0 m) (m2 := sj_ft q m) rfl rfl (fun c _ b => eI c (by omega) (by omega)) (eI 1 (by omega) (by omega)) (fun _ _ => rfl)), f2.cong rfl (fun c hc => eI c (by omega) (by omega))⟩
/-- what a circuit leaves of the model as it was -/
def sj_N2 (m m2 : sh_X) : Prop := (m2.T = m.T) ∧ (m2.s = m.s) ∧ (∀ c, c ≠ 66 → (c < 68 ∨ 123 < c ∨ c = 122) → m2.I c = m.I c) ∧ (∀ c, (c < 92 ∨ 116 < c) → c ≠ 66 → m2.J c = m.J c) ∧ (m2.I 66 1 = m.I 66 1)
theorem sj_N2.T {m m2 : sh_X} (h : sj_N2 m m2) : m2.T = m.T := h.1
theorem sj_N2.s {m m2 : sh_X} (h : sj_N2 m m2) : m2.s = m.s := h.2.1
theorem sj_N2.I {m m2 : sh_X} (h : sj_N2 m m2) : ∀ c, c ≠ 66 → (c < 68 ∨ 123 < c ∨ c = 122) → m2.I c = m.I c := h.2.2.1
theorem sj_N2.J {m m2 : sh_X} (h : sj_N2 m m2) : ∀ c, (c < 92 ∨ 116 < c) → c ≠ 66 → m2.J c = m.J c := h.2.2.2.1
theorem sj_N2.F {m m2 : sh_X} (h : sj_N2 m m2) : m2.I 66 1 = m.I 66 1 := h.2.2.2.2
theorem sj_N2.mk {m m2 : sh_X} (T : m2.T = m.T) (s : m2.s = m.s) (I : ∀ c, c ≠ 66 → (c < 68 ∨ 123 < c ∨ c = 122) → m2.I c = m.I c) (J : ∀ c, (c < 92 ∨ 116 < c) → c ≠ 66 → m2.J c = m.J c) (F : m2.I 66 1 = m.I 66 1) : sj_N2 m m2 := ⟨T, s, I, J, F⟩
theorem sj_N.two {m m2 : sh_X} (h : sj_N m m2) : sj_N2 m m2 := sj_N2.mk h.T h.s (fun c a b => h.I c a (by omega)) h.J (h.F 1 (Or.inl rfl))
/-- what both have behind a circuit -/
def sj_Z2 (kc : Nat) (r : Int32) (mc mm mc2 mm2 : sh_X) : Prop := (sj_K 1 mc mc2) ∧ (sj_N2 mm mm2) ∧ (mc2.I 0 10 = 0) ∧ (mc2.I 0 11 = Int32.ofNat (kc + 1)) ∧ (mc2.I 0 14 = 0) ∧ (mc2.I 0 12 = mm2.I 66 7) ∧ (mm2.I 66 0 = 0) ∧ (mm2.I 66 2 = 0) ∧ (mm2.I 66 5 = 0) ∧ (mm2.I 66 80 = Int32.ofNat (kc + 1)) ∧ ((mc2.I 0 13 = 0 ∧ mm2.I 66 4 = 0 ∧ ∃ gs, sh_GS gs mc2) ∨ (mc2.I 0 13 = 2 ∧ mm2.I 66 4 = 2 ∧ ∃ a b o nw ng f gs, sj_Y a b o nw ng f gs mc2 mm2 ∧ (∀ k, k < sj_n a → mc2.J 16 k = 0) ∧ (∀ k, k < sj_n b → mc2.J 21 k = 0) ∧ ∀ k, k < 512 → mm2.J 103 k = 0))
theorem sj_Z2.k {kc : Nat} {r : Int32} {mc mm mc2 mm2 : sh_X} (h : sj_Z2 kc r mc mm mc2 mm2) : sj_K 1 mc mc2 := h.1
theorem sj_Z2.n {kc : Nat} {r : Int32} {mc mm mc2 mm2 : sh_X} (h : sj_Z2 kc r mc mm mc2 mm2) : sj_N2 mm mm2 := h.2.1
theorem sj_Z2.c10 {kc : Nat} {r : Int32} {mc mm mc2 mm2 : sh_X} (h : sj_Z2 kc r mc mm mc2 mm2) : mc2.I 0 10 = 0 := h.2.2.1
theorem sj_Z2.c11 {kc : Nat} {r : Int32} {mc mm mc2 mm2 : sh_X} (h : sj_Z2 kc r mc mm mc2 mm2) : mc2.I 0 11 = Int32.ofNat (kc + 1) := h.2.2.2.1
theorem sj_Z2.c14 {kc : Nat} {r : Int32} {mc mm mc2 mm2 : sh_X} (h : sj_Z2 kc r mc mm mc2 mm2) : mc2.I 0 14 = 0 := h.2.2.2.2.1
theorem sj_Z2.pl {kc : Nat} {r : Int32} {mc mm mc2 mm2 : sh_X} (h : sj_Z2 kc r mc mm mc2 mm2) : mc2.I 0 12 = mm2.I 66 7 := h.2.2.2.2.2.1
theorem sj_Z2.m0 {kc : Nat} {r : Int32} {mc mm mc2 mm2 : sh_X} (h : sj_Z2 kc r mc mm mc2 mm2) : mm2.I 66 0 = 0 := h.2.2.2.2.2.2.1
theorem sj_Z2.m2_ {kc : Nat} {r : Int32} {mc mm mc2 mm2 : sh_X} (h : sj_Z2 kc r mc mm mc2 mm2) : mm2.I 66 2 = 0 := h.2.2.2.2.2.2.2.1
theorem sj_Z2.m5 {kc : Nat} {r : Int32} {mc mm mc2 mm2 : sh_X} (h : sj_Z2 kc r mc mm mc2 mm2) : mm2.I 66 5 = 0 := h.2.2.2.2.2.2.2.2.1
theorem sj_Z2.m80 {kc : Nat} {r : Int32} {mc mm mc2 mm2 : sh_X} (h : sj_Z2 kc r mc mm mc2 mm2) : mm2.I 66 80 = Int32.ofNat (kc + 1) := h.2.2.2.2.2.2.2.2.2.1
theorem sj_Z2.st {kc : Nat} {r : Int32} {mc mm mc2 mm2 : sh_X} (h : sj_Z2 kc r mc mm mc2 mm2) : (mc2.I 0 13 = 0 ∧ mm2.I 66 4 = 0 ∧ ∃ gs, sh_GS gs mc2) ∨ (mc2.I 0 13 = 2 ∧ mm2.I 66 4 = 2 ∧ ∃ a b o nw ng f gs, sj_Y a b o nw ng f gs mc2 mm2 ∧ (∀ k, k < sj_n a → mc2.J 16 k = 0) ∧ (∀ k, k < sj_n b → mc2.J 21 k = 0) ∧ ∀ k, k < 512 → mm2.J 103 k = 0) := h.2.2.2.2.2.2.2.2.2.2
theorem sj_Z2.mk {kc : Nat} {r : Int32} {mc mm mc2 mm2 : sh_X} (k : sj_K 1 mc mc2) (n : sj_N2 mm mm2) (c10 : mc2.I 0 10 = 0) (c11 : mc2.I 0 11 = Int32.ofNat (kc + 1)) (c14 : mc2.I 0 14 = 0) (pl : mc2.I 0 12 = mm2.I 66 7) (m0 : mm2.I 66 0 = 0) (m2_ : mm2.I 66 2 = 0) (m5 : mm2.I 66 5 = 0) (m80 : mm2.I 66 80 = Int32.ofNat (kc + 1)) (st : (mc2.I 0 13 = 0 ∧ mm2.I 66 4 = 0 ∧ ∃ gs, sh_GS gs mc2) ∨ (mc2.I 0 13 = 2 ∧ mm2.I 66 4 = 2 ∧ ∃ a b o nw ng f gs, sj_Y a b o nw ng f gs mc2 mm2 ∧ (∀ k, k < sj_n a → mc2.J 16 k = 0) ∧ (∀ k, k < sj_n b → mc2.J 21 k = 0) ∧ ∀ k, k < 512 → mm2.J 103 k = 0)) : sj_Z2 kc r mc mm mc2 mm2 := ⟨k, n, c10, c11, c14, pl, m0, m2_, m5, m80, st⟩
theorem sj_circ {kc n : Nat} {gs : sh_gL} {mc mm : sh_X} (g : sh_GS gs mc) (b1 : mc.T[1]? = some (.inl (1, 4000))) (t59 : mc.T[59]? = some (.inl (0, 4000))) (tl : mc.T.length < 700000) (hn : mc.I 0 10 = Int32.ofNat n) (n4 : n ≤ 4000) (hk : kc < 24) (hc11 : mc.I 0 11 = Int32.ofNat kc) (h2 : mm.I 66 2 = Int32.ofNat n) (h80 : mm.I 66 80 = Int32.ofNat kc) (hb : ∀ i, i < n → mm.I 67 i = mc.I 1 i) :
    ∃ r mc2 mm2, sf_199 mc = some (r, mc2) ∧ sf_323 mm = some (r, mm2) ∧ sj_Z2 kc r mc mm mc2 mm2 := by
  obtain ⟨m1, a1, a2, a3, a4, a5, a6, a7, a8, a9, a10⟩ := sj_17 g
  have T1l : m1.T.length < 700100 := by
    have q := a3.n
    have d1 : 131072 / sj_l mc ≤ 131072 / 4096 := by
      obtain ⟨_, _, _, a, b, d, nn, gv⟩ := g
      unfold sj_l
      rw [gv.ra, gv.la]
      exact Nat.div_le_div_left gv.n0 (by omega)
    omega
  have nT1 : 125 ≤ m1.T.length := by obtain ⟨_, _, _, a, b, d, nn, gv⟩ := a2; exact gv.nT
  have t59' : sh_ln (sh_tx58 m1.T) 59 = 4000 := by
    have e : (sh_tx58 m1.T)[59]? = some (.inl (0, 4000)) := by rw [sj_t5o (by omega)]; exact a3.T 59 _ (by omega) (by omega) (by omega) t59
    exact sh_ln_of e
  obtain ⟨m2, hm2⟩ : ∃ m2 : sh_X, (sh_tx58 m1.T, sh_fl (sh_u2 (sh_u2 (sh_u2 m1.I 58 6 (Int32.ofNat n)) 58 7 0) 58 10 0) 59 4000 (-1), m1.J, m1.s) = m2 := ⟨_, rfl⟩
  have i2 : ∀ c i, c ≠ 59 → m2.I c i = sh_u2 (sh_u2 (sh_u2 m1.I 58 6 (Int32.ofNat n)) 58 7 0) 58 10 0 c i := fun c i hc => by
    rw [← hm2]
    show sh_fl (sh_u2 (sh_u2 (sh_u2 m1.I 58 6 (Int32.ofNat n)) 58 7 0) 58 10 0) 59 4000 (-1) c i = _
    unfold sh_fl
    rw [if_neg hc]
  have k2 : ∀ c, c ≠ 58 → c ≠ 59 → m2.I c = m1.I c := fun c h1 h2 => by
    funext i
    rw [i2 c i h2, sh_u2_cell h1, sh_u2_cell h1, sh_u2_cell h1]
  have T2 : m2.T = sh_tx58 m1.T := by rw [← hm2]
  have h59 : ∀ w, w < 4000 → m2.I 59 w = -1 := fun w hw => by
    rw [← hm2]
    show sh_fl (sh_u2 (sh_u2 (sh_u2 m1.I 58 6 (Int32.ofNat n)) 58 7 0) 58 10 0) 59 4000 (-1) 59 w = _
    unfold sh_fl
    rw [if_pos rfl, if_pos hw]
  obtain ⟨g2, l2⟩ := a2.Tg (m2 := m2) (fun c _ h1 _ => by rw [T2]; exact sj_t5o h1) (by rw [T2]; exact sj_t5l) (fun c hc => k2 c (by omega) (by omega))
  have K2 : sj_K 0 m1 m2 := sj_K.mk (fun c t _ _ x h => by rw [T2, sj_t5o x]; exact h) (by rw [l2, T2, sj_t5l]; exact Nat.le_refl _) (by rw [T2, sj_t5l]; exact Nat.le_refl _) (by rw [l2, ← hm2]; exact Nat.le_refl _) (fun c _ h => k2 c (by omega) (by omega)) (k2 1 (by omega) (by omega)) (fun _ _ => by rw [← hm2])
  have K02 : sj_K 0 mc m2 := a3.trans K2
  have z0 : m2.I 0 = m1.I 0 := k2 0 (by omega) (by omega)
  -- the model is cleared
  obtain ⟨n0, hn0⟩ : ∃ n0 : sh_X, (mm.T, sh_u2 mm.I 66 0 0, mm.J, mm.s) = n0 := ⟨_, rfl⟩
  have N0 : sj_N mm n0 := by rw [← hn0]; exact sj_Nw (by omega)
  have z66 : ∀ f, f ≠ 0 → n0.I 66 f = mm.I 66 f := fun f hf => by rw [← hn0]; exact se_In (by omega)
  have zI : ∀ c, c ≠ 66 → n0.I c = mm.I c := fun c hc => by rw [← hn0]; exact se_Ic hc
  obtain ⟨n1, b1', b2, b3, b4, b5, b6, b7, b8, b9, b10, b11, b12, b13, b14⟩ := sj_247 n0
  obtain ⟨n2, hn2⟩ : ∃ n2 : sh_X, (n1.T, sh_u2 n1.I 66 91 0, n1.J, n1.s) = n2 := ⟨_, rfl⟩
  have y66 : ∀ f, f ≠ 91 → n2.I 66 f = n1.I 66 f := fun f h1 => by rw [← hn2]; exact se_In (fun _ => h1)
  have yI : ∀ c, c ≠ 66 → n2.I c = n1.I c := fun c hc => by rw [← hn2]; exact se_Ic hc
  have N2 : sj_N2 mm n2 := sj_N2.mk (by rw [← hn2]; exact b2.trans N0.T) (by rw [← hn2]; exact b3.trans N0.s) (fun c h1 _ => (yI c h1).trans ((b4 c h1).trans (zI c h1))) (fun c h1 h2 => by rw [← hn2]; exact (b13 c (by omega)).trans (N0.J c h1 h2)) ((y66 1 (by omega)).trans ((b12 1 (by omega) (by omega) (by omega) (by omega) (by omega) (by omega) (by omega)).trans (z66 1 (by omega))))
  have r80 : n2.I 66 80 = Int32.ofNat (kc + 1) := (y66 80 (by omega)).trans (b5.trans (by rw [z66 80 (by omega), h80, sh_nI1]))
  have r2 : n2.I 66 2 = 0 := (y66 2 (by omega)).trans b7
  have r5 : n2.I 66 5 = 0 := (y66 5 (by omega)).trans b8
  have r0 : n2.I 66 0 = 0 := (y66 0 (by omega)).trans ((b12 0 (by omega) (by omega) (by omega) (by omega) (by omega) (by omega) (by omega)).trans (by rw [← hn0]; exact se_Is))
  have n67 : n2.I 67 = mm.I 67 := (yI 67 (by omega)).trans ((b4 67 (by omega)).trans (zI 67 (by omega)))
  obtain ⟨B, hB⟩ : ∃ B, sh_by (m2.I 1) n = B := ⟨_, rfl⟩
  have hBm : sh_by (n2.I 67) n = B := by
    rw [← hB]
    funext i
    by_cases hi : i < n
    · rw [sh_by_in hi, sh_by_in hi, n67, hb i hi, K02.I1]
    · rw [sh_by_out hi, sh_by_out hi]
  have P0 : sj_P n B 0 m2 n2 := sj_P.mk (sj_rc.mk (by rw [T2]; exact sj_t5r (by omega)) (by
      have e : m2.T[1]? = some (.inl (1, 4000)) := K02.T 1 _ (by omega) (by omega) (by omega) b1
      exact sh_ln_of e) (by rw [i2 58 6 (by omega), sh_u2_idx (by omega), sh_u2_idx (by omega), sh_u2_same]) (by rw [i2 58 7 (by omega), sh_u2_idx (by omega), sh_u2_same]; rfl)) (sj_rm.mk ((y66 3 (by omega)).trans (b6.trans ((z66 2 (by omega)).trans h2))) (by rw [← hn2]; exact se_Is)) hB hBm (Nat.zero_le _) n4 (by rw [T2, sj_t5l]; omega)
  have e21 : sf_21 (m1.I 0 10) 4000 = Int32.ofNat n := by
    unfold sf_21
    rw [a8, hn, if_neg (show ¬ (4000 : Int32) < Int32.ofNat n from fun q => by have := (sh_nIlt (a := 4000) (by omega) (by omega)).mp q; omega)]
  obtain ⟨C, hC⟩ : ∃ C, C = sf_200 (m1.I 0 10) m1 := ⟨_, rfl⟩
  obtain ⟨M, hM⟩ : ∃ M, M = sf_324 n1 := ⟨_, rfl⟩
  have cls : sf_199 mc = sh_bh C (fun m12 => sf_199_54 2 ⟨m12.T, sh_u2 m12.I 0 12 (m12.I 58 11), m12.J, m12.s⟩) fun _ m12 => sf_199_54 0 ⟨m12.T, sh_u2 m12.I 0 13 2, m12.J, m12.s⟩ := by
    unfold sf_199
    rw [hc11, if_pos (show Int32.ofNat kc < 24 from (sh_nIlt (b := 24) (by omega) (by omega)).mpr hk), a1, sh_bn_some, ← hC]
  have mdl : sf_323 mm = sh_bn M fun r2 m12 => if r2 = true then sf_323_35 r2 2 m12 else sf_323_35 r2 0 m12 := by
    unfold sf_323
    rw [h80, if_neg (show ¬ Int32.ofNat kc = 24 from fun q => by have := (sh_nIeq (b := 24) (by omega) (by omega)).mp q; omega), hn0, b1', sh_bn_some, ← hM]
  unfold sf_200 at hC
  unfold sf_324 at hM
  have e184 : sf_184 59 (-1) (sh_tx58 m1.T, sh_u2 (sh_u2 (sh_u2 m1.I 58 6 (Int32.ofNat n)) 58 7 0) 58 10 0, m1.J, m1.s) = some ((), m2) := by
    unfold sf_184
    rw [← hm2]
    show some ((), (sh_tx58 m1.T, sh_fl _ 59 (sh_ln (sh_tx58 m1.T) 59) (-1), m1.J, m1.s)) = _
    rw [t59']
  rw [e21, e184, sh_bn_some] at hC
  rw [hn2] at hM
  rcases sj_all P0 g2 h59 (fun x hx => by rw [k2 x (by omega) (by omega)]; exact a9 x hx) (by rw [i2 58 10 (by omega), sh_u2_same]) hC hM with ⟨q, y, x, gs', e1, e2, e3, e4, e5⟩ | ⟨y, x, a, b, o, nw, ng, f, gs', e1, e2, e4, e5, Y, j16, j21⟩
  · -- both fail
    have Ky : sj_K 0 mc y := K02.trans e4.K
    have yl : y.T.length < 800000 := by
      have q := Ky.n
      have d1 : 131072 / sj_l mc ≤ 131072 / 4096 := by
        obtain ⟨_, _, _, a, b, d, nn, gv⟩ := g
        unfold sj_l
        rw [gv.ra, gv.la]
        exact Nat.div_le_div_left gv.n0 (by omega)
      omega
    obtain ⟨f1, f2⟩ := sj_ftk (q := Int32.ofNat q) e3 yl
    have e11 : (sj_ft (Int32.ofNat q) y).I 58 11 = Int32.ofNat q := se_Is
    have eI : ∀ c, c ≠ 58 → (sj_ft (Int32.ofNat q) y).I c = y.I c := fun c hc => se_Ic hc
    obtain ⟨z, hz⟩ : ∃ z : sh_X, ((sj_ft (Int32.ofNat q) y).T, sh_u2 (sh_u2 (sj_ft (Int32.ofNat q) y).I 0 12 (Int32.ofNat q)) 0 10 0, (sj_ft (Int32.ofNat q) y).J, (sj_ft (Int32.ofNat q) y).s) = z := ⟨_, rfl⟩
    have zI' : ∀ c, c ≠ 0 → z.I c = (sj_ft (Int32.ofNat q) y).I c := fun c hc => by rw [← hz, se_Ic hc, sh_u2_cell hc]
    have z0' : ∀ f, f ≠ 10 → f ≠ 12 → z.I 0 f = m1.I 0 f := fun f h1 h2 => by rw [← hz, se_In (fun _ => h1), sh_u2_idx h2, eI 0 (by omega), e4.z, z0]
    have Kz : sj_K 0 (sj_ft (Int32.ofNat q) y) z := sj_K.of (by rw [← hz]) (by rw [← hz]) (fun c _ h => zI' c (by omega)) (zI' 1 (by omega)) (fun _ _ => by rw [← hz])
    obtain ⟨x1, hx1⟩ : ∃ x1 : sh_X, ((sh_mft 2 (Int32.ofNat q) x).T, sh_u2 (sh_mft 2 (Int32.ofNat q) x).I 66 4 0, (sh_mft 2 (Int32.ofNat q) x).J, (sh_mft 2 (Int32.ofNat q) x).s) = x1 := ⟨_, rfl⟩
    have xI : ∀ c, c ≠ 66 → x1.I c = x.I c := fun c hc => by rw [← hx1, se_Ic hc]; exact sh_mftI hc
    have xF : ∀ f, f ≠ 4 → f ≠ 6 → f ≠ 7 → x1.I 66 f = x.I 66 f := fun f h1 h2 h3 => by
      rw [← hx1, se_In (fun _ => h1)]
      show sh_u2 (sh_u2 x.I 66 6 2) 66 7 (Int32.ofNat q) 66 f = _
      rw [sh_u2_idx h3, sh_u2_idx h2]
    have x7 : x1.I 66 7 = Int32.ofNat q := by
      rw [← hx1, se_In (by omega)]
      exact sh_mft_67.2
    refine ⟨2, z, x1, ?_, ?_, sj_Z2.mk ((Ky.trans f1).trans Kz) (sj_N2.mk (by rw [← hx1]; exact e5.T.trans N2.T) (by rw [← hx1]; exact e5.s.trans N2.s) (fun c h1 h2 => (xI c h1).trans ((e5.I c h1 h2).trans (N2.I c h1 h2))) (fun c h1 h2 => by rw [← hx1]; show x.J c = _; rw [e5.J]; exact N2.J c h1 h2) ((xF 1 (by omega) (by omega) (by omega)).trans ((e5.F 1 (by omega)).trans N2.F))) (by rw [← hz]; exact se_Is) (by rw [z0' 11 (by omega) (by omega), a4, hc11, sh_nI1]) (by rw [z0' 14 (by omega) (by omega)]; exact a6) (by rw [x7, ← hz, se_In (by omega), sh_u2_same]) (by rw [xF 0 (by omega) (by omega) (by omega), e5.F 0 (by omega)]; exact r0) (by rw [xF 2 (by omega) (by omega) (by omega), e5.F 2 (by omega)]; exact r2) (by rw [xF 5 (by omega) (by omega) (by omega), e5.F 5 (by omega)]; exact r5) (by rw [xF 80 (by omega) (by omega) (by omega), e5.F 80 (by omega)]; exact r80) (Or.inl ⟨by rw [z0' 13 (by omega) (by omega)]; exact a5, by rw [← hx1]; exact se_Is, gs', f2.cong (by rw [← hz]) (fun c hc => zI' c (by omega))⟩)⟩
    · rw [cls, e1]
      show sf_199_54 2 ((sj_ft (Int32.ofNat q) y).T, sh_u2 (sj_ft (Int32.ofNat q) y).I 0 12 ((sj_ft (Int32.ofNat q) y).I 58 11), (sj_ft (Int32.ofNat q) y).J, (sj_ft (Int32.ofNat q) y).s) = _
      rw [e11, ← hz]
      rfl
    · rw [mdl, e2, sh_bn_some, if_neg (by decide)]
      show some ((2 : Int32), ((sh_mft 2 (Int32.ofNat q) x).T, sh_u2 (sh_mft 2 (Int32.ofNat q) x).I 66 4 0, (sh_mft 2 (Int32.ofNat q) x).J, (sh_mft 2 (Int32.ofNat q) x).s)) = _
      rw [hx1]
  · -- both take it
    have Ky : sj_K 0 mc y := K02.trans e4.K
    obtain ⟨z, hz⟩ : ∃ z : sh_X, (y.T, sh_u2 (sh_u2 y.I 0 13 2) 0 10 0, y.J, y.s) = z := ⟨_, rfl⟩
    have zI' : ∀ c, c ≠ 0 → z.I c = y.I c := fun c hc => by rw [← hz, se_Ic hc, sh_u2_cell hc]
    have z0' : ∀ f, f ≠ 10 → f ≠ 13 → z.I 0 f = m1.I 0 f := fun f h1 h2 => by rw [← hz, se_In (fun _ => h1), sh_u2_idx h2, e4.z, z0]
    have Kz : sj_K 0 y z := sj_K.of (by rw [← hz]) (by rw [← hz]) (fun c _ h => zI' c (by omega)) (zI' 1 (by omega)) (fun _ _ => by rw [← hz])
    obtain ⟨x1, hx1⟩ : ∃ x1 : sh_X, (x.T, sh_u2 (sh_u2 x.I 66 4 2) 66 7 (-1), x.J, x.s) = x1 := ⟨_, rfl⟩
    have xI : ∀ c, c ≠ 66 → x1.I c = x.I c := fun c hc => by rw [← hx1, se_Ic hc, sh_u2_cell hc]
    have xF : ∀ f, f ≠ 4 → f ≠ 7 → x1.I 66 f = x.I 66 f := fun f h1 h2 => by rw [← hx1, se_In (fun _ => h2), sh_u2_idx h1]
    have cvE : ∀ v w, sj_cv x1.I v ng w = sj_cv x.I v ng w := fun v w => sj_cv_cong ng (fun c i q1 q2 _ => by rw [xI c (by omega)]) w
    have Yz : sj_Y a b o nw ng f gs' z x1 := sj_Y.mk (Y.g.cong (by rw [← hz]) (fun c hc => zI' c (by omega))) Y.z Y.k0 Y.gl Y.bd (fun X hX => by
      obtain ⟨s1, s2, s3, s4⟩ := Y.e X hX
      exact ⟨s1.cong (zI' _ (by omega)) (zI' _ (by omega)) (zI' _ (by omega)) (zI' _ (by omega)), by rw [xI 99 (by omega)]; exact s2, by rw [xI 102 (by omega)]; exact s3, fun k hk => by rw [xI 101 (by omega)]; exact s4 k hk⟩) (fun k i hi => by
      obtain ⟨s1, s2⟩ := Y.ou k i hi
      exact ⟨s1, fun p => by rw [s2, cvE]⟩) (fun i hi c h1 h2 => by rw [xI c (by omega)]; exact Y.ga i hi c h1 h2) ⟨by rw [xI 121 (by omega)]; exact Y.md.1, by rw [xI 121 (by omega)]; exact Y.md.2.1, by rw [xI 121 (by omega)]; exact Y.md.2.2.1, by rw [xF 85 (by omega) (by omega)]; exact Y.md.2.2.2.1, by rw [xF 86 (by omega) (by omega)]; exact Y.md.2.2.2.2⟩ ⟨by rw [zI' 58 (by omega)]; exact Y.cl.1, by rw [zI' 58 (by omega)]; exact Y.cl.2.1, by rw [zI' 58 (by omega), xF 87 (by omega) (by omega)]; exact Y.cl.2.2⟩
    refine ⟨0, z, x1, ?_, ?_, sj_Z2.mk ((Ky.trans Kz).more (by omega)) (sj_N2.mk (by rw [← hx1]; exact e5.T.trans N2.T) (by rw [← hx1]; exact e5.s.trans N2.s) (fun c h1 h2 => (xI c h1).trans ((e5.I c h1 h2).trans (N2.I c h1 h2))) (fun c h1 h2 => by rw [← hx1]; show x.J c = _; rw [e5.J]; exact N2.J c h1 h2) ((xF 1 (by omega) (by omega)).trans ((e5.F 1 (by omega)).trans N2.F))) (by rw [← hz]; exact se_Is) (by rw [z0' 11 (by omega) (by omega), a4, hc11, sh_nI1]) (by rw [z0' 14 (by omega) (by omega)]; exact a6) (by rw [z0' 12 (by omega) (by omega), a7, ← hx1]; exact se_Is.symm) (by rw [xF 0 (by omega) (by omega), e5.F 0 (by omega)]; exact r0) (by rw [xF 2 (by omega) (by omega), e5.F 2 (by omega)]; exact r2) (by rw [xF 5 (by omega) (by omega), e5.F 5 (by omega)]; exact r5) (by rw [xF 80 (by omega) (by omega), e5.F 80 (by omega)]; exact r80) (Or.inr ⟨by rw [← hz, se_In (by omega), sh_u2_same], by rw [← hx1, se_In (by omega), sh_u2_same], a, b, o, nw, ng, f, gs', Yz, fun k hk => by rw [← hz]; exact j16 k hk, fun k hk => by rw [← hz]; exact j21 k hk, fun k hk => by
      rw [← hx1]
      show x.J 103 k = 0
      rw [e5.J, ← hn2]
      exact b14 k hk⟩)⟩
    · rw [cls, e1, ← hz]
      rfl
    · rw [mdl, e2, sh_bn_some, if_pos rfl, ← hx1]
      rfl
