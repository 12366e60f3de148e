/-! PROGRAMS: both run a program -/
/-- the room of the garbling -/
def sj_V (ra rb : Nat) (m : sh_X) : Prop := (m.T[61]? = some (sh_gb ra rb)) ∧ (sh_ln m.T ra = sh_ln m.T rb) ∧ (sh_ln m.T ra ≤ 65536) ∧ (ra ≠ rb) ∧ ((ra = 64 ∨ 125 ≤ ra) ∧ ra < m.T.length) ∧ ((rb = 65 ∨ 125 ≤ rb) ∧ rb < m.T.length)
theorem sj_V.t {ra rb : Nat} {m : sh_X} (h : sj_V ra rb m) : m.T[61]? = some (sh_gb ra rb) := h.1
theorem sj_V.l {ra rb : Nat} {m : sh_X} (h : sj_V ra rb m) : sh_ln m.T ra = sh_ln m.T rb := h.2.1
theorem sj_V.l2 {ra rb : Nat} {m : sh_X} (h : sj_V ra rb m) : sh_ln m.T ra ≤ 65536 := h.2.2.1
theorem sj_V.ab {ra rb : Nat} {m : sh_X} (h : sj_V ra rb m) : ra ≠ rb := h.2.2.2.1
theorem sj_V.fa {ra rb : Nat} {m : sh_X} (h : sj_V ra rb m) : (ra = 64 ∨ 125 ≤ ra) ∧ ra < m.T.length := h.2.2.2.2.1
theorem sj_V.fb {ra rb : Nat} {m : sh_X} (h : sj_V ra rb m) : (rb = 65 ∨ 125 ≤ rb) ∧ rb < m.T.length := h.2.2.2.2.2
theorem sj_V.mk {ra rb : Nat} {m : sh_X} (t : m.T[61]? = some (sh_gb ra rb)) (l : sh_ln m.T ra = sh_ln m.T rb) (l2 : sh_ln m.T ra ≤ 65536) (ab : ra ≠ rb) (fa : (ra = 64 ∨ 125 ≤ ra) ∧ ra < m.T.length) (fb : (rb = 65 ∨ 125 ≤ rb) ∧ rb < m.T.length) : sj_V ra rb m := ⟨t, l, l2, ab, fa, fb⟩
theorem sj_V.Yp {ra rb : Nat} {gs : sh_gL} {m : sh_X} (h : sj_V ra rb m) (g : sh_GS gs m) (tl : m.T.length < 800000) : sh_Yp gs ra rb m := by
  have d1 : 131072 / sh_ln m.T (sh_rf m.T 9 0) ≤ 131072 / 4096 := by
    obtain ⟨_, _, _, a, b, d, nn, gv⟩ := g
    rw [gv.ra, gv.la]
    exact Nat.div_le_div_left gv.n0 (by omega)
  exact sh_Yp.mk g h.t h.l h.l2 h.ab h.fa h.fb (by omega)
theorem sj_run1 {ra rb : Nat} {nn : Nat → Nat} {W0 : Nat → Nat → Nat} {f0 : Nat → Nat → Nat → Nat} {mc mm : sh_X} (R : sj_R mc mm) (E : sj_E nn W0 f0 mc mm) (hV : sj_V ra rb mc) (tl : mc.T.length < 800000) (h13 : mc.I 0 13 = 1) (h4 : mm.I 66 4 = 1) (D : ∀ X, X < 2 → ∀ k, k < nn X → mc.J (16 + 5 * X) k = mm.J 103 (256 * X + k)) :
    ∃ (a2 b2 : Nat) (m1 mc2 mm2 : sh_X) (gs : sh_gL), sf_219 mc = some (true, mc2) ∧ sf_338 mm = some (true, mm2) ∧ mc2 = (m1.T, sh_u2 m1.I 0 14 1, m1.J, m1.s) ∧ m1.I = mc.I ∧ (∀ c, c < 125 → c ≠ 26 → c ≠ 61 → c ≠ 62 → c ≠ 63 → c ≠ 64 → c ≠ 65 → m1.J c = mc.J c) ∧ ((m1.T = mc.T ∧ m1.s = mc.s ∧ a2 = ra ∧ b2 = rb) ∨ (sh_ln mc.T ra < gs.length ∧ m1.T.length = mc.T.length + 2 ∧ a2 = mc.T.length ∧ b2 = mc.T.length + 1 ∧ sh_ln m1.T a2 = sh_ln mc.T (sh_rf mc.T 9 0) ∧ sh_ln m1.T b2 = sh_ln mc.T (sh_rf mc.T 9 0) ∧ m1.T[61]? = some (sh_gb a2 b2) ∧ (∀ c t, c ≠ 61 → mc.T[c]? = some t → m1.T[c]? = some t) ∧ m1.s = mc.s + 2 * sh_ln mc.T (sh_rf mc.T 9 0))) ∧
      sh_GS gs mc ∧ mm2.T = mm.T ∧ mm2.s = mm.s ∧ (∀ c, c ≠ 66 → (c < 93 ∨ 116 < c) → mm2.I c = mm.I c) ∧ (∀ c, c ≠ 66 → (c < 92 ∨ c = 103 ∨ 116 < c) → mm2.J c = mm.J c) ∧ mm2.I 66 0 = 0 ∧ mm2.I 66 5 = 1 ∧ (∀ f, f ≠ 0 → f ≠ 5 → (f < 41 ∨ 79 < f) → mm2.I 66 f = mm.I 66 f) ∧ sj_R mc mm2 ∧ (∃ W f, sj_E nn W f mc mm2) ∧ ∀ k, k < nn 2 → mc2.J 26 k = mm2.J 104 k := by
  obtain ⟨N, K, P, V, A, C, pf, cf, gf, w, F, ht, n, c2, g2, mcH, mcE, H, M, hE, Q⟩ := R
  obtain ⟨M1, M2, M3, M4, M5⟩ := M
  obtain ⟨n0, hn0⟩ : ∃ n0 : sh_X, (mm.T, sh_u2 mm.I 66 0 0, mm.J, mm.s) = n0 := ⟨_, rfl⟩
  have z66 : ∀ f, f ≠ 0 → n0.I 66 f = mm.I 66 f := fun f hf => by rw [← hn0]; exact se_In (by omega)
  have zI : ∀ c, c ≠ 66 → n0.I c = mm.I c := fun c hc => by rw [← hn0]; exact se_Ic hc
  have J0 : n0.J = mm.J := by rw [← hn0]
  have M0 : sj_M N K P V A F n0 := ⟨M1.same (zI 71 (by omega)) (zI 68 (by omega)) (zI 69 (by omega)) (zI 70 (by omega)), fun x h1 h2 => by rw [zI x (by omega)]; exact M2 x h1 h2, by rw [z66 31 (by omega)]; exact M3, by rw [z66 36 (by omega)]; exact M4, by rw [z66 37 (by omega)]; exact M5⟩
  obtain ⟨p, hp, p0, p1⟩ := sj_p K V w A n (n0.J 103)
  rcases sj_do H M0 hp with ⟨kk, tt, x, y, v1, v2, v3, v4, v5⟩ | ⟨mcE', mmE, gs, v1, v2, v3, v4, v5, v6, v7, v8, v9, v10⟩
  · rw [hE] at v2
    cases v2
  have ee : mcE = mcE' := by
    rw [hE] at v1
    exact congrArg Prod.snd (Option.some.inj v1)
  subst ee
  obtain ⟨W, f, I1, I2⟩ := v8
  obtain ⟨n3, W3, f3, o1, o2, o3, o4⟩ := v10
  have g := (Q.GS v5 (by omega)).1
  have qI : ∀ c, 9 ≤ c → c ≤ 27 → mc.I c = mcE.I c := fun c h1 h2 => Q.I c (by omega)
  have EX : ∀ X, X < 2 → sh_Ev (13 + 5 * X) (se_en K V w A X n) (W X) (f X) mc := fun X hX => (I1 X hX).1.cong (qI _ (by omega) (by omega)) (qI _ (by omega) (by omega)) (qI _ (by omega) (by omega)) (qI _ (by omega) (by omega))
  have E3 : sh_Ev 23 n3 W3 f3 mc := o1.cong (qI _ (by omega) (by omega)) (qI _ (by omega) (by omega)) (qI _ (by omega) (by omega)) (qI _ (by omega) (by omega))
  have nX : ∀ X, X < 2 → se_en K V w A X n = nn X := fun X hX => by
    have a := (EX X hX).am
    have b := (E X (by omega)).1.am
    have a1 := (EX X hX).n1
    have b1 := (E X (by omega)).1.n1
    rw [a] at b
    exact (sh_nIeq (by omega) (by omega)).mp b
  have n2 : n3 = nn 2 := by
    have a := E3.am
    have b := (E 2 (by omega)).1.am
    have a1 := E3.n1
    have b1 := (E 2 (by omega)).1.n1
    rw [show 13 + 5 * 2 = 23 by omega, a] at b
    exact (sh_nIeq (by omega) (by omega)).mp b
  have dX : ∀ X, X < 2 → ∀ k, k < se_en K V w A X n → ∀ i, i < W X k → f X k i < gs.length ∧ p (f X k i) = (mc.J (16 + 5 * X) k).toBitVec.getLsbD i := fun X hX k hk i hi => by
    obtain ⟨_, _, _, _, y5⟩ := I1 X hX
    obtain ⟨_, t2, t3⟩ := (y5 k hk).2 i hi
    refine ⟨t2, ?_⟩
    rw [t3, D X hX k (by rw [← nX X hX]; exact hk), J0]
    rfl
  obtain ⟨n9, hn9⟩ : ∃ n9 : sh_X, (mmE.T, sh_u2 mmE.I 66 5 1, mmE.J, mmE.s) = n9 := ⟨_, rfl⟩
  have md : sf_338 mm = some (true, n9) := by
    unfold sf_338 sf_338_34
    rw [h4, if_neg (by decide), if_neg (by decide), hn0, v2, sh_bn_some, hn9]
  obtain ⟨a2, b2, m1, r1, r2, r3, r4, r5⟩ := sh_220 (p := p) (hV.Yp g tl) v6 (EX 0 (by omega)) (EX 1 (by omega)) E3 (fun k hk i hi => (dX 0 (by omega) k hk i hi).1) (fun k hk i hi => (dX 1 (by omega) k hk i hi).1) (fun k hk i hi => (o4 k hk).2.1 i hi) (fun k hk i hi => (dX 0 (by omega) k hk i hi).2) (fun k hk i hi => (dX 1 (by omega) k hk i hi).2) p0 p1 (fun v hv hk h2 => by
    obtain ⟨X, k, i, hX, h1, h3, h5⟩ := I2 v h2 hv hk
    rcases (show X = 0 ∨ X = 1 by omega) with q | q
    · subst q; exact Or.inl ⟨k, i, h1, h3, h5⟩
    · subst q; exact Or.inr ⟨k, i, h1, h3, h5⟩)
  have cl : sf_219 mc = some (true, (m1.T, sh_u2 m1.I 0 14 1, m1.J, m1.s)) := by
    unfold sf_219
    rw [h13, if_neg (by decide), r1, sh_bn_some]
  have xI : ∀ c, c ≠ 66 → n9.I c = mmE.I c := fun c hc => by rw [← hn9]; exact se_Ic hc
  have xF : ∀ f, f ≠ 5 → n9.I 66 f = mmE.I 66 f := fun f hf => by rw [← hn9]; exact se_In (fun _ => hf)
  have kI : ∀ c, c ≠ 66 → (c < 93 ∨ 116 < c) → n9.I c = mm.I c := fun c h1 h2 => by rw [xI c h1, v4.I c h1 h2, zI c h1]
  have kF : ∀ f, f ≠ 0 → f ≠ 5 → (f < 41 ∨ 79 < f) → n9.I 66 f = mm.I 66 f := fun f h1 h2 h3 => by rw [xF f h2, v4.F f h3, z66 f h1]
  refine ⟨a2, b2, m1, _, n9, gs, cl, md, rfl, r2, r3, r5, g, ?_, ?_, kI, fun c h1 h2 => ?_, ?_, ?_, kF, ?_, ⟨fun X => if X < 2 then W X else W3, fun X => if X < 2 then f X else f3, fun X hX => ?_⟩, fun k hk => ?_⟩
  · rw [← hn9]; show mmE.T = _; rw [v4.T, ← hn0]
  · rw [← hn9]; show mmE.s = _; rw [v4.s, ← hn0]
  · rw [← hn9]; show mmE.J c = _; rw [v4.J c h1 h2, J0]
  · rw [xF 0 (by omega), v4.F 0 (by omega), ← hn0]; exact se_Is
  · rw [← hn9]; exact se_Is
  · exact ⟨_, _, _, _, _, _, _, _, _, _, _, _, _, _, _, mcH, mcE, H, ⟨M1.same (kI 71 (by omega) (by omega)) (kI 68 (by omega) (by omega)) (kI 69 (by omega) (by omega)) (kI 70 (by omega) (by omega)), fun x h1 h2 => by rw [kI x (by omega) (by omega)]; exact M2 x h1 h2, by rw [kF 31 (by omega) (by omega) (by omega)]; exact M3, by rw [kF 36 (by omega) (by omega) (by omega)]; exact M4, by rw [kF 37 (by omega) (by omega) (by omega)]; exact M5⟩, hE, Q⟩
  · by_cases h2' : X < 2
    · obtain ⟨_, y2, y3, y4, y5⟩ := I1 X h2'
      simp only [if_pos h2']
      rw [← nX X h2']
      exact ⟨EX X h2', by rw [xI 99 (by omega)]; exact y3, by rw [xI 102 (by omega), y2]; exact y4, fun k hk => by rw [xI 101 (by omega)]; exact (y5 k hk).1⟩
    · have X2 : X = 2 := by omega
      subst X2
      simp only [if_neg h2']
      rw [← n2]
      exact ⟨E3, by rw [xI 99 (by omega)]; exact o2, by rw [xI 102 (by omega)]; exact o3, fun k hk => by rw [xI 101 (by omega)]; exact (o4 k hk).1⟩
  · rw [← n2] at hk
    rw [← hn9]
    show m1.J 26 k = mmE.J 104 k
    refine sj_bits (fun j hj => ?_)
    rw [r4 k hk j hj]
    exact ((o4 k hk).2.2 j hj).symm
