/-! BOTH OBJECTS IN ONE MEMORY: what is carried on -/
theorem sj_R.cong {mc mm mc2 mm2 : sh_X} (R : sj_R mc mm) (q : sj_Q mc mc2) (hI : ∀ c, 68 ≤ c → c ≤ 91 → mm2.I c = mm.I c) (hF : ∀ f, f = 31 ∨ f = 36 ∨ f = 37 → mm2.I 66 f = mm.I 66 f) : sj_R mc2 mm2 := by
  obtain ⟨N, K, P, V, A, C, pf, cf, gf, w, F, ht, n, c2, g2, mcH, mcE, H, M, hE, Q⟩ := R
  obtain ⟨M1, M2, M3, M4, M5⟩ := M
  exact ⟨N, K, P, V, A, C, pf, cf, gf, w, F, ht, n, c2, g2, mcH, mcE, H, ⟨M1.same (hI 71 (by omega) (by omega)) (hI 68 (by omega) (by omega)) (hI 69 (by omega) (by omega)) (hI 70 (by omega) (by omega)), fun x h1 h2 => by rw [hI x (by omega) (by omega)]; exact M2 x h1 h2, by rw [hF 31 (Or.inl rfl)]; exact M3, by rw [hF 36 (Or.inr (Or.inl rfl))]; exact M4, by rw [hF 37 (Or.inr (Or.inr rfl))]; exact M5⟩, hE, Q.trans q⟩
theorem sj_E.cong {n : Nat → Nat} {W : Nat → Nat → Nat} {f : Nat → Nat → Nat → Nat} {mc mm mc2 mm2 : sh_X} (E : sj_E n W f mc mm) (hc : ∀ c, 13 ≤ c → c ≤ 27 → mc2.I c = mc.I c) (hm : ∀ c, 99 ≤ c → c ≤ 102 → mm2.I c = mm.I c) : sj_E n W f mc2 mm2 := fun X hX => by
  obtain ⟨s1, s2, s3, s4⟩ := E X hX
  exact ⟨s1.cong (hc _ (by omega) (by omega)) (hc _ (by omega) (by omega)) (hc _ (by omega) (by omega)) (hc _ (by omega) (by omega)), by rw [hm 99 (by omega) (by omega)]; exact s2, by rw [hm 102 (by omega) (by omega)]; exact s3, fun k hk => by rw [hm 101 (by omega) (by omega)]; exact s4 k hk⟩
theorem sj_Y.cong {a b o nw ng : Nat} {f : Nat → Nat → Nat} {gs : sh_gL} {mc mm mc2 mm2 : sh_X} (Y : sj_Y a b o nw ng f gs mc mm) (q : sj_Q mc mc2) (tl : mc2.T.length + 99 ≤ 900000) (h58 : mc2.I 58 = mc.I 58) (hI : ∀ c, 99 ≤ c → c ≤ 121 → mm2.I c = mm.I c) (hF : ∀ i, 85 ≤ i → mm2.I 66 i = mm.I 66 i) : sj_Y a b o nw ng f gs mc2 mm2 := by
  have cvE : ∀ v w, sj_cv mm2.I v ng w = sj_cv mm.I v ng w := fun v w => sj_cv_cong ng (fun c i q1 q2 _ => by rw [hI c (by omega) (by omega)]) w
  exact sj_Y.mk (q.GS Y.g tl).1 Y.z Y.k0 Y.gl Y.bd (Y.e.cong (fun c h1 h2 => q.I c (Or.inl ⟨by omega, h2⟩)) (fun c h1 h2 => hI c (by omega) (by omega))) (fun k i hi => by
    obtain ⟨s1, s2⟩ := Y.ou k i hi
    exact ⟨s1, fun p => by rw [s2, cvE]⟩) (fun i hi c h1 h2 => by rw [hI c (by omega) (by omega)]; exact Y.ga i hi c h1 h2) ⟨by rw [hI 121 (by omega) (by omega)]; exact Y.md.1, by rw [hI 121 (by omega) (by omega)]; exact Y.md.2.1, by rw [hI 121 (by omega) (by omega)]; exact Y.md.2.2.1, by rw [hF 85 (by omega)]; exact Y.md.2.2.2.1, by rw [hF 86 (by omega)]; exact Y.md.2.2.2.2⟩ ⟨by rw [h58]; exact Y.cl.1, by rw [h58]; exact Y.cl.2.1, by rw [h58, hF 87 (by omega)]; exact Y.cl.2.2⟩
theorem sj_V.cong {ra rb : Nat} {m m2 : sh_X} (h : sj_V ra rb m) (hT : ∀ c t, c ≠ 2 → c ≠ 9 → c ≠ 58 → m.T[c]? = some t → m2.T[c]? = some t) (ht : m.T.length ≤ m2.T.length) : sj_V ra rb m2 ∧ sh_ln m2.T ra = sh_ln m.T ra := by
  have fa := h.fa
  have fb := h.fb
  have la : sh_ln m2.T ra = sh_ln m.T ra := sh_ln_eq (sj_lt (fun t => hT ra t (by omega) (by omega) (by omega)) fa.2)
  have lb : sh_ln m2.T rb = sh_ln m.T rb := sh_ln_eq (sj_lt (fun t => hT rb t (by omega) (by omega) (by omega)) fb.2)
  exact ⟨sj_V.mk (hT 61 _ (by omega) (by omega) (by omega) h.t) (by rw [la, lb]; exact h.l) (by rw [la]; exact h.l2) h.ab ⟨fa.1, by omega⟩ ⟨fb.1, by omega⟩, la⟩
/-- the gates, were there x of them -/
def so_g (x : Int32) (m : sh_X) : sh_X := (m.T, sh_u2 m.I 9 3 x, m.J, m.s)
theorem so_gs (m : sh_X) : so_g (m.I 9 3) m = m := by
  have e : sh_u2 m.I 9 3 (m.I 9 3) = m.I := by
    funext c i
    by_cases h : c = 9 ∧ i = 3
    · obtain ⟨h1, h2⟩ := h
      subst h1
      subst h2
      exact sh_u2_same
    · by_cases hc : c = 9
      · subst hc
        exact sh_u2_idx (fun q => h ⟨rfl, q⟩)
      · rw [sh_u2_cell hc]
  unfold so_g
  rw [e]
/-- the state of the objects: nothing, a program, a circuit -/
def so_S (m : sh_X) : Prop :=
  (m.I 66 4 = 0 ∧ ∃ gs x, sh_GS gs (so_g x m)) ∨
  (m.I 66 4 = 1 ∧ sj_R m m ∧ ∃ n W f gs, sj_E n W f m m ∧ sh_GS gs m ∧ (∀ X, X < 2 → ∀ k, k < n X → m.J (16 + 5 * X) k = m.J 103 (256 * X + k)) ∧ (¬ m.I 66 5 = 0 → ∀ k, k < n 2 → m.J 26 k = m.J 104 k)) ∨
  (m.I 66 4 = 2 ∧ ∃ a b o nw ng f gs, sj_Y a b o nw ng f gs m m ∧ (∀ X, X < 2 → ∀ k, k < sj_n (sj_N3 a b o X) → m.J (16 + 5 * X) k = m.J 103 (256 * X + k)) ∧ (¬ m.I 66 5 = 0 → ∀ k, k < sj_n o → m.J 26 k = m.J 104 k))
theorem so_S.GS {m : sh_X} (h : so_S m) : ∃ gs x, sh_GS gs (so_g x m) := by
  rcases h with ⟨_, g⟩ | ⟨_, _, n, W, f, gs, _, g, _⟩ | ⟨_, a, b, o, nw, ng, f, gs, Y, _⟩
  · exact g
  · exact ⟨gs, m.I 9 3, by rw [so_gs]; exact g⟩
  · exact ⟨gs, m.I 9 3, by rw [so_gs]; exact Y.g⟩
/-- the text -/
def so_T (m : sh_X) : Prop := ∃ n, n ≤ 4000 ∧ m.I 0 10 = Int32.ofNat n ∧ m.I 66 2 = Int32.ofNat n ∧ (∀ i, i < n → m.I 67 i = m.I 1 i) ∧ ∀ i, i < n → -128 ≤ (m.I 67 i).toInt ∧ (m.I 67 i).toInt ≤ 127
def so_v (l : Nat) : Prop := l = 0 ∨ l = 4096 ∨ l = 8192 ∨ l = 16384 ∨ l = 32768 ∨ l = 65536
/-- both objects agree, behind j calls -/
def so_R (j : Nat) (m : sh_X) : Prop := (so_T m) ∧ (∃ kc, kc ≤ 24 ∧ m.I 0 11 = Int32.ofNat kc ∧ m.I 66 80 = Int32.ofNat kc) ∧ (m.I 0 12 = m.I 66 7) ∧ (m.I 0 13 = m.I 66 4) ∧ (m.I 0 14 = m.I 66 5) ∧ (so_S m) ∧ (∃ ra rb, sj_V ra rb m ∧ so_v (sh_ln m.T ra) ∧ m.s ≤ 6 * sj_l m + 4 * sh_ln m.T ra + 6 * j) ∧ (∀ w, w < 4000 → m.I 122 w = 0 ∨ m.I 122 w = 1) ∧ (m.T[1]? = some (.inl (1, 4000))) ∧ (m.T[46]? = some (.inl (0, 65))) ∧ (m.T[59]? = some (.inl (0, 4000))) ∧ (m.T.length + 3 * (131072 / sj_l m) ≤ 400 + 2 * j)
theorem so_R.tx {j : Nat} {m : sh_X} (h : so_R j m) : so_T m := h.1
theorem so_R.kc {j : Nat} {m : sh_X} (h : so_R j m) : ∃ kc, kc ≤ 24 ∧ m.I 0 11 = Int32.ofNat kc ∧ m.I 66 80 = Int32.ofNat kc := h.2.1
theorem so_R.pl {j : Nat} {m : sh_X} (h : so_R j m) : m.I 0 12 = m.I 66 7 := h.2.2.1
theorem so_R.e4 {j : Nat} {m : sh_X} (h : so_R j m) : m.I 0 13 = m.I 66 4 := h.2.2.2.1
theorem so_R.e5 {j : Nat} {m : sh_X} (h : so_R j m) : m.I 0 14 = m.I 66 5 := h.2.2.2.2.1
theorem so_R.S {j : Nat} {m : sh_X} (h : so_R j m) : so_S m := h.2.2.2.2.2.1
theorem so_R.V {j : Nat} {m : sh_X} (h : so_R j m) : ∃ ra rb, sj_V ra rb m ∧ so_v (sh_ln m.T ra) ∧ m.s ≤ 6 * sj_l m + 4 * sh_ln m.T ra + 6 * j := h.2.2.2.2.2.2.1
theorem so_R.ov {j : Nat} {m : sh_X} (h : so_R j m) : ∀ w, w < 4000 → m.I 122 w = 0 ∨ m.I 122 w = 1 := h.2.2.2.2.2.2.2.1
theorem so_R.t1 {j : Nat} {m : sh_X} (h : so_R j m) : m.T[1]? = some (.inl (1, 4000)) := h.2.2.2.2.2.2.2.2.1
theorem so_R.t46 {j : Nat} {m : sh_X} (h : so_R j m) : m.T[46]? = some (.inl (0, 65)) := h.2.2.2.2.2.2.2.2.2.1
theorem so_R.t59 {j : Nat} {m : sh_X} (h : so_R j m) : m.T[59]? = some (.inl (0, 4000)) := h.2.2.2.2.2.2.2.2.2.2.1
theorem so_R.tl {j : Nat} {m : sh_X} (h : so_R j m) : m.T.length + 3 * (131072 / sj_l m) ≤ 400 + 2 * j := h.2.2.2.2.2.2.2.2.2.2.2
theorem so_R.mk {j : Nat} {m : sh_X} (tx : so_T m) (kc : ∃ kc, kc ≤ 24 ∧ m.I 0 11 = Int32.ofNat kc ∧ m.I 66 80 = Int32.ofNat kc) (pl : m.I 0 12 = m.I 66 7) (e4 : m.I 0 13 = m.I 66 4) (e5 : m.I 0 14 = m.I 66 5) (S : so_S m) (V : ∃ ra rb, sj_V ra rb m ∧ so_v (sh_ln m.T ra) ∧ m.s ≤ 6 * sj_l m + 4 * sh_ln m.T ra + 6 * j) (ov : ∀ w, w < 4000 → m.I 122 w = 0 ∨ m.I 122 w = 1) (t1 : m.T[1]? = some (.inl (1, 4000))) (t46 : m.T[46]? = some (.inl (0, 65))) (t59 : m.T[59]? = some (.inl (0, 4000))) (tl : m.T.length + 3 * (131072 / sj_l m) ≤ 400 + 2 * j) : so_R j m := ⟨tx, kc, pl, e4, e5, S, V, ov, t1, t46, t59, tl⟩
theorem so_R.len {j : Nat} {m : sh_X} (h : so_R j m) (hj : j ≤ 600) : m.T.length ≤ 1600 := by
  have := h.tl
  have e : 0 ≤ 3 * (131072 / sj_l m) := Nat.zero_le _
  omega
/-- what a small call may change -/
def so_M (m m2 : sh_X) : Prop := (∀ (c : Nat) (t : sh_Tg), m.T[c]? = some t → m2.T[c]? = some t) ∧ (m.T.length ≤ m2.T.length) ∧ (m2.T.length ≤ m.T.length + 1) ∧ (m2.s ≤ m.s + 6) ∧ (∀ c, c ≠ 0 → c ≠ 1 → c ≠ 66 → c ≠ 67 → m2.I c = m.I c) ∧ (∀ f, f ≠ 10 → m2.I 0 f = m.I 0 f) ∧ (∀ f, f ≠ 0 → f ≠ 2 → m2.I 66 f = m.I 66 f) ∧ (∀ c, c ≠ 16 → c ≠ 21 → c ≠ 62 → c ≠ 103 → c ≠ 124 → m2.J c = m.J c) ∧ (∀ X, X < 2 → ∀ k, k < 256 → m.J (16 + 5 * X) k = m.J 103 (256 * X + k) → m2.J (16 + 5 * X) k = m2.J 103 (256 * X + k))
theorem so_M.T {m m2 : sh_X} (h : so_M m m2) : ∀ (c : Nat) (t : sh_Tg), m.T[c]? = some t → m2.T[c]? = some t := h.1
theorem so_M.t {m m2 : sh_X} (h : so_M m m2) : m.T.length ≤ m2.T.length := h.2.1
theorem so_M.l {m m2 : sh_X} (h : so_M m m2) : m2.T.length ≤ m.T.length + 1 := h.2.2.1
theorem so_M.s {m m2 : sh_X} (h : so_M m m2) : m2.s ≤ m.s + 6 := h.2.2.2.1
theorem so_M.I {m m2 : sh_X} (h : so_M m m2) : ∀ c, c ≠ 0 → c ≠ 1 → c ≠ 66 → c ≠ 67 → m2.I c = m.I c := h.2.2.2.2.1
theorem so_M.F {m m2 : sh_X} (h : so_M m m2) : ∀ f, f ≠ 10 → m2.I 0 f = m.I 0 f := h.2.2.2.2.2.1
theorem so_M.G {m m2 : sh_X} (h : so_M m m2) : ∀ f, f ≠ 0 → f ≠ 2 → m2.I 66 f = m.I 66 f := h.2.2.2.2.2.2.1
theorem so_M.J {m m2 : sh_X} (h : so_M m m2) : ∀ c, c ≠ 16 → c ≠ 21 → c ≠ 62 → c ≠ 103 → c ≠ 124 → m2.J c = m.J c := h.2.2.2.2.2.2.2.1
theorem so_M.D {m m2 : sh_X} (h : so_M m m2) : ∀ X, X < 2 → ∀ k, k < 256 → m.J (16 + 5 * X) k = m.J 103 (256 * X + k) → m2.J (16 + 5 * X) k = m2.J 103 (256 * X + k) := h.2.2.2.2.2.2.2.2
theorem so_M.mk {m m2 : sh_X} (T : ∀ (c : Nat) (t : sh_Tg), m.T[c]? = some t → m2.T[c]? = some t) (t : m.T.length ≤ m2.T.length) (l : m2.T.length ≤ m.T.length + 1) (s : m2.s ≤ m.s + 6) (I : ∀ c, c ≠ 0 → c ≠ 1 → c ≠ 66 → c ≠ 67 → m2.I c = m.I c) (F : ∀ f, f ≠ 10 → m2.I 0 f = m.I 0 f) (G : ∀ f, f ≠ 0 → f ≠ 2 → m2.I 66 f = m.I 66 f) (J : ∀ c, c ≠ 16 → c ≠ 21 → c ≠ 62 → c ≠ 103 → c ≠ 124 → m2.J c = m.J c) (D : ∀ X, X < 2 → ∀ k, k < 256 → m.J (16 + 5 * X) k = m.J 103 (256 * X + k) → m2.J (16 + 5 * X) k = m2.J 103 (256 * X + k)) : so_M m m2 := ⟨T, t, l, s, I, F, G, J, D⟩
theorem so_M.Q {m m2 : sh_X} (h : so_M m m2) : sj_Q m m2 := sj_Q.mk (fun c t _ _ _ => h.T c t) (fun c hc => h.I c (by omega) (by omega) (by omega) (by omega))
theorem so_M.Qg {m m2 : sh_X} (h : so_M m m2) (x : Int32) : sj_Q (so_g x m) (so_g x m2) := sj_Q.mk (fun c t _ _ _ => h.T c t) (fun c hc => by
  have e := h.I c (by omega) (by omega) (by omega) (by omega)
  funext i
  show sh_u2 m2.I 9 3 x c i = sh_u2 m.I 9 3 x c i
  unfold sh_u2
  rw [e])
theorem so_M.S {m m2 : sh_X} (h : so_M m m2) (tl : m2.T.length + 99 ≤ 900000) (S : so_S m) : so_S m2 := by
  have q := h.Q
  have e4 := h.G 4 (by omega) (by omega)
  have e5 := h.G 5 (by omega) (by omega)
  have j26 := h.J 26 (by omega) (by omega) (by omega) (by omega) (by omega)
  have j104 := h.J 104 (by omega) (by omega) (by omega) (by omega) (by omega)
  rcases S with ⟨s0, gs, x, g⟩ | ⟨s1, R, n, W, f, gs, E, g, D, O⟩ | ⟨s2, a, b, o, nw, ng, f, gs, Y, D, O⟩
  · exact Or.inl ⟨e4.trans s0, gs, x, ((h.Qg x).GS g tl).1⟩
  · refine Or.inr (Or.inl ⟨e4.trans s1, R.cong q (fun c h1 h2 => h.I c (by omega) (by omega) (by omega) (by omega)) (fun f hf => h.G f (by omega) (by omega)), n, W, f, gs, E.cong (fun c h1 h2 => h.I c (by omega) (by omega) (by omega) (by omega)) (fun c h1 h2 => h.I c (by omega) (by omega) (by omega) (by omega)), (q.GS g tl).1, fun X hX k hk => h.D X hX k (Nat.lt_of_lt_of_le hk (E X (by omega)).1.n1) (D X hX k hk), fun h5 k hk => ?_⟩)
    rw [j26, j104]
    exact O (by rw [← e5]; exact h5) k hk
  · refine Or.inr (Or.inr ⟨e4.trans s2, a, b, o, nw, ng, f, gs, Y.cong q tl (h.I 58 (by omega) (by omega) (by omega) (by omega)) (fun c h1 h2 => h.I c (by omega) (by omega) (by omega) (by omega)) (fun i hi => h.G i (by omega) (by omega)), fun X hX k hk => h.D X hX k (Nat.lt_of_lt_of_le hk (Y.e X (by omega)).1.n1) (D X hX k hk), fun h5 k hk => ?_⟩)
    rw [j26, j104]
    exact O (by rw [← e5]; exact h5) k hk
theorem so_M.R {j : Nat} {m m2 : sh_X} (h : so_M m m2) (r : so_R j m) (hj : j ≤ 600) (tx : so_T m2) : so_R (j + 1) m2 := by
  have len := r.len hj
  have hl := h.l
  have tl : m2.T.length + 99 ≤ 900000 := by omega
  obtain ⟨gs, x, g⟩ := r.S.GS
  have le : sj_l m2 = sj_l m := ((h.Qg x).GS g tl).2
  obtain ⟨kc, k1, k2, k3⟩ := r.kc
  obtain ⟨ra, rb, v1, v2, v3⟩ := r.V
  obtain ⟨w1, w2⟩ := v1.cong (m2 := m2) (fun c t _ _ _ => h.T c t) h.t
  refine so_R.mk tx ⟨kc, k1, by rw [h.F 11 (by omega)]; exact k2, by rw [h.G 80 (by omega) (by omega)]; exact k3⟩ ?_ ?_ ?_ (h.S tl r.S) ⟨ra, rb, w1, by rw [w2]; exact v2, ?_⟩ ?_ (h.T _ _ r.t1) (h.T _ _ r.t46) (h.T _ _ r.t59) ?_
  · rw [h.F 12 (by omega), h.G 7 (by omega) (by omega)]; exact r.pl
  · rw [h.F 13 (by omega), h.G 4 (by omega) (by omega)]; exact r.e4
  · rw [h.F 14 (by omega), h.G 5 (by omega) (by omega)]; exact r.e5
  · rw [w2, le]
    have := h.s
    omega
  · rw [h.I 122 (by omega) (by omega) (by omega) (by omega)]; exact r.ov
  · rw [le]
    have := r.tl
    omega
/-- a small change of ints alone -/
theorem so_M.of {m m2 : sh_X} (hT : m2.T = m.T) (hs : m2.s = m.s) (hJ : m2.J = m.J) (hI : ∀ c, c ≠ 0 → c ≠ 1 → c ≠ 66 → c ≠ 67 → m2.I c = m.I c) (hF : ∀ f, f ≠ 10 → m2.I 0 f = m.I 0 f) (hG : ∀ f, f ≠ 0 → f ≠ 2 → m2.I 66 f = m.I 66 f) : so_M m m2 :=
  so_M.mk (fun c t h => by rw [hT]; exact h) (by rw [hT]; exact Nat.le_refl _) (by rw [hT]; omega) (by omega) hI hF hG (fun c _ _ _ _ _ => by rw [hJ]) (fun X _ k _ h => by rw [hJ]; exact h)
theorem so_T.w {m : sh_X} {x : Int32} (h : so_T m) : so_T (m.T, sh_u2 m.I 66 0 x, m.J, m.s) := by
  obtain ⟨n, n4, a, b, c, d⟩ := h
  exact ⟨n, n4, by rw [se_Ic (by omega)]; exact a, by rw [se_In (fun _ => by omega)]; exact b, fun i hi => by rw [se_Ic (by omega), se_Ic (by omega)]; exact c i hi, fun i hi => by rw [se_Ic (by omega)]; exact d i hi⟩
theorem so_Mw {m : sh_X} {x : Int32} : so_M m (m.T, sh_u2 m.I 66 0 x, m.J, m.s) := so_M.of rfl rfl rfl (fun c _ _ a _ => se_Ic a) (fun f _ => by rw [se_Ic (by omega)]) (fun f a _ => se_In (fun _ => a))
