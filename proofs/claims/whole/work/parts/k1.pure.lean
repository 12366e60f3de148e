/-! CIRCUITS: elements and the inputs' gates -/
/-- how wide element k of N wires is; how many there are -/
def sj_w (N k : Nat) : Nat := min 64 (N - 64 * k)
def sj_n (N : Nat) : Nat := (N + 63) / 64
theorem sj_wsum {N k : Nat} (h : 64 * k ≤ N) : sh_sum (sj_w N) k = 64 * k := by
  induction k with
  | zero => rfl
  | succ k ih =>
    show sh_sum (sj_w N) k + sj_w N k = _
    rw [ih (by omega)]
    unfold sj_w
    omega
theorem sj_wsum2 (N : Nat) : sh_sum (sj_w N) (sj_n N) = N := by
  have hn : sj_n N = 0 ∨ ∃ k, sj_n N = k + 1 := by cases sj_n N <;> simp
  rcases hn with h | ⟨k, h⟩
  · rw [h]
    unfold sj_n at h
    show 0 = N
    omega
  · rw [h]
    unfold sj_n at h
    show sh_sum (sj_w N) k + sj_w N k = N
    rw [sj_wsum (by omega)]
    unfold sj_w
    omega
theorem sj_wat {N k i : Nat} (h : i < sj_w N k) : sh_sum (sj_w N) k = 64 * k ∧ 64 * k + i < N ∧ i < 64 ∧ k < sj_n N := by
  have h2 : i < 64 ∧ 64 * k + i < N := by unfold sj_w at h; omega
  exact ⟨sj_wsum (by omega), h2.2, h2.1, by unfold sj_n; omega⟩
/-- Elements.begin, where the wires come later -/
theorem sj_102 {x a S : Nat} {W : Nat → Nat} {f : Nat → Nat → Nat} {m : sh_X} (h : sh_Eq x a S W f m) (ha : a < 256) (hs : sh_sum W a ≤ 1000) : ∃ m2, sf_102 x (Int32.ofNat (W a)) m = some ((), m2) ∧ sh_Eq x (a + 1) S W f m2 ∧ sh_Ef x m m2 ∧ m2.J (x + 3) a = 0 ∧ ∀ k, k ≠ a → m2.J (x + 3) k = m.J (x + 3) k := by
  have o : sh_okb (Int32.ofNat a) 256 = true := sh_okn' ha (by omega)
  have e59 : sf_102_59 x (Int32.ofNat (W a)) (Int32.ofNat a) (Int32.ofNat (sh_sum W a)) m = some ((), (m.T, sh_u2 (sh_u2 (sh_u2 m.I (x + 1) a (Int32.ofNat (sh_sum W a))) (x + 2) a (Int32.ofNat (W a))) x 4 (Int32.ofNat (a + 1)), sh_u2 m.J (x + 3) a 0, m.s)) := by
    unfold sf_102_59
    rw [if_pos o, h.am, if_pos o, if_pos o, sh_nIc (by omega), sh_nI1]
  refine ⟨(m.T, sh_u2 (sh_u2 (sh_u2 m.I (x + 1) a (Int32.ofNat (sh_sum W a))) (x + 2) a (Int32.ofNat (W a))) x 4 (Int32.ofNat (a + 1)), sh_u2 m.J (x + 3) a 0, m.s), ?_, ?_, sh_Ef.mk rfl rfl (fun c h1 h2 h3 h4 => ?_) (fun c h1 => sh_u2_cell h1), sh_u2_same, fun k hk => sh_u2_idx hk⟩
  rotate_left
  · refine sh_Eq.mk se_Is ?_ (fun k hk => ?_) (fun k hk => ?_) (fun k i hi hk => ?_)
    · rw [se_In (by omega), sh_u2_cell (by omega), sh_u2_cell (by omega)]; exact h.to
    · rw [se_Ic (by omega), sh_u2_cell (by omega)]
      by_cases e : k = a
      · subst e; rw [sh_u2_same]
      · rw [sh_u2_idx e]; exact h.fi k (by omega)
    · rw [se_Ic (by omega)]
      by_cases e : k = a
      · subst e; rw [sh_u2_same]
      · rw [sh_u2_idx e, sh_u2_cell (by omega)]; exact h.wi k (by omega)
    · rw [se_Ic (by omega), sh_u2_cell (by omega), sh_u2_cell (by omega)]; exact h.ws k i hi hk
  · show sh_u2 (sh_u2 (sh_u2 m.I (x + 1) a (Int32.ofNat (sh_sum W a))) (x + 2) a (Int32.ofNat (W a))) x 4 (Int32.ofNat (a + 1)) c = m.I c
    rw [sh_u2_cell h1, sh_u2_cell h3, sh_u2_cell h2]
  · rw [← e59]
    unfold sf_102
    rw [h.am, if_neg (sh_nI0 (by omega)), if_pos (show Int32.ofNat a < 256 from (sh_nIlt (b := 256) (by omega) (by omega)).mpr ha)]
    by_cases e : a = 0
    · rw [if_pos (by rw [e]; rfl), e]
      rfl
    · obtain ⟨a', rfl⟩ : ∃ a', a = a' + 1 := ⟨a - 1, by omega⟩
      rw [if_neg (show ¬ Int32.ofNat (a' + 1) = 0 from fun r => e ((sh_nIeq (b := 0) (by omega) (by omega)).mp r)), se_um1, if_pos (sh_okn' (by omega) (by omega)), if_pos (sh_okn' (by omega) (by omega)), sh_nIc (by omega), h.fi a' (by omega), h.wi a' (by omega), sh_nIadd]
      rfl
/-- Elements.add: wire S of all, where the elements stand -/
theorem sj_104 {x a S y : Nat} {W : Nat → Nat} {f : Nat → Nat → Nat} {m : sh_X} (h : sh_Eq x a S W f m) (hy : ∀ k i, i < W k → sh_sum W k + i = S → f k i = y) (hs : S < 1000) : ∃ m2, sf_104 x (Int32.ofNat y) m = some ((), m2) ∧ sh_Eq x a (S + 1) W f m2 ∧ sh_Ef x m m2 ∧ m2.J = m.J := by
  refine ⟨(m.T, sh_u2 (sh_u2 m.I (x + 4) S (Int32.ofNat y)) x 5 (Int32.ofNat (S + 1)), m.J, m.s), ?_, ?_, sh_Ef.mk rfl rfl (fun c h1 h2 h3 h4 => ?_) (fun c h1 => rfl), rfl⟩
  · unfold sf_104
    rw [h.to, if_pos (show Int32.ofNat S < 1000 from (sh_nIlt (b := 1000) (by omega) (by omega)).mpr hs), if_pos (sh_okn' hs (by omega)), sh_nIc (by omega), sh_nI1]
  · refine sh_Eq.mk ?_ se_Is (fun k hk => ?_) (fun k hk => ?_) (fun k i' hi' hk => ?_)
    · rw [se_In (by omega), sh_u2_cell (by omega)]; exact h.am
    · rw [se_Ic (by omega), sh_u2_cell (by omega)]; exact h.fi k hk
    · rw [se_Ic (by omega), sh_u2_cell (by omega)]; exact h.wi k hk
    · rw [se_Ic (by omega)]
      by_cases e : sh_sum W k + i' = S
      · rw [e, sh_u2_same, hy k i' hi' e]
      · rw [sh_u2_idx e]; exact h.ws k i' hi' (by omega)
  · show sh_u2 (sh_u2 m.I (x + 4) S (Int32.ofNat y)) x 5 (Int32.ofNat (S + 1)) c = m.I c
    rw [sh_u2_cell h1, sh_u2_cell h4]
/-- all the elements of N wires are begun -/
theorem sj_207 {x N : Nat} {f : Nat → Nat → Nat} {m : sh_X} (hN : N ≤ 500) (h4 : m.I x 4 = 0) (h5 : m.I x 5 = 0) : ∃ m2, sf_207 x (Int32.ofNat N) m = some ((), m2) ∧ sh_Eq x (sj_n N) 0 (sj_w N) f m2 ∧ sh_Ef x m m2 ∧ ∀ k, k < sj_n N → m2.J (x + 3) k = 0 := by
  unfold sf_207 sf_207_2
  have hn : sj_n N ≤ 8 := by unfold sj_n; omega
  obtain ⟨⟨c, m2⟩, ⟨t1, t2, t3, t4⟩, t5⟩ := sh_loop (f := fun q => sf_207_2s x (Int32.ofNat N) q.1 q.2) (n := sj_n N) (i := 0) (s := ((0 : Int32), m))
    (fun i s => s.1 = Int32.ofNat (64 * i) ∧ sh_Eq x i 0 (sj_w N) f s.2 ∧ sh_Ef x m s.2 ∧ ∀ k, k < i → s.2.J (x + 3) k = 0) (by
      rintro i ⟨c, m2⟩ hi ⟨r1, r2, r3, r4⟩
      have r1 : c = Int32.ofNat (64 * i) := r1
      subst r1
      have hi2 : 64 * i < N := by unfold sj_n at hi; omega
      obtain ⟨m3, a1, a2, a3, a4, a5⟩ := sj_102 (m := m2) r2 (by omega) (by rw [sj_wsum (by omega)]; omega)
      refine ⟨(Int32.ofNat (64 * (i + 1)), m3), ?_, rfl, a2, r3.trans a3, fun k hk => ?_⟩
      · show sf_207_2s x (Int32.ofNat N) (Int32.ofNat (64 * i)) m2 = _
        unfold sf_207_2s
        rw [if_pos ((sh_nIlt (by omega) (by omega)).mpr hi2), sh_nIs (by omega), show sf_21 64 (Int32.ofNat (N - 64 * i)) = Int32.ofNat (sj_w N i) from sh_min (a := 64) (by omega) (by omega), a1, sh_bn_some, show Int32.ofNat (64 * i) + 64 = Int32.ofNat (64 * (i + 1)) from (sh_nIadd (b := 64)).trans (by rw [Nat.mul_succ])]
      · by_cases e : k = i
        · subst e; exact a4
        · show m3.J (x + 3) k = 0
          rw [a5 k e]; exact r4 k (by omega)) (Nat.zero_le _) ⟨rfl, sh_Eq.mk h4 h5 (fun k hk => absurd hk (by omega)) (fun k hk => absurd hk (by omega)) (fun k i _ hk => absurd hk (by omega)), sh_Ef.refl m, fun k hk => absurd hk (by omega)⟩
  have t1 : c = Int32.ofNat (64 * sj_n N) := t1
  subst t1
  refine ⟨m2, t5 _ ?_, t2, t3, t4⟩
  show sf_207_2s x (Int32.ofNat N) (Int32.ofNat (64 * sj_n N)) m2 = _
  unfold sf_207_2s
  rw [if_neg (fun q => by have := (sh_nIlt (by omega) (by omega)).mp q; unfold sj_n at this; omega)]
/-- what the making of a circuit's gates leaves as it was -/
def sj_B (m m2 : sh_X) : Prop := (∀ c t, c ≠ 9 → m.T[c]? = some t → m2.T[c]? = some t) ∧ (sj_K 0 m m2) ∧ (∀ c, c < 125 → (c < 9 ∨ 27 < c) → c ≠ 59 → m2.I c = m.I c) ∧ (∀ c, c ≠ 16 → c ≠ 21 → c ≠ 26 → m2.J c = m.J c)
theorem sj_B.T {m m2 : sh_X} (h : sj_B m m2) : ∀ c t, c ≠ 9 → m.T[c]? = some t → m2.T[c]? = some t := h.1
theorem sj_B.K {m m2 : sh_X} (h : sj_B m m2) : sj_K 0 m m2 := h.2.1
theorem sj_B.I {m m2 : sh_X} (h : sj_B m m2) : ∀ c, c < 125 → (c < 9 ∨ 27 < c) → c ≠ 59 → m2.I c = m.I c := h.2.2.1
theorem sj_B.J {m m2 : sh_X} (h : sj_B m m2) : ∀ c, c ≠ 16 → c ≠ 21 → c ≠ 26 → m2.J c = m.J c := h.2.2.2
theorem sj_B.mk {m m2 : sh_X} (T : ∀ c t, c ≠ 9 → m.T[c]? = some t → m2.T[c]? = some t) (K : sj_K 0 m m2) (I : ∀ c, c < 125 → (c < 9 ∨ 27 < c) → c ≠ 59 → m2.I c = m.I c) (J : ∀ c, c ≠ 16 → c ≠ 21 → c ≠ 26 → m2.J c = m.J c) : sj_B m m2 := ⟨T, K, I, J⟩
theorem sj_B.refl (m : sh_X) : sj_B m m := sj_B.mk (fun _ _ _ h => h) (sj_K.refl m) (fun _ _ _ _ => rfl) (fun _ _ _ _ => rfl)
theorem sj_B.trans {m m2 m3 : sh_X} (h : sj_B m m2) (g : sj_B m2 m3) : sj_B m m3 := sj_B.mk (fun c t a b => g.T c t a (h.T c t a b)) (h.K.trans g.K) (fun c a b d => (g.I c a b d).trans (h.I c a b d)) (fun c a b d => (g.J c a b d).trans (h.J c a b d))
theorem sh_Gf.B {m m2 : sh_X} (h : sh_Gf m m2) : sj_B m m2 := sj_B.mk h.T h.K (fun c a b _ => h.I c a (by omega) (by omega) (by omega) (by omega)) (fun c _ _ _ => by rw [h.J])
theorem sh_Ef.B {x : Nat} {m m2 : sh_X} (hx : x = 13 ∨ x = 18 ∨ x = 23) (h : sh_Ef x m m2) : sj_B m m2 := sj_B.mk (fun c t _ e => by rw [h.T]; exact e) (sj_K.of h.T h.s (fun c _ b => h.I c (by omega) (by omega) (by omega) (by omega)) (h.I 1 (by omega) (by omega) (by omega) (by omega)) (fun c a => h.J c (by omega))) (fun c _ b _ => h.I c (by omega) (by omega) (by omega) (by omega)) (fun c a b d => h.J c (by omega))
theorem sj_B.w {m : sh_X} {i : Nat} {v : Int32} : sj_B m (m.T, sh_u2 m.I 59 i v, m.J, m.s) := sj_B.mk (fun c t _ e => e) (sj_K.of rfl rfl (fun c _ b => se_Ic (by omega)) (se_Ic (by omega)) (fun _ _ => rfl)) (fun c _ _ b => se_Ic b) (fun _ _ _ _ => rfl)
theorem sj_B.rc {n p : Nat} {m m2 : sh_X} {gs : sh_gL} (g : sh_GS gs m) (b : sj_B m m2) (h : sj_rc n p m) : sj_rc n p m2 := by
  have nT : 125 ≤ m.T.length := by obtain ⟨_, _, _, _, _, _, _, gv⟩ := g; exact gv.nT
  exact sj_rc.mk (by rw [sh_rf_eq (sj_lt (fun t => b.T 58 t (by omega)) (by omega))]; exact h.rf) (by rw [sh_ln_eq (sj_lt (fun t => b.T 1 t (by omega)) (by omega))]; exact h.ln) (by rw [b.I 58 (by omega) (by omega) (by omega)]; exact h.le) (by rw [b.I 58 (by omega) (by omega) (by omega)]; exact h.at_)
/-- the inputs of one side: N gates -/
theorem sj_206 {x N o L : Nat} {gs : sh_gL} {f : Nat → Nat → Nat} {m : sh_X} (hx : x = 13 ∨ x = 18) (g : sh_GS gs m) (hg0 : sh_gh gs = 0) (hL : gs.length = L) (hN : N ≤ 500) (hl : L + N ≤ 65536) (ho : o + N ≤ 4000) (hf : ∀ k i, f k i = L + (64 * k + i)) (h4 : m.I x 4 = 0) (h5 : m.I x 5 = 0) :
    ∃ e m2, sf_206 x (Int32.ofNat o) (Int32.ofNat N) m = some ((), m2) ∧ sh_GS (e ++ gs) m2 ∧ e.length = N ∧ (∀ y ∈ e, y = (0, 0, 0)) ∧ sh_Ev x (sj_n N) (sj_w N) f m2 ∧ sj_B m m2 ∧ (∀ j, j < N → m2.I 59 (o + j) = Int32.ofNat (L + j)) ∧ (∀ w, w < o ∨ o + N ≤ w → m2.I 59 w = m.I 59 w) ∧ (∀ k, k < sj_n N → m2.J (x + 3) k = 0) ∧ (∀ c, c < 125 → (c < 9 ∨ (12 < c ∧ c < x) ∨ x + 4 < c) → c ≠ 59 → m2.I c = m.I c) ∧ ∀ c, c ≠ x + 3 → m2.J c = m.J c := by
  obtain ⟨m1, a1, a2, a3, a4⟩ := sj_207 (f := f) hN h4 h5
  have g1 : sh_GS gs m1 := g.cong a3.T (fun c hc => a3.I c (by omega) (by omega) (by omega) (by omega))
  have L2 : 2 ≤ gs.length := g.1
  unfold sf_206 sf_206_9
  rw [a1, sh_bn_some]
  obtain ⟨⟨c, m2⟩, ⟨e, r1, r2, r3, r4, r5, r6, r7, r8, r9, r10⟩, t5⟩ := sh_loop (f := fun q => sf_206_9s x (Int32.ofNat o) (Int32.ofNat N) q.1 q.2) (n := N) (i := 0) (s := (Int32.ofNat o, m1))
    (fun i s => ∃ e, s.1 = Int32.ofNat (o + i) ∧ sh_GS (e ++ gs) s.2 ∧ e.length = i ∧ (∀ y ∈ e, y = (0, 0, 0)) ∧ sh_Eq x (sj_n N) i (sj_w N) f s.2 ∧ sj_B m1 s.2 ∧ (∀ j, j < i → s.2.I 59 (o + j) = Int32.ofNat (L + j)) ∧ (∀ w, w < o ∨ o + i ≤ w → s.2.I 59 w = m1.I 59 w) ∧ (∀ c, c < 125 → (c < 9 ∨ (12 < c ∧ c < x) ∨ x + 4 < c) → c ≠ 59 → s.2.I c = m1.I c) ∧ s.2.J = m1.J) (by
      rintro i ⟨c, m2⟩ hi ⟨e, r1, r2, r3, r4, r5, r6, r7, r8, r9, r10⟩
      have r1 : c = Int32.ofNat (o + i) := r1
      subst r1
      have r2 : sh_GS (e ++ gs) m2 := r2
      have lE : (e ++ gs).length = L + i := by rw [List.length_append]; omega
      obtain ⟨a, b, d, k, gv⟩ := r2.2.2.2
      obtain ⟨a2', b2', c2', n2', m3, k1, k2, k3⟩ := sh_st_spec (k := 0) (x := 0) (y := 0) gv (by omega) (by omega) (Or.inl ⟨rfl, rfl, Or.inr ⟨by omega, rfl, Or.inl (by unfold sh_gh; rw [sh_ga_ext (by omega)]; exact hg0)⟩⟩)
      have hG : sh_GS ([(0, 0, 0)] ++ (e ++ gs)) m3 := r2.cons k2
      rw [lE] at k1
      obtain ⟨m4, hm4⟩ : ∃ m4 : sh_X, (m3.T, sh_u2 m3.I 59 (o + i) (Int32.ofNat (L + i)), m3.J, m3.s) = m4 := ⟨_, rfl⟩
      have c4 : ∀ c, c ≠ 59 → m4.I c = m3.I c := fun c hc => by rw [← hm4]; exact se_Ic hc
      have c3 : ∀ c, c < 125 → c ≠ 9 → c ≠ 10 → c ≠ 11 → c ≠ 12 → m3.I c = m2.I c := fun c h0 h1 h2 h3 h4 => k3.I c h0 h1 h2 h3 h4
      have E4 : sh_Eq x (sj_n N) i (sj_w N) f m4 := by
        have cc : ∀ y, y < 60 → y ≠ 59 → 12 < y → m4.I y = m2.I y := fun y h1 h2 h3 => (c4 y h2).trans (c3 y (by omega) (by omega) (by omega) (by omega) (by omega))
        exact sh_Eq.mk (by rw [cc x (by omega) (by omega) (by omega)]; exact r5.am) (by rw [cc x (by omega) (by omega) (by omega)]; exact r5.to) (fun k hk => by rw [cc (x + 1) (by omega) (by omega) (by omega)]; exact r5.fi k hk) (fun k hk => by rw [cc (x + 2) (by omega) (by omega) (by omega)]; exact r5.wi k hk) (fun k i' h1 h2 => by rw [cc (x + 4) (by omega) (by omega) (by omega)]; exact r5.ws k i' h1 h2)
      obtain ⟨m5, s1, s2, s3, s4⟩ := sj_104 (y := L + i) E4 (fun k i' h1 h2 => by
        obtain ⟨q1, q2, q3, q4⟩ := sj_wat h1
        rw [hf k i']
        omega) (by omega)
      have o59 : sh_okb (Int32.ofNat (o + i)) 4000 = true := sh_okn' (by omega) (by omega)
      have i59 : m5.I 59 = m4.I 59 := s3.I 59 (by omega) (by omega) (by omega) (by omega)
      refine ⟨(Int32.ofNat (o + (i + 1)), m5), ?_, [(0, 0, 0)] ++ e, rfl, ?_, by rw [List.length_append, r3]; show 1 + i = i + 1; omega, ?_, s2, ((r6.trans k3.B).trans (by rw [← hm4]; exact sj_B.w)).trans (s3.B (by omega)), fun j hj => ?_, fun w hw => ?_, fun c h0 h1 h2 => ?_, ?_⟩
      · show sf_206_9s x (Int32.ofNat o) (Int32.ofNat N) (Int32.ofNat (o + i)) m2 = _
        unfold sf_206_9s sf_99
        rw [sh_nIadd, if_pos ((sh_nIlt (by omega) (by omega)).mpr (by omega)), if_pos (show Int32.ofNat (o + i) < 4000 from (sh_nIlt (b := 4000) (by omega) (by omega)).mpr (by omega)), show sf_19 0 0 0 m2 = some (Int32.ofNat (L + i), m3) from k1, sh_bn_some, sh_bn_some, if_pos o59, if_pos o59, sh_nIc (by omega), sh_u2_same, hm4, s1, sh_bn_some, sh_nI1]
        rfl
      · show sh_GS ([(0, 0, 0)] ++ e ++ gs) m5
        rw [List.append_assoc]
        refine hG.cong (by rw [s3.T, ← hm4]) (fun c hc => ?_)
        rw [s3.I c (by omega) (by omega) (by omega) (by omega), c4 c (by omega)]
      · intro y hy
        rcases List.mem_append.mp hy with hy | hy
        · simp at hy; exact hy
        · exact r4 y hy
      · show m5.I 59 (o + j) = _
        rw [i59]
        by_cases e : j = i
        · subst e; rw [← hm4]; exact se_Is
        · rw [← hm4, se_In (by omega), c3 59 (by omega) (by omega) (by omega) (by omega) (by omega)]
          exact r7 j (by omega)
      · show m5.I 59 w = _
        rw [i59, ← hm4, se_In (by omega), c3 59 (by omega) (by omega) (by omega) (by omega) (by omega)]
        exact r8 w (by omega)
      · show m5.I c = _
        rw [s3.I c (by omega) (by omega) (by omega) (by omega), c4 c h2, c3 c h0 (by omega) (by omega) (by omega) (by omega)]
        exact r9 c h0 h1 h2
      · show m5.J = m1.J
        rw [s4, ← hm4]
        show m3.J = m1.J
        rw [k3.J]
        exact r10) (Nat.zero_le _) ⟨[], rfl, g1, rfl, (fun y hy => absurd hy (List.not_mem_nil)), a2, sj_B.refl m1, fun j hj => absurd hj (by omega), fun _ _ => rfl, fun _ _ _ _ => rfl, rfl⟩
  have r1 : c = Int32.ofNat (o + N) := r1
  subst r1
  have E2 : sh_Eq x (sj_n N) (sh_sum (sj_w N) (sj_n N)) (sj_w N) f m2 := by rw [sj_wsum2]; exact r5
  refine ⟨e, m2, t5 _ ?_, r2, r3, r4, E2.Ev (by unfold sj_n; omega) (by rw [sj_wsum2]; omega) (fun k _ => by unfold sj_w; omega), (a3.B (by omega)).trans r6, r7, fun w hw => ?_, fun k hk => ?_, fun c h0 h1 h2 => ?_, fun c hc => ?_⟩
  · show sf_206_9s x (Int32.ofNat o) (Int32.ofNat N) (Int32.ofNat (o + N)) m2 = _
    unfold sf_206_9s
    rw [sh_nIadd, if_neg (sh_nlt0 (o + N))]
  · exact (r8 w hw).trans (by rw [a3.I 59 (by omega) (by omega) (by omega) (by omega)])
  · show m2.J (x + 3) k = 0
    rw [show m2.J = m1.J from r10]; exact a4 k hk
  · exact (r9 c h0 h1 h2).trans (a3.I c (by omega) (by omega) (by omega) (by omega))
  · show m2.J c = m.J c
    rw [show m2.J = m1.J from r10]; exact a3.J c hc
