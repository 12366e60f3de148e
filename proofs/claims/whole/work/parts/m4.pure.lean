/-! BOTH OBJECTS IN ONE MEMORY: compile, circuit -/
section
variable {j : Nat} {m : sh_X}
theorem so_lE {a b : sh_X} (h : a.T = b.T) : sj_l a = sj_l b := by unfold sj_l; rw [h]
theorem so_back {kc : Nat} {mc2 mm2 : sh_X} (r : so_R j m) (K : sj_K 1 m mc2) (hT : mm2.T = mc2.T) (hs : mm2.s = mc2.s) (i0 : mm2.I 0 = mc2.I 0) (i122 : mm2.I 122 = mc2.I 122) (c10 : mc2.I 0 10 = 0) (hk : kc < 24) (c11 : mc2.I 0 11 = Int32.ofNat (kc + 1)) (c14 : mc2.I 0 14 = 0) (pl : mc2.I 0 12 = mm2.I 66 7) (m2_ : mm2.I 66 2 = 0) (m5 : mm2.I 66 5 = 0) (m80 : mm2.I 66 80 = Int32.ofNat (kc + 1)) (e4 : mc2.I 0 13 = mm2.I 66 4) (S : so_S mm2) : so_R (j + 1) mm2 := by
  obtain ⟨ra, rb, v1, v2, v3⟩ := r.V
  have T2 : ∀ c t, c ≠ 2 → c ≠ 9 → c ≠ 58 → m.T[c]? = some t → mm2.T[c]? = some t := fun c t a b d e => by rw [hT]; exact K.T c t a b d e
  have t2 : m.T.length ≤ mm2.T.length := by rw [hT]; exact K.t
  obtain ⟨w1, w2⟩ := v1.cong (m2 := mm2) T2 t2
  have l2 := so_lE hT
  refine so_R.mk ⟨0, by omega, by rw [i0]; exact c10, m2_, fun i hi => absurd hi (by omega), fun i hi => absurd hi (by omega)⟩ ⟨kc + 1, by omega, by rw [i0]; exact c11, m80⟩ (by rw [i0]; exact pl) (by rw [i0]; exact e4) (by rw [i0, c14, m5]) S ⟨ra, rb, w1, by rw [w2]; exact v2, ?_⟩ ?_ (T2 1 _ (by omega) (by omega) (by omega) r.t1) (T2 46 _ (by omega) (by omega) (by omega) r.t46) (T2 59 _ (by omega) (by omega) (by omega) r.t59) ?_
  · rw [w2, l2, hs]
    have := K.s
    omega
  · rw [i122, K.I 122 (by omega) (by omega)]
    exact r.ov
  · rw [l2, hT]
    have := K.n
    have := r.tl
    omega
theorem so_N.Q {m m2 : sh_X} (hT : m2.T = m.T) (hI : ∀ c, (9 ≤ c ∧ c ≤ 27) ∨ 125 ≤ c → m2.I c = m.I c) : sj_Q m m2 := sj_Q.mk (fun c t _ _ _ h => by rw [hT]; exact h) hI
theorem so_u2 {A B : Nat → Nat → Int32} {a k c i : Nat} {v : Int32} (h : A c i = B c i) : sh_u2 A a k v c i = sh_u2 B a k v c i := by unfold sh_u2; rw [h]
theorem so_18 {T : List sh_Tg} {I I2 : Nat → Nat → Int32} {J : Nat → Nat → Int64} {s : Nat} (h : sh_u2 I 9 3 0 = sh_u2 I2 9 3 0) : sf_18 (T, I, J, s) = sf_18 (T, I2, J, s) := by
  unfold sf_18
  show sh_bn (sf_19 0 0 0 (T, sh_u2 I 9 3 0, J, s)) _ = sh_bn (sf_19 0 0 0 (T, sh_u2 I2 9 3 0, J, s)) _
  rw [h]
/-- it doesn't matter how many gates there were -/
theorem so_17 (x : Int32) : sf_17 (so_g x m) = sf_17 m := by
  have e0 : (so_g x m).I 0 11 = m.I 0 11 := se_In (fun a => absurd a (by omega))
  have e : sh_u2 (sh_u2 (sh_u2 (sh_u2 (sh_u2 (so_g x m).I 0 11 ((so_g x m).I 0 11 + 1)) 0 13 0) 0 14 0) 0 12 (-1)) 9 3 0 = sh_u2 (sh_u2 (sh_u2 (sh_u2 (sh_u2 m.I 0 11 (m.I 0 11 + 1)) 0 13 0) 0 14 0) 0 12 (-1)) 9 3 0 := by
    rw [e0]
    funext c i
    by_cases h : c = 9 ∧ i = 3
    · obtain ⟨h1, h2⟩ := h
      subst h1
      subst h2
      rw [sh_u2_same, sh_u2_same]
    · exact so_u2 (so_u2 (so_u2 (so_u2 (so_u2 (se_In (fun a b => h ⟨a, b⟩))))))
  unfold sf_17
  show sh_bn (sf_18 (m.T, _, m.J, m.s)) _ = sh_bn (sf_18 (m.T, _, m.J, m.s)) _
  rw [so_18 e]
theorem so_gI {x : Int32} {c : Nat} (hc : c ≠ 9) : (so_g x m).I c = m.I c := se_Ic hc
theorem so_gK {x : Int32} {k : Nat} {m2 : sh_X} (h : sj_K k (so_g x m) m2) : sj_K k m m2 := by
  have g : sj_K 0 m (so_g x m) := sj_K.of rfl rfl (fun c _ a => so_gI (by omega)) (so_gI (by omega)) (fun _ _ => rfl)
  have := g.trans h
  rw [Nat.zero_add] at this
  exact this
theorem so_16 {x : Int32} (h : m.I 0 11 < 24) : sf_16 (so_g x m) = sf_16 m := by
  unfold sf_16
  rw [so_gI (by omega), if_pos h, if_pos h, so_17]
theorem so_199 {x : Int32} (h : m.I 0 11 < 24) : sf_199 (so_g x m) = sf_199 m := by
  unfold sf_199
  rw [so_gI (by omega), if_pos h, if_pos h, so_17]
theorem so_comp (r : so_R j m) (hj : j ≤ 600) : ∃ (b : Int32) (m1 m2 : sh_X), sf_16 m = some (b, m1) ∧ sf_246 m1 = some (b, m2) ∧ so_R (j + 1) m2 := by
  obtain ⟨n, n4, a1, a2, a3, a4⟩ := r.tx
  obtain ⟨kc, k1, k2, k3⟩ := r.kc
  have len := r.len hj
  rcases Nat.lt_or_ge kc 24 with hk | hk
  · obtain ⟨gs, x, g⟩ := r.S.GS
    have lt : m.I 0 11 < 24 := by rw [k2]; exact (sh_nIlt (b := 24) (by omega) (by omega)).mpr hk
    have g10 : (so_g x m).I 0 10 = Int32.ofNat n := by rw [so_gI (by omega)]; exact a1
    have g11 : (so_g x m).I 0 11 = Int32.ofNat kc := by rw [so_gI (by omega)]; exact k2
    have g1 : (so_g x m).I 1 = m.I 1 := so_gI (by omega)
    obtain ⟨b0, m1, _, c1, _, z0⟩ := sj_comp (mm := m) g r.t1 r.t46 (show m.T.length < 700000 by omega) g10 n4 hk g11 a2 k3 (fun i hi => by rw [g1]; exact a3 i hi) a4
    have K := so_gK z0.k
    have i66 := K.I 66 (by omega) (by omega)
    have i67 := K.I 67 (by omega) (by omega)
    obtain ⟨b, m1', m2, d1, d2, z⟩ := sj_comp (mm := m1) g r.t1 r.t46 (show m.T.length < 700000 by omega) g10 n4 hk g11 (by rw [i66]; exact a2) (by rw [i66]; exact k3) (fun i hi => by rw [i67, g1]; exact a3 i hi) (fun i hi => by rw [i67]; exact a4 i hi)
    have e : m1' = m1 := by rw [c1] at d1; exact (congrArg Prod.snd (Option.some.inj d1)).symm
    subst e
    have N := z.n
    have len1 : m1'.T.length ≤ 1800 := by
      have q1 := K.n
      have q2 := r.tl
      omega
    have q : sj_Q m1' m2 := so_N.Q N.T (fun c hc => N.I c (by omega) (by omega))
    refine ⟨b, m1', m2, (so_16 lt).symm.trans d1, d2, so_back r K N.T N.s (N.I 0 (by omega) (by omega)) (N.I 122 (by omega) (by omega)) z.c10 hk z.c11 z.c14 z.pl z.m2_ z.m5 z.m80 ?_ ?_⟩
    · rcases z.st with ⟨s1, s2, _⟩ | ⟨s1, s2, _⟩
      · rw [s1, s2]
      · rw [s1, s2]
    · rcases z.st with ⟨_, s2, gs2, g2⟩ | ⟨_, s2, R, nn, W, f, gs2, E, g2, D1, D2⟩
      · exact Or.inl ⟨s2, gs2, m2.I 9 3, by rw [so_gs]; exact g2.cong N.T (fun c hc => N.I c (by omega) (by omega))⟩
      · refine Or.inr (Or.inl ⟨s2, R.cong q (fun _ _ _ => rfl) (fun _ _ => rfl), nn, W, f, gs2, E.cong (fun c h1 h2 => N.I c (by omega) (by omega)) (fun _ _ _ => rfl), g2.cong N.T (fun c hc => N.I c (by omega) (by omega)), fun X hX k hk => ?_, fun h5 => absurd z.m5 h5⟩)
        have k256 : k < 256 := Nat.lt_of_lt_of_le hk (E X (by omega)).1.n1
        rw [N.J (16 + 5 * X) (by omega) (by omega), D1 X hX k hk, D2 (256 * X + k) (by omega)]
  · have e24 : kc = 24 := by omega
    subst e24
    refine ⟨-1, m, (m.T, sh_u2 m.I 66 0 0, m.J, m.s), ?_, ?_, so_Mw.R r hj r.tx.w⟩
    · unfold sf_16
      rw [k2, if_neg (show ¬ Int32.ofNat 24 < 24 by decide)]
    · unfold sf_246
      rw [k3, if_pos (show Int32.ofNat 24 = 24 from rfl)]
theorem so_circ (r : so_R j m) (hj : j ≤ 600) : ∃ (b : Int32) (m1 m2 : sh_X), sf_199 m = some (b, m1) ∧ sf_323 m1 = some (b, m2) ∧ so_R (j + 1) m2 := by
  obtain ⟨n, n4, a1, a2, a3, a4⟩ := r.tx
  obtain ⟨kc, k1, k2, k3⟩ := r.kc
  have len := r.len hj
  rcases Nat.lt_or_ge kc 24 with hk | hk
  · obtain ⟨gs, x, g⟩ := r.S.GS
    have lt : m.I 0 11 < 24 := by rw [k2]; exact (sh_nIlt (b := 24) (by omega) (by omega)).mpr hk
    have g10 : (so_g x m).I 0 10 = Int32.ofNat n := by rw [so_gI (by omega)]; exact a1
    have g11 : (so_g x m).I 0 11 = Int32.ofNat kc := by rw [so_gI (by omega)]; exact k2
    have g1 : (so_g x m).I 1 = m.I 1 := so_gI (by omega)
    obtain ⟨b0, m1, _, c1, _, z0⟩ := sj_circ (mm := m) g r.t1 r.t59 (show m.T.length < 700000 by omega) g10 n4 hk g11 a2 k3 (fun i hi => by rw [g1]; exact a3 i hi)
    have K := so_gK z0.k
    have i66 := K.I 66 (by omega) (by omega)
    have i67 := K.I 67 (by omega) (by omega)
    obtain ⟨b, m1', m2, d1, d2, z⟩ := sj_circ (mm := m1) g r.t1 r.t59 (show m.T.length < 700000 by omega) g10 n4 hk g11 (by rw [i66]; exact a2) (by rw [i66]; exact k3) (fun i hi => by rw [i67, g1]; exact a3 i hi)
    have e : m1' = m1 := by rw [c1] at d1; exact (congrArg Prod.snd (Option.some.inj d1)).symm
    subst e
    have N := z.n
    have len1 : m1'.T.length ≤ 1800 := by
      have q1 := K.n
      have q2 := r.tl
      omega
    have q : sj_Q m1' m2 := so_N.Q N.T (fun c hc => N.I c (by omega) (by omega))
    refine ⟨b, m1', m2, (so_199 lt).symm.trans d1, d2, so_back r K N.T N.s (N.I 0 (by omega) (by omega)) (N.I 122 (by omega) (by omega)) z.c10 hk z.c11 z.c14 z.pl z.m2_ z.m5 z.m80 ?_ ?_⟩
    · rcases z.st with ⟨s1, s2, _⟩ | ⟨s1, s2, _⟩
      · rw [s1, s2]
      · rw [s1, s2]
    · rcases z.st with ⟨_, s2, gs2, g2⟩ | ⟨_, s2, a, bb, o, nw, ng, f, gs2, Y, D1, D2, D3⟩
      · exact Or.inl ⟨s2, gs2, m2.I 9 3, by rw [so_gs]; exact g2.cong N.T (fun c hc => N.I c (by omega) (by omega))⟩
      · refine Or.inr (Or.inr ⟨s2, a, bb, o, nw, ng, f, gs2, Y.cong q (by rw [N.T]; omega) (N.I 58 (by omega) (by omega)) (fun _ _ _ => rfl) (fun _ _ => rfl), fun X hX k hk => ?_, fun h5 => absurd z.m5 h5⟩)
        have k256 : k < 256 := Nat.lt_of_lt_of_le hk (Y.e X (by omega)).1.n1
        rw [N.J (16 + 5 * X) (by omega) (by omega), D3 (256 * X + k) (by omega)]
        rcases (show X = 0 ∨ X = 1 by omega) with h | h
        · subst h
          exact D1 k hk
        · subst h
          exact D2 k hk
  · have e24 : kc = 24 := by omega
    subst e24
    refine ⟨-1, m, (m.T, sh_u2 m.I 66 0 0, m.J, m.s), ?_, ?_, so_Mw.R r hj r.tx.w⟩
    · unfold sf_199
      rw [k2, if_neg (show ¬ Int32.ofNat 24 < 24 by decide)]
    · unfold sf_323
      rw [k3, if_pos (show Int32.ofNat 24 = 24 from rfl)]
end
