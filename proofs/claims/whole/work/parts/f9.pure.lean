/-! EVALUATION: calls: RETURN -/
theorem se_317k {a b c d : Int32} {m m2 : sh_X} (h : sf_317 a b c d m = some (true, m2)) (hk : ¬ m.I 66 43 = 3) : m2 = m := by
  have f43 : ∀ {x : Int32}, sf_317_43 x m = some (true, m2) → False := by
    intro x h
    unfold sf_317_43 at h
    split at h
    · split at h
      · rw [sh_252, sh_bn_some] at h
        cases h
      · cases h
    · cases h
  unfold sf_317 sf_317_62 at h
  rw [if_neg hk] at h
  split at h
  · split at h
    · split at h
      · cases h; rfl
      · exact absurd h f43
    · exact absurd h f43
  · exact absurd h f43
/-- the class takes a number from its frames -/
theorem se_148 {N : Nat} {K : Nat → Int32} {P V : Nat → Nat} {C : Nat → Nat → Int32} {gs : sh_gL} {u z q B fr cl sp cw ifs cd kn : Nat} {m : sh_X} (h : se_c N K P V C gs u z q B (fr + 1) cl sp cw ifs cd kn m) (hf : fr < 1000) : ∃ m2, sf_148 m = some (m.I 42 fr, m2) ∧ se_c N K P V C gs u z q B fr cl sp cw ifs cd kn m2 ∧ (∀ {u z q fr cl : Nat}, se_F u z q fr cl m m2) ∧ m2.I 42 = m.I 42 := by
  refine ⟨(m.T, sh_u2 m.I 41 11 (Int32.ofNat fr), m.J, m.s), ?_, h.w_fr, se_F.wI (by omega) (by omega) (by omega) (by omega) (by omega) (by omega), se_Ic (by omega)⟩
  unfold sf_148 sf_148_17
  rw [h.cfr, if_pos ((se_0lt (by omega)).mpr (by omega)), se_um1, se_Is, if_pos (sh_okn' (by omega) (by omega)), sh_nIc (by omega), se_Ic (by omega)]
section
variable {N : Nat} {K : Nat → Int32} {P V : Nat → Nat} {A C : Nat → Nat → Int32} {p : Nat → Bool} {F c2 un n : Nat} {gs : sh_gL} {u z q B B0 fr cl sp cw ifs cd kn inn tp li : Nat} {ac : Bool} {mc mm : sh_X} {f cd0 kn0 j0 jr pv vp t k b nn tp0 : Nat} {v : Nat → Int64}
/-- the class goes back to the caller -/
theorem se_back (hc : se_c N K P V C gs u (z + 1) q B (fr + 4) cl sp cw ifs cd kn mc) (hB : B ≤ q) (hq : q ≤ 2000) (hfr : fr ≤ 900) (a0 : mc.I 42 fr = Int32.ofNat j0) (a1 : mc.I 42 (fr + 1) = Int32.ofNat B0) (a2 : mc.I 42 (fr + 2) = Int32.ofNat cd0) (a3 : mc.I 42 (fr + 3) = Int32.ofNat kn0) :
    ∃ m2, sf_161_31 mc = some (some (), m2) ∧ se_c N K P V C gs u (z + 1) B B0 fr cl sp cw ifs cd0 kn0 m2 ∧ (∀ {u z q fr cl : Nat}, se_F u z q fr cl mc m2) ∧ m2.I 41 13 = Int32.ofNat j0 := by
  have c1 := hc.w_q (y := B)
  obtain ⟨m2, b1, b2, b3, b4⟩ := se_148 c1 (by omega)
  have c3 := b2.w_kn (y := kn0)
  obtain ⟨m4, d1, d2, d3, d4⟩ := se_148 c3 (by omega)
  have c5 := d2.w_cd (y := cd0)
  obtain ⟨m6, e1, e2, e3, e4⟩ := se_148 c5 (by omega)
  have c7 := e2.w_B (y := B0)
  obtain ⟨m8, g1, g2, g3, g4⟩ := se_148 c7 (by omega)
  have w1 : sh_X.I (mc.T, sh_u2 mc.I 53 4 (Int32.ofNat B), mc.J, mc.s) 42 = mc.I 42 := se_Ic (by omega)
  have w2 : sh_X.I (m2.T, sh_u2 m2.I 41 18 (Int32.ofNat kn0), m2.J, m2.s) 42 = mc.I 42 := by rw [se_Ic (by omega), b4, w1]
  have w3 : sh_X.I (m4.T, sh_u2 m4.I 41 17 (Int32.ofNat cd0), m4.J, m4.s) 42 = mc.I 42 := by rw [se_Ic (by omega), d4, w2]
  have w4 : sh_X.I (m6.T, sh_u2 m6.I 53 5 (Int32.ofNat B0), m6.J, m6.s) 42 = mc.I 42 := by rw [se_Ic (by omega), e4, w3]
  rw [w1, a3] at b1
  rw [w2, a2] at d1
  rw [w3, a1] at e1
  rw [w4, a0] at g1
  refine ⟨(m8.T, sh_u2 m8.I 41 13 (Int32.ofNat j0), m8.J, m8.s), ?_, g2.wI (by omega), ?_, se_Is⟩
  · unfold sf_161_31 sf_146
    rw [hc.cB, hc.cq, sh_min (by omega) (by omega), show (0 : Int32) = Int32.ofNat 0 from rfl, sh_max (by omega) (by omega), Nat.max_eq_right (Nat.zero_le _), Nat.min_eq_right hB, sh_bn_some, b1, sh_bn_some, d1, sh_bn_some, e1, sh_bn_some, g1, sh_bn_some]
  · intro u z q fr cl
    have W : ∀ {m : sh_X} {c i : Nat} {x : Int32}, c = 41 ∨ c = 53 → se_F u z q fr cl m (m.T, sh_u2 m.I c i x, m.J, m.s) := fun hc => se_F.wI (by omega) (by omega) (by omega) (by omega) (by omega) (by omega)
    have L := fun (x : Nat) => Nat.le_refl x
    exact (((((((W (m := mc) (c := 53) (i := 4) (x := Int32.ofNat B) (by omega)).trans b3 (L _) (L _) (L _) (L _) (L _)).trans (W (c := 41) (i := 18) (x := Int32.ofNat kn0) (by omega)) (L _) (L _) (L _) (L _) (L _)).trans d3 (L _) (L _) (L _) (L _) (L _)).trans (W (c := 41) (i := 17) (x := Int32.ofNat cd0) (by omega)) (L _) (L _) (L _) (L _) (L _)).trans e3 (L _) (L _) (L _) (L _) (L _)).trans (W (c := 53) (i := 5) (x := Int32.ofNat B0) (by omega)) (L _) (L _) (L _) (L _) (L _)).trans (se_F.trans g3 (W (c := 41) (i := 13) (x := Int32.ofNat j0) (by omega)) (L _) (L _) (L _) (L _) (L _)) (L _) (L _) (L _) (L _) (L _)
/-- the model goes back to the caller -/
theorem se_586 {Q : sh_Q279} {n2 a : Nat} {m : sh_X} (h45 : m.I 66 45 = Int32.ofNat n2) (hn2 : n2 ≤ 32) (h46 : 0 < n2 → m.J 66 46 = Int64.ofNat a ∧ tp0 ≤ a ∧ a + n2 ≤ 70000) (htp : tp0 + 32 ≤ 70000) :
    ∃ J, sf_315_586 Q (Int32.ofNat tp0) (Int64.toInt32 (m.J 66 46)) 0 m = some (true, (m.T, sh_u2 m.I 66 41 (Int32.ofNat (tp0 + n2)), J, m.s)) ∧ (∀ c, c ≠ 66 → c ≠ 92 → J c = m.J c) ∧ (∀ j, j < tp0 → J 92 j = m.J 92 j) ∧ (n2 = 0 → J = m.J) ∧ (0 < n2 → J 66 46 = Int64.ofNat tp0 ∧ ∀ i, i < n2 → J 92 (tp0 + i) = m.J 92 (a + i)) := by
  by_cases h0 : n2 = 0
  · subst h0
    refine ⟨m.J, ?_, fun _ _ _ => rfl, fun _ _ => rfl, fun _ => rfl, fun q => absurd q (by omega)⟩
    unfold sf_315_586
    refine se_whileU ?_
    show sf_315_586s Q (Int32.ofNat tp0) (Int64.toInt32 (m.J 66 46)) 0 m = _
    unfold sf_315_586s sf_315_635
    rw [h45, if_neg (by decide), if_neg (by decide), sh_nIadd]
  · obtain ⟨b1, b2, b3⟩ := h46 (by omega)
    refine ⟨sh_u2 (se_cp m.J tp0 a n2) 66 46 (Int64.ofNat tp0), ?_, fun c h1 h2 => by rw [sh_u2_cell h1, se_cp_c h2], fun j hj => by rw [sh_u2_cell (by omega), se_cp_out (by omega)], fun q => absurd q h0, fun _ => ⟨sh_u2_same, fun i hi => by rw [sh_u2_cell (by omega), se_cp_in hi]⟩⟩
    rw [b1, se_c64 (by omega)]
    unfold sf_315_586
    refine se_cpl (D := tp0) (S := a) (n := n2) (m := m) (fun i J hi => ?_) ?_ (by omega)
    · show sf_315_586s Q (Int32.ofNat tp0) (Int32.ofNat a) (Int32.ofNat i) (m.T, m.I, J, m.s) = _
      unfold sf_315_586s
      simp only [sh_X.I]
      rw [show m.2.1 = m.I from rfl, h45, sh_nIadd, sh_nIadd, if_pos ((sh_nIlt (by omega) (by omega)).mpr hi), if_pos (sh_okn' (by omega) (by omega)), if_pos (sh_okn' (by omega) (by omega)), sh_nIc (by omega), sh_nIc (by omega), sh_nI1]
    · show sf_315_586s Q (Int32.ofNat tp0) (Int32.ofNat a) (Int32.ofNat n2) (m.T, m.I, se_cp m.J tp0 a n2, m.s) = _
      unfold sf_315_586s sf_315_635
      simp only [sh_X.I]
      rw [show m.2.1 = m.I from rfl, h45, if_neg (sh_nlt0 n2), if_pos ((se_0lt (by omega)).mpr (by omega)), se_64c (by omega), sh_nIadd]
end
