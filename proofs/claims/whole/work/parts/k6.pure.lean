/-! CIRCUITS: a line; all lines -/
theorem sj_line {n nw ng k L p : Nat} {B : Nat → Int32} {gs : sh_gL} {mc mm : sh_X} (h : sj_G n nw ng k L B p gs mc mm) (hw0 : 1 ≤ nw) (hw4 : nw ≤ 4000) (hk : k < 2000) (hL : L ≤ 1100) :
    sj_bx (sf_208 mc) (sf_329 (Int32.ofNat k) mm) mc mm ∨ ∃ p2 e m1 m2, sf_208 mc = some (some (), m1) ∧ sf_329 (Int32.ofNat k) mm = some (true, m2) ∧ sj_G n nw ng (k + 1) L B p2 (e ++ gs) m1 m2 ∧ sj_Cl mc m1 ∧ sj_Ml mm m2 := by
  have gl := h.gl
  have lg : gs.length < 100000 := by omega
  have ok2 : sh_okb (Int32.ofNat k) 2000 = true := sh_okn' hk (by omega)
  obtain ⟨C, hC⟩ : ∃ C, C = sf_208 mc := ⟨_, rfl⟩
  obtain ⟨M, hM⟩ : ∃ M, M = sf_329 (Int32.ofNat k) mm := ⟨_, rfl⟩
  rw [← hC, ← hM]
  unfold sf_208 at hC
  unfold sf_329 at hM
  rcases sj_325 (lo := 1) (hi := 2) (x := 32) h.P (by omega) (by omega) (by omega) with ⟨q, m1, n1, c1, d1, f1, f2⟩ | ⟨ar, p1, m1, n1, c1, d1, l1, l2, P1, f1, f2, v92⟩
  · refine Or.inl ⟨q, m1, n1, gs, hC.trans (c1 _), ?_, f1.GS h.g, f1.l, f2.l⟩
    rw [hM, show sf_325 1 2 32 mm = _ from d1]
    rfl
  have hC := hC.trans (c1 _)
  rw [show sf_325 1 2 32 mm = _ from d1, sh_bn_some, if_pos rfl] at hM
  rcases sj_325 (lo := 1) (hi := 1) (x := 32) P1 (by omega) (by omega) (by omega) with ⟨q, m2, n2, c2, d2, f3, f4⟩ | ⟨on, p2, m2, n2, c2, d2, _, _, P2, f3, f4, _⟩
  · refine Or.inl ⟨q, m2, n2, gs, hC.trans (c2 _), ?_, (f1.trans f3).GS h.g, (f1.trans f3).l, (f2.trans f4).l⟩
    rw [hM, show sf_325 1 1 32 n1 = _ from d2]
    rfl
  have hC := hC.trans (c2 _)
  rw [show sf_325 1 1 32 n1 = _ from d2, sh_bn_some, if_pos rfl] at hM
  have F1 := f1.trans f3
  have F2 := f2.trans f4
  rcases sj_win P2 hw0 hw4 (by rw [F1.F 8 (by omega)]; exact h.c8) (by rw [F2.F 86 (by omega) (by omega) (by omega)]; exact h.m86) (fun w hw => by rw [F2.I 123 (by omega), F1.I 59 (by omega)]; exact h.hd lg w hw) with ⟨q, m3, n3, c3, d3, f5, f6⟩ | ⟨v1, p3, m3, n3, c3, d3, hv1, z1, P3, f5, f6, w92⟩
  · refine Or.inl ⟨q, m3, n3, gs, ?_, ?_, (F1.trans f5).GS h.g, (F1.trans f5).l, (F2.trans f6).l⟩
    · refine hC.trans ?_
      show (sh_bt (sf_209 m2) _ _) = _
      rw [c3]; rfl
    · rw [hM, d3]; rfl
  have F3 := F1.trans f5
  have F4 := F2.trans f6
  rw [F2.I 123 (by omega)] at z1
  obtain ⟨x1, hx1, e1, y1⟩ := h.at_ hv1 z1
  rw [F1.I 59 (by omega), e1] at c3
  have hC : C = if Int32.ofNat ar = 2 then (sh_bt (sf_209 m3) (fun m => (none, m)) fun r6 m16 => sf_208_44 (Int32.ofNat ar) (Int32.ofNat x1) r6 m16) else sf_208_44 (Int32.ofNat ar) (Int32.ofNat x1) (Int32.ofNat x1) m3 := by
    refine hC.trans ?_
    show (sh_bt (sf_209 m2) _ _) = _
    rw [c3]; rfl
  obtain ⟨nA, hnA⟩ : ∃ nA : sh_X, (n3.T, sh_u2 (sh_u2 n3.I 118 k (Int32.ofNat v1)) 119 k (Int32.ofNat v1), n3.J, n3.s) = nA := ⟨_, rfl⟩
  rw [d3, sh_bn_some, if_pos rfl, if_pos ok2, if_pos ok2, v92, w92, sh_nIc (by omega), hnA] at hM
  have aI : ∀ c, c ≠ 118 → c ≠ 119 → nA.I c = n3.I c := fun c q1 q2 => by rw [← hnA, se_Ic q2, sh_u2_cell q1]
  have LA : sj_Ml mm nA := F4.l.trans (by rw [← hnA]; exact (sj_Ml.w (c := 118) (by omega)).trans (sj_Ml.w (m := (n3.T, sh_u2 n3.I 118 k (Int32.ofNat v1), n3.J, n3.s)) (c := 119) (by omega)))
  have PA : sj_P n B p3 m3 nA := P3.mw (aI 67 (by omega) (by omega)) (by rw [aI 66 (by omega) (by omega)]) (by rw [aI 66 (by omega) (by omega)])
  have a118 : nA.I 118 k = Int32.ofNat v1 := by rw [← hnA, se_Ic (by omega), sh_u2_same]
  have a119 : nA.I 119 k = Int32.ofNat v1 := by rw [← hnA]; exact se_Is
  have ao : ∀ c i, c = 118 ∨ c = 119 → i < k → nA.I c i = mm.I c i := fun c i q1 q2 => by
    rw [← F4.I c (by omega), ← hnA]
    rcases q1 with q1 | q1
    · subst q1; rw [se_Ic (by omega), sh_u2_idx (by omega)]
    · subst q1; rw [se_In (by omega), sh_u2_cell (by omega)]
  have a123 : nA.I 123 = mm.I 123 := by rw [aI 123 (by omega) (by omega), F4.I 123 (by omega)]
  have a117 : nA.I 117 = mm.I 117 := by rw [aI 117 (by omega) (by omega), F4.I 117 (by omega)]
  have a120 : nA.I 120 = mm.I 120 := by rw [aI 120 (by omega) (by omega), F4.I 120 (by omega)]
  have a87 : nA.I 66 87 = mm.I 66 87 := by rw [aI 66 (by omega) (by omega), F4.F 87 (by omega) (by omega) (by omega)]
  rcases (show ar = 1 ∨ ar = 2 by omega) with har | har
  · subst har
    rw [if_neg (by decide)] at hC hM
    rw [hC, hM]
    exact sj_44 h hw0 hw4 hk hL PA F3 LA a123 a117 a120 a118 a119 ao hv1 hv1 a87 hx1 hx1 y1 y1 (Or.inl rfl)
  · subst har
    rw [if_pos (show Int32.ofNat 2 = 2 from rfl)] at hC hM
    rcases sj_win PA hw0 hw4 (by rw [F3.F 8 (by omega)]; exact h.c8) (by rw [LA.F 86 (by omega) (by omega) (by omega) (by omega)]; exact h.m86) (fun w hw => by rw [a123, F3.I 59 (by omega)]; exact h.hd lg w hw) with ⟨q, m4, n4, c4, d4, f7, f8⟩ | ⟨v2, p4, m4, n4, c4, d4, hv2, z2, P4, f7, f8, u92⟩
    · refine Or.inl ⟨q, m4, n4, gs, ?_, ?_, (F3.trans f7).GS h.g, (F3.trans f7).l, LA.trans f8.l⟩
      · rw [hC, c4]; rfl
      · rw [hM, d4]; rfl
    rw [a123] at z2
    obtain ⟨x2, hx2, e2, y2⟩ := h.at_ hv2 z2
    rw [F3.I 59 (by omega), e2] at c4
    obtain ⟨nB, hnB⟩ : ∃ nB : sh_X, (n4.T, sh_u2 n4.I 119 k (Int32.ofNat v2), n4.J, n4.s) = nB := ⟨_, rfl⟩
    have hC : C = sf_208_44 (Int32.ofNat 2) (Int32.ofNat x1) (Int32.ofNat x2) m4 := by rw [hC, c4]; rfl
    rw [d4, sh_bn_some, if_pos rfl, if_pos ok2, u92, hnB] at hM
    have bI : ∀ c, c ≠ 119 → nB.I c = n4.I c := fun c q1 => by rw [← hnB, se_Ic q1]
    have LB : sj_Ml mm nB := (LA.trans f8.l).trans (by rw [← hnB]; exact sj_Ml.w (c := 119) (by omega))
    have PB : sj_P n B p4 m4 nB := P4.mw (bI 67 (by omega)) (by rw [bI 66 (by omega)]) (by rw [bI 66 (by omega)])
    rw [hC, hM]
    exact sj_44 h hw0 hw4 hk hL PB (F3.trans f7) LB (by rw [bI 123 (by omega), f8.I 123 (by omega)]; exact a123) (by rw [bI 117 (by omega), f8.I 117 (by omega)]; exact a117) (by rw [bI 120 (by omega), f8.I 120 (by omega)]; exact a120) (by rw [bI 118 (by omega), f8.I 118 (by omega)]; exact a118) (by rw [← hnB]; exact se_Is) (fun c i q1 q2 => by
      rcases q1 with q1 | q1
      · subst q1; rw [bI 118 (by omega), f8.I 118 (by omega)]; exact ao 118 i (by omega) q2
      · subst q1; rw [← hnB, se_In (by omega), f8.I 119 (by omega)]; exact ao 119 i (by omega) q2) hv1 hv2 (by rw [bI 66 (by omega), f8.F 87 (by omega) (by omega) (by omega)]; exact a87) hx1 hx2 y1 y2 (Or.inr rfl)
/-- the lines, from the k-th -/
theorem sj_lines {n nw ng L : Nat} {B : Nat → Int32} {x3 : Int32} (hw0 : 1 ≤ nw) (hw4 : nw ≤ 4000) (hg : ng ≤ 2000) (hL : L ≤ 1100) : ∀ (d k p : Nat) (gs : sh_gL) (mc mm : sh_X), k + d = ng → sj_G n nw ng k L B p gs mc mm → sj_bx (sf_200_117 x3 (Int32.ofNat k) mc) (sf_324_279 (Int32.ofNat k) mm) mc mm ∨ ∃ e m1 m2, sf_200_117 x3 (Int32.ofNat k) mc = sf_200_155 x3 m1 ∧ sf_324_279 (Int32.ofNat k) mm = sf_324_336 (m2.I 66 86 - m2.I 121 2) m2 ∧ sj_G n nw ng ng L B n (e ++ gs) m1 m2 ∧ sj_Cl mc m1 ∧ sj_Ml mm m2 := by
  intro d
  induction d with
  | zero =>
    intro k p gs mc mm hk h
    have e : k = ng := by omega
    subst e
    have pn := h.P.pn
    have n4 := h.P.n4
    have hs : sf_200_117s x3 (Int32.ofNat k) mc = if p < n then some (.inr (none, sj_ft (Int32.ofNat p) mc)) else sh_up (sf_200_155 x3 mc) := by
      unfold sf_200_117s
      rw [h.c9, if_neg (sh_nlt0 k), h.P.c.at_, h.P.c.le]
      by_cases q : p < n
      · rw [if_pos ((sh_nIlt (by omega) (by omega)).mpr q), if_pos q, sj_203 (by have := h.P.tl; omega)]
        rfl
      · rw [if_neg (fun r => q ((sh_nIlt (by omega) (by omega)).mp r)), if_neg q]
    have ms : sf_324_279s (Int32.ofNat k) mm = if p < n then some (.inr (false, sh_mft 2 (Int32.ofNat p) mm)) else sh_up (sf_324_336 (mm.I 66 86 - mm.I 121 2) mm) := by
      unfold sf_324_279s
      rw [h.m85, if_neg (sh_nlt0 k), h.P.m.at_, h.P.m.le]
      by_cases q : p < n
      · rw [if_pos ((sh_nIlt (by omega) (by omega)).mpr q), if_pos q, sj_252]
        rfl
      · rw [if_neg (fun r => q ((sh_nIlt (by omega) (by omega)).mp r)), if_neg q]
    by_cases q : p < n
    · rw [if_pos q] at hs ms
      exact Or.inl ⟨p, mc, mm, gs, sh_wend hs, sh_wend ms, h.g, sj_Cl.refl mc, sj_Ml.refl mm⟩
    · rw [if_neg q] at hs ms
      have e : p = n := by omega
      subst e
      refine Or.inr ⟨[], mc, mm, ?_, ?_, h, sj_Cl.refl mc, sj_Ml.refl mm⟩
      · cases hq : sf_200_155 x3 mc with
        | none => exact sh_wnone (by show sf_200_117s x3 (Int32.ofNat k) mc = none; rw [hs, hq]; rfl)
        | some r => exact sh_wend (by show sf_200_117s x3 (Int32.ofNat k) mc = _; rw [hs, hq]; rfl)
      · cases hq : sf_324_336 (mm.I 66 86 - mm.I 121 2) mm with
        | none => exact sh_wnone (by show sf_324_279s (Int32.ofNat k) mm = none; rw [ms, hq]; rfl)
        | some r => exact sh_wend (by show sf_324_279s (Int32.ofNat k) mm = _; rw [ms, hq]; rfl)
  | succ d ih =>
    intro k p gs mc mm hk h
    have hlt : Int32.ofNat k < Int32.ofNat ng := (sh_nIlt (by omega) (by omega)).mpr (by omega)
    have hs : sf_200_117s x3 (Int32.ofNat k) mc = sh_bt (sf_208 mc) (fun m => .inr ((none, m))) fun _ m11 => some (.inl (Int32.ofNat (k + 1), m11)) := by
      unfold sf_200_117s
      rw [h.c9, if_pos hlt, sh_nI1]
    have ms : sf_324_279s (Int32.ofNat k) mm = sh_bn (sf_329 (Int32.ofNat k) mm) fun r1 m11 => if r1 = true then some (.inl (Int32.ofNat (k + 1), m11)) else some (.inr (false, m11)) := by
      unfold sf_324_279s
      rw [h.m85, if_pos hlt, sh_nI1]
    rcases sj_line h hw0 hw4 (by omega) hL with ⟨q, m1, m2, gs', a1, a2, a3, a4, a5⟩ | ⟨p2, e, m1, m2, a1, a2, G2, a4, a5⟩
    · refine Or.inl ⟨q, m1, m2, gs', sh_wend ?_, sh_wend ?_, a3, a4, a5⟩
      · show sf_200_117s x3 (Int32.ofNat k) mc = _
        rw [hs, a1]; rfl
      · show sf_324_279s (Int32.ofNat k) mm = _
        rw [ms, a2]; rfl
    · have c2 : sf_200_117 x3 (Int32.ofNat k) mc = sf_200_117 x3 (Int32.ofNat (k + 1)) m1 := sh_wstep (by show sf_200_117s x3 (Int32.ofNat k) mc = _; rw [hs, a1]; rfl)
      have d2 : sf_324_279 (Int32.ofNat k) mm = sf_324_279 (Int32.ofNat (k + 1)) m2 := sh_wstep (by show sf_324_279s (Int32.ofNat k) mm = _; rw [ms, a2]; rfl)
      rw [c2, d2]
      rcases ih (k + 1) p2 (e ++ gs) m1 m2 (by omega) G2 with b | ⟨e2, m3, m4, b1, b2, b3, b4, b5⟩
      · exact Or.inl (b.pre a4 a5)
      · exact Or.inr ⟨e2 ++ e, m3, m4, b1, b2, by rw [List.append_assoc]; exact b3, a4.trans b4, a5.trans b5⟩
