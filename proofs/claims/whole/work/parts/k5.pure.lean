/-! CIRCUITS: one line -/
theorem sj_eta {α : Type} (q : Option (α × sh_X)) : (sh_bn q fun r m => some (r, m)) = q := by
  cases q with
  | none => rfl
  | some r => rfl
theorem sj_331 {n p x : Nat} {B : Nat → Int32} {mc mm : sh_X} (h : sj_P n B p mc mm) (hx : 0 < (sh_txs x).length) (hl : (sh_txs x).length < 90) : sf_331 x mm = some (decide (B p = Int32.ofNat ((sh_txs x).getD 0 0))) := by
  have n4 := h.n4
  have pn := h.pn
  have em : sf_249 (mm.I 66 91) mm = some (B p) := by rw [h.m.at_, sj_249 h.m n4 (by omega), h.bm]
  unfold sf_331
  rw [em, sh_bc_some, if_pos (show sh_okb 0 (sh_txn x) = true from sh_okn' (n := 0) hx (by unfold sh_txn; omega))]
  have e : sh_txc x 0 = Int32.ofNat ((sh_txs x).getD 0 0) := rfl
  rw [e]
  by_cases q : B p = Int32.ofNat ((sh_txs x).getD 0 0)
  · rw [if_pos q, decide_eq_true q]
  · rw [if_neg q, decide_eq_false q]
/-- a number and a letter -/
theorem sj_325 {n p lo hi x : Nat} {B : Nat → Int32} {mc mm : sh_X} (h : sj_P n B p mc mm) (hl : lo < 1000000) (hh : hi < 1000000) (hx : x < 256) :
    (∃ q m1 m2, (∀ F : Int32 → sh_X → Option (Option Unit × sh_X), (sh_bt (sf_201 (Int32.ofNat lo) (Int32.ofNat hi) mc) (fun m => (none, m)) fun r m11 => sh_bt (sf_204 (Int32.ofNat x) m11) (fun m => (none, m)) fun _ m12 => F r m12) = some (none, sj_ft (Int32.ofNat q) m1)) ∧ sf_325 (Int32.ofNat lo) (Int32.ofNat hi) (Int32.ofNat x) mm = some (false, sh_mft 2 (Int32.ofNat q) m2) ∧ sj_Cf mc m1 ∧ sj_Mf mm m2) ∨
    ∃ v p2 m1 m2, (∀ F : Int32 → sh_X → Option (Option Unit × sh_X), (sh_bt (sf_201 (Int32.ofNat lo) (Int32.ofNat hi) mc) (fun m => (none, m)) fun r m11 => sh_bt (sf_204 (Int32.ofNat x) m11) (fun m => (none, m)) fun _ m12 => F r m12) = F (Int32.ofNat v) m1) ∧ sf_325 (Int32.ofNat lo) (Int32.ofNat hi) (Int32.ofNat x) mm = some (true, m2) ∧ lo ≤ v ∧ v ≤ hi ∧ sj_P n B p2 m1 m2 ∧ sj_Cf mc m1 ∧ sj_Mf mm m2 ∧ m2.I 66 92 = Int32.ofNat v := by
  unfold sf_325
  rcases sj_num h hl hh with ⟨q, m1, m2, e1, e2, f1, f2⟩ | ⟨v, p2, m1, m2, e1, e2, l1, l2, P2, f1, f2, v92, v93⟩
  · exact Or.inl ⟨q, m1, m2, fun F => by rw [e1]; rfl, by rw [e2]; rfl, f1, f2⟩
  · rw [e1, e2, sh_bn_some, if_pos rfl]
    rcases sj_chr P2 hx with ⟨q, m3, m4, g1, g2, g3, g4⟩ | ⟨m3, m4, g1, g2, P3, g3, g4, g5, g6⟩
    · refine Or.inl ⟨q, m3, m4, fun F => ?_, by rw [g2]; rfl, f1.trans g3, f2.trans g4⟩
      show (sh_bt (sf_204 (Int32.ofNat x) m1) _ _) = _
      rw [g1]; rfl
    · refine Or.inr ⟨v, p2 + 1, m3, m4, fun F => ?_, by rw [g2]; rfl, l1, l2, P3, f1.trans g3, f2.trans g4, g5.trans v92⟩
      show (sh_bt (sf_204 (Int32.ofNat x) m1) _ _) = _
      rw [g1]; rfl
/-- the end of a line -/
theorem sj_44 {n nw ng k L p0 p ar v1 v2 x1 x2 : Nat} {B : Nat → Int32} {gs : sh_gL} {mc0 mm0 mc mm : sh_X} (h : sj_G n nw ng k L B p0 gs mc0 mm0) (hw0 : 1 ≤ nw) (hw4 : nw ≤ 4000) (hk : k < 2000) (hL : L ≤ 1100) (P : sj_P n B p mc mm) (hC : sj_Cf mc0 mc) (hM : sj_Ml mm0 mm)
    (e123 : mm.I 123 = mm0.I 123) (e117 : mm.I 117 = mm0.I 117) (e120 : mm.I 120 = mm0.I 120) (k118 : mm.I 118 k = Int32.ofNat v1) (k119 : mm.I 119 k = Int32.ofNat v2) (eo : ∀ c i, c = 118 ∨ c = 119 → i < k → mm.I c i = mm0.I c i) (h1 : v1 < nw) (h2 : v2 < nw) (e87 : mm.I 66 87 = mm0.I 66 87)
    (hx1 : x1 < gs.length) (hx2 : x2 < gs.length) (f1 : ∀ p, sh_va p gs x1 = sj_cv mm0.I (fun j => p (2 + j)) k v1) (f2 : ∀ p, sh_va p gs x2 = sj_cv mm0.I (fun j => p (2 + j)) k v2) (har : ar = 1 ∨ ar = 2) :
    sj_bx (sf_208_44 (Int32.ofNat ar) (Int32.ofNat x1) (Int32.ofNat x2) mc) (sf_329_82 (Int32.ofNat k) (Int32.ofNat ar) mm) mc0 mm0 ∨ ∃ p2 e m1 m2, sf_208_44 (Int32.ofNat ar) (Int32.ofNat x1) (Int32.ofNat x2) mc = some (some (), m1) ∧ sf_329_82 (Int32.ofNat k) (Int32.ofNat ar) mm = some (true, m2) ∧ sj_G n nw ng (k + 1) L B p2 (e ++ gs) m1 m2 ∧ sj_Cl mc0 m1 ∧ sj_Ml mm0 m2 := by
  have gl := h.gl
  have lg : gs.length < 65536 := by omega
  have g := hC.GS h.g
  have hd : ∀ w, w < nw → (mm.I 123 w = 0 ↔ mc.I 59 w = -1) := fun w hw => by rw [e123, hC.I 59 (by omega)]; exact h.hd (by omega) w hw
  have ok2 : sh_okb (Int32.ofNat k) 2000 = true := sh_okn' hk (by omega)
  have nb : vp_nar .boolean 1 = 1 := by decide
  rcases sj_wout _ P hw0 hw4 (by rw [hC.F 8 (by omega)]; exact h.c8) (by rw [hM.F 86 (by omega) (by omega) (by omega) (by omega)]; exact h.m86) hd (sf_329_82 (Int32.ofNat k) (Int32.ofNat ar) mm) rfl with ⟨q, m1, m2, a1, a2, a3, a4⟩ | ⟨z, p2, m1, m2, a1, a2, hz, z123, P2, a3, a4, z92⟩
  · refine Or.inl ⟨q, m1, m2, gs, ?_, a2, a3.GS g, (hC.trans a3).l, hM.trans a4.l⟩
    unfold sf_208_44
    rw [a1]
    rfl
  have oz : sh_okb (Int32.ofNat z) 4000 = true := sh_okn' (by omega) (by omega)
  have g1 := a3.GS g
  have n4 := P2.n4
  have pn2 := P2.pn
  have eB : sf_202 (m1.I 58 7) m1 = some (B p2) := by rw [P2.c.at_, sj_202 P2.c n4 (by omega), P2.bc]
  obtain ⟨nC, hnC⟩ : ∃ nC : sh_X, (m2.T, sh_u2 (sh_u2 m2.I 120 k (Int32.ofNat z)) 123 z (vp_nar .boolean 1), m2.J, m2.s) = nC := ⟨_, rfl⟩
  have C1 : sf_208_44 (Int32.ofNat ar) (Int32.ofNat x1) (Int32.ofNat x2) mc = if Int32.ofNat ar = 2 then (if B p2 = 88 then (sh_bt (sf_211 2 m1) (fun m => (none, m)) fun _ m13 => sh_bn (sf_130 (Int32.ofNat x1) (Int32.ofNat x2) m13) fun r4 m14 => sf_208_185 ⟨m14.T, sh_u2 m14.I 59 z r4, m14.J, m14.s⟩) else sf_208_94 (Int32.ofNat ar) (Int32.ofNat x1) (Int32.ofNat x2) (Int32.ofNat z) m1) else sf_208_94 (Int32.ofNat ar) (Int32.ofNat x1) (Int32.ofNat x2) (Int32.ofNat z) m1 := by
    unfold sf_208_44
    rw [a1]
    show (if Int32.ofNat ar = 2 then (sh_bc (sf_202 (m1.I 58 7) m1) fun r2 => if r2 = 88 then _ else _) else _) = _
    rw [eB, sh_bc_some]
    simp only [if_pos oz, sh_nIc (show z < 2147483648 by omega)]
  have M1 : sf_329_82 (Int32.ofNat k) (Int32.ofNat ar) mm = if Int32.ofNat ar = 2 then (sh_bc (sf_331 21 nC) fun r3 => if r3 = true then sf_329_176 (Int32.ofNat k) (Int32.ofNat k) true nC else sf_329_176 (Int32.ofNat k) (Int32.ofNat k) false nC) else (sh_bc (sf_331 24 nC) fun r4 => if r4 = true then sf_329_236 (Int32.ofNat k) (Int32.ofNat k) 3 nC else sf_329_236 (Int32.ofNat k) (Int32.ofNat k) 2 nC) := by
    rw [a2, z92, if_pos ok2, if_pos oz, sh_nIc (by omega), sh_nIc (by omega), hnC]
  have nI : ∀ c, c ≠ 120 → c ≠ 123 → nC.I c = m2.I c := fun c q1 q2 => by rw [← hnC, se_Ic q2, sh_u2_cell q1]
  have PC : sj_P n B p2 m1 nC := P2.mw (nI 67 (by omega) (by omega)) (by rw [nI 66 (by omega) (by omega)]) (by rw [nI 66 (by omega) (by omega)])
  have n123 : nC.I 123 z = 1 := by rw [← hnC, nb]; exact se_Is
  have n123o : ∀ w, w ≠ z → nC.I 123 w = mm0.I 123 w := fun w q => by rw [← hnC, se_In (fun _ => q), sh_u2_cell (by omega), a4.I 123 (by omega), e123]
  have n120 : nC.I 120 k = Int32.ofNat z := by rw [← hnC, se_Ic (by omega), sh_u2_same]
  have n120o : ∀ i, i < k → nC.I 120 i = mm0.I 120 i := fun i q => by rw [← hnC, se_Ic (by omega), sh_u2_idx (by omega), a4.I 120 (by omega), e120]
  have LC : sj_Ml mm0 nC := (hM.trans a4.l).trans (by rw [← hnC]; exact (sj_Ml.w (c := 120) (by omega)).trans (sj_Ml.w (m := (m2.T, sh_u2 m2.I 120 k (Int32.ofNat z), m2.J, m2.s)) (c := 123) (by omega)))
  have CL : sj_Cl mc0 m1 := (hC.trans a3).l
  -- the gate
  have fin : ∀ {kd dd : Int32} {x y : Nat} {l : List Nat} {nD : sh_X} {Q : sh_X → Option (Int32 × sh_X)} {W : Int32 → sh_X → sh_X} {f : (Nat → Bool) → Bool} {C : Option (Option Unit × sh_X)}, sh_txs x = l → sh_txs y = l ++ [10] → 0 < l.length → l.length < 90 → (∀ i, i < l.length → l.getD i 0 < 256) → sj_Ml nC nD → nD.I 66 91 = nC.I 66 91 → nD.I 66 87 = nC.I 66 87 + dd → nD.I 123 = nC.I 123 → nD.I 118 = nC.I 118 → nD.I 119 = nC.I 119 → nD.I 120 = nC.I 120 → nD.I 117 k = kd → (∀ i, i < k → nD.I 117 i = nC.I 117 i) → (∀ m, sh_GS gs m → sh_gop 1 gs m (Q m) f) → (∀ p, f p = sj_cg kd (sh_va p gs x1) (sh_va p gs x2)) →
      (∀ r m, (W r m).T = m.T ∧ (W r m).J = m.J ∧ (W r m).s = m.s ∧ (∀ c, c ≠ 58 → c ≠ 59 → (W r m).I c = m.I c) ∧ (∀ f, f ≠ 10 → (W r m).I 58 f = m.I 58 f) ∧ (W r m).I 59 z = r ∧ (∀ w, w ≠ z → (W r m).I 59 w = m.I 59 w) ∧ (W r m).I 58 10 = m.I 58 10 + dd) → C = (sh_bt (sf_211 x m1) (fun m => (none, m)) fun _ m13 => sh_bn (Q m13) fun r m14 => sf_208_185 (W r m14)) →
      sj_bx C (sf_328 y nD) mc0 mm0 ∨ ∃ p2 e m1 m2, C = some (some (), m1) ∧ sf_328 y nD = some (true, m2) ∧ sj_G n nw ng (k + 1) L B p2 (e ++ gs) m1 m2 ∧ sj_Cl mc0 m1 ∧ sj_Ml mm0 m2 := by
    intro kd dd x y l nD Q W f C hx hy h0 hl hc LD d91 d87 d123 d118 d119 d120 d117 d117o hQ hf hW hCe
    have PD : sj_P n B p2 m1 nD := PC.mw (LD.I 67 (by omega) (by omega) (by omega)) (LD.F 3 (by omega) (by omega) (by omega) (by omega)) d91
    rcases sj_last hx hy h0 hl hc PD g1 hQ hW hCe with q | ⟨e, r, p3, m3, m4, b1, b2, b3, b4, b5, b6, b7, b8, b9, b10, b11, b12⟩
    · exact Or.inl (q.pre CL (LC.trans LD))
    · refine Or.inr ⟨p3, e, m3, m4, b1, b2, h.next (z := z) (v1 := v1) (v2 := v2) (r := r) (kd := kd) b4 b9 b3 (CL.trans b10) ((LC.trans LD).trans b11.l) hz hw4 h1 h2 b5 (fun p => by rw [b6, hf, f1, f2]) b7 (fun w q => by rw [b8 w q, a3.I 59 (by omega), hC.I 59 (by omega)]) (by rw [b11.I 123 (by omega), d123]; exact n123) (fun w q => by rw [b11.I 123 (by omega), d123]; exact n123o w q) (by rw [b11.I 117 (by omega)]; exact d117) (by rw [b11.I 118 (by omega), d118, nI 118 (by omega) (by omega), a4.I 118 (by omega)]; exact k118) (by rw [b11.I 119 (by omega), d119, nI 119 (by omega) (by omega), a4.I 119 (by omega)]; exact k119) (by rw [b11.I 120 (by omega), d120]; exact n120) (fun c i q1 q2 q3 => ?_) (by rw [b12, a3.F 10 (by omega), hC.F 10 (by omega)]) (by rw [b11.F 87 (by omega) (by omega) (by omega), d87, nI 66 (by omega) (by omega), a4.F 87 (by omega) (by omega) (by omega), e87]), CL.trans b10, (LC.trans LD).trans b11.l⟩
      rw [b11.I c (by omega)]
      rcases (show c = 117 ∨ c = 118 ∨ c = 119 ∨ c = 120 by omega) with q | q | q | q
      · subst q; rw [d117o i q3, nI 117 (by omega) (by omega), a4.I 117 (by omega), e117]
      · subst q; rw [d118, nI 118 (by omega) (by omega), a4.I 118 (by omega)]; exact eo 118 i (by omega) q3
      · subst q; rw [d119, nI 119 (by omega) (by omega), a4.I 119 (by omega)]; exact eo 119 i (by omega) q3
      · subst q; rw [d120]; exact n120o i q3
  have W1 : ∀ (r : Int32) (m : sh_X), (sh_X.T (m.T, sh_u2 m.I 59 z r, m.J, m.s)) = m.T ∧ (sh_X.J (m.T, sh_u2 m.I 59 z r, m.J, m.s)) = m.J ∧ (sh_X.s (m.T, sh_u2 m.I 59 z r, m.J, m.s)) = m.s ∧ (∀ c, c ≠ 58 → c ≠ 59 → (sh_X.I (m.T, sh_u2 m.I 59 z r, m.J, m.s)) c = m.I c) ∧ (∀ f, f ≠ 10 → (sh_X.I (m.T, sh_u2 m.I 59 z r, m.J, m.s)) 58 f = m.I 58 f) ∧ (sh_X.I (m.T, sh_u2 m.I 59 z r, m.J, m.s)) 59 z = r ∧ (∀ w, w ≠ z → (sh_X.I (m.T, sh_u2 m.I 59 z r, m.J, m.s)) 59 w = m.I 59 w) ∧ (sh_X.I (m.T, sh_u2 m.I 59 z r, m.J, m.s)) 58 10 = m.I 58 10 + 0 := fun r m => ⟨rfl, rfl, rfl, fun c _ q => se_Ic q, fun f _ => by rw [se_Ic (by omega)], se_Is, fun w q => se_In (fun _ => q), by rw [se_Ic (by omega), Int32.add_zero]⟩
  have W2 : ∀ (r : Int32) (m : sh_X), (sh_X.T (m.T, sh_u2 (sh_u2 m.I 59 z r) 58 10 (m.I 58 10 + 1), m.J, m.s)) = m.T ∧ (sh_X.J (m.T, sh_u2 (sh_u2 m.I 59 z r) 58 10 (m.I 58 10 + 1), m.J, m.s)) = m.J ∧ (sh_X.s (m.T, sh_u2 (sh_u2 m.I 59 z r) 58 10 (m.I 58 10 + 1), m.J, m.s)) = m.s ∧ (∀ c, c ≠ 58 → c ≠ 59 → (sh_X.I (m.T, sh_u2 (sh_u2 m.I 59 z r) 58 10 (m.I 58 10 + 1), m.J, m.s)) c = m.I c) ∧ (∀ f, f ≠ 10 → (sh_X.I (m.T, sh_u2 (sh_u2 m.I 59 z r) 58 10 (m.I 58 10 + 1), m.J, m.s)) 58 f = m.I 58 f) ∧ (sh_X.I (m.T, sh_u2 (sh_u2 m.I 59 z r) 58 10 (m.I 58 10 + 1), m.J, m.s)) 59 z = r ∧ (∀ w, w ≠ z → (sh_X.I (m.T, sh_u2 (sh_u2 m.I 59 z r) 58 10 (m.I 58 10 + 1), m.J, m.s)) 59 w = m.I 59 w) ∧ (sh_X.I (m.T, sh_u2 (sh_u2 m.I 59 z r) 58 10 (m.I 58 10 + 1), m.J, m.s)) 58 10 = m.I 58 10 + 1 := fun r m => ⟨rfl, rfl, rfl, fun c q1 q => by rw [se_Ic q1, sh_u2_cell q], fun f q => by rw [se_In (fun _ => q), sh_u2_cell (by omega)], by rw [se_Ic (by omega), sh_u2_same], fun w q => by rw [se_Ic (by omega), sh_u2_idx q], se_Is⟩
  rw [C1, M1]
  rcases har with har | har
  · subst har
    rw [if_neg (by decide), if_neg (by decide), sj_331 PC (x := 24) (by decide) (by decide), sh_bc_some]
    have C94 : sf_208_94 (Int32.ofNat 1) (Int32.ofNat x1) (Int32.ofNat x2) (Int32.ofNat z) m1 = if B p2 = 73 then (sh_bt (sf_211 4 m1) (fun m => (none, m)) fun _ m14 => sh_bn (sf_141 (Int32.ofNat x1) m14) fun r5 m15 => sf_208_185 ⟨m15.T, sh_u2 m15.I 59 z r5, m15.J, m15.s⟩) else (sh_bt (sf_211 5 m1) (fun m => (none, m)) fun _ m14 => sh_bn (some (Int32.ofNat x1, m14)) fun r5 m15 => sf_208_185 ⟨m15.T, sh_u2 m15.I 59 z r5, m15.J, m15.s⟩) := by
      unfold sf_208_94
      rw [if_neg (by decide), eB, sh_bc_some]
      simp only [if_pos oz, sh_nIc (show z < 2147483648 by omega)]
      rfl
    rw [C94]
    have M236 : ∀ (kd : Int32), sf_329_236 (Int32.ofNat k) (Int32.ofNat k) kd nC = if kd = 3 then sf_328 25 (nC.T, sh_u2 nC.I 117 k kd, nC.J, nC.s) else sf_328 26 (nC.T, sh_u2 nC.I 117 k kd, nC.J, nC.s) := fun kd => by
      unfold sf_329_236 sf_329_257
      rw [if_pos ok2, if_pos ok2, sh_nIc (by omega), sh_u2_same, sj_eta, sj_eta]
    have LD : ∀ kd : Int32, sj_Ml nC (nC.T, sh_u2 nC.I 117 k kd, nC.J, nC.s) := fun kd => sj_Ml.w (by omega)
    by_cases q69 : B p2 = 69
    · rw [if_neg (by rw [q69]; decide), show decide (B p2 = Int32.ofNat ((sh_txs 24).getD 0 0)) = true from decide_eq_true q69, if_pos rfl, M236, if_pos rfl]
      exact fin (kd := 3) (x := 5) (y := 25) (l := [69, 81, 87]) (f := fun p => sh_va p gs x1) (W := fun r m => ⟨m.T, sh_u2 m.I 59 z r, m.J, m.s⟩) (Q := fun m => some (Int32.ofNat x1, m)) rfl rfl (by decide) (by decide) (by decide) (LD 3) (by rw [se_Ic (by omega)]) (by rw [se_Ic (by omega), Int32.add_zero]) (se_Ic (by omega)) (se_Ic (by omega)) (se_Ic (by omega)) (se_Ic (by omega)) se_Is (fun i q => se_In (by omega)) (fun m gm => sh_gop_same gm rfl hx1 (fun _ => rfl)) (fun p => rfl) W1 rfl
    · rw [show decide (B p2 = Int32.ofNat ((sh_txs 24).getD 0 0)) = false from decide_eq_false q69, if_neg (by decide : ¬ false = true), M236, if_neg (by decide : ¬ (2 : Int32) = 3)]
      by_cases q73 : B p2 = 73
      · rw [if_pos q73]
        exact fin (kd := 2) (x := 4) (y := 26) (l := [73, 78, 86]) (f := fun p => !sh_va p gs x1) (W := fun r m => ⟨m.T, sh_u2 m.I 59 z r, m.J, m.s⟩) (Q := fun m => sf_141 (Int32.ofNat x1) m) rfl rfl (by decide) (by decide) (by decide) (LD 2) (by rw [se_Ic (by omega)]) (by rw [se_Ic (by omega), Int32.add_zero]) (se_Ic (by omega)) (se_Ic (by omega)) (se_Ic (by omega)) (se_Ic (by omega)) se_Is (fun i q => se_In (by omega)) (fun m gm => sh_141 gm hx1 lg) (fun p => rfl) W1 rfl
      · rw [if_neg q73]
        left
        have PD : sj_P n B p2 m1 (nC.T, sh_u2 nC.I 117 k 2, nC.J, nC.s) := PC.mw (se_Ic (by omega)) (by rw [se_Ic (by omega)]) (by rw [se_Ic (by omega)])
        obtain ⟨q, m3, m4, b1, b2, b3, b4⟩ := sj_mis (x := 5) (y := 26) (a := 69) (b := 73) (F := fun _ m14 => sh_bn (some (Int32.ofNat x1, m14)) fun r5 m15 => sf_208_185 ⟨m15.T, sh_u2 m15.I 59 z r5, m15.J, m15.s⟩) PD (by decide) (by decide) (by decide) (by decide) rfl rfl q69 q73
        exact ⟨q, m3, m4, gs, b1, b2, b3.GS g1, CL.trans b3.l, (LC.trans (LD 2)).trans b4.l⟩
  · subst har
    rw [if_pos (show Int32.ofNat 2 = 2 from rfl), if_pos (show Int32.ofNat 2 = 2 from rfl), sj_331 PC (x := 21) (by decide) (by decide), sh_bc_some]
    have C94 : sf_208_94 (Int32.ofNat 2) (Int32.ofNat x1) (Int32.ofNat x2) (Int32.ofNat z) m1 = (sh_bt (sf_211 3 m1) (fun m => (none, m)) fun _ m14 => sh_bn (sf_132 (Int32.ofNat x1) (Int32.ofNat x2) m14) fun r5 m15 => sf_208_185 ⟨m15.T, sh_u2 (sh_u2 m15.I 59 z r5) 58 10 (m15.I 58 10 + 1), m15.J, m15.s⟩) := by
      unfold sf_208_94
      rw [if_pos (show Int32.ofNat 2 = 2 from rfl)]
      simp only [if_pos oz, sh_nIc (show z < 2147483648 by omega)]
    rw [C94]
    have M176 : ∀ (b : Bool), sf_329_176 (Int32.ofNat k) (Int32.ofNat k) b nC = if sh_b2 b = 1 then sf_328 22 (nC.T, sh_u2 (sh_u2 nC.I 117 k (sh_b2 b)) 66 87 (nC.I 66 87 + sh_b2 b), nC.J, nC.s) else sf_328 23 (nC.T, sh_u2 (sh_u2 nC.I 117 k (sh_b2 b)) 66 87 (nC.I 66 87 + sh_b2 b), nC.J, nC.s) := fun b => by
      unfold sf_329_176 sf_329_212
      rw [if_pos ok2, if_pos ok2, if_pos ok2, sh_nIc (by omega), sh_u2_same, sj_eta, sj_eta]
    have LD : ∀ b : Int32, sj_Ml nC (nC.T, sh_u2 (sh_u2 nC.I 117 k b) 66 87 (nC.I 66 87 + b), nC.J, nC.s) := fun b => (sj_Ml.w (c := 117) (i := k) (x := b) (by omega)).trans (sj_Ml.w (m := (nC.T, sh_u2 nC.I 117 k b, nC.J, nC.s)) (c := 66) (by omega))
    have dI : ∀ (b : Int32) c, c ≠ 66 → c ≠ 117 → sh_X.I (nC.T, sh_u2 (sh_u2 nC.I 117 k b) 66 87 (nC.I 66 87 + b), nC.J, nC.s) c = nC.I c := fun b c q1 q2 => by rw [se_Ic q1, sh_u2_cell q2]
    have dF : ∀ (b : Int32) f, f ≠ 87 → sh_X.I (nC.T, sh_u2 (sh_u2 nC.I 117 k b) 66 87 (nC.I 66 87 + b), nC.J, nC.s) 66 f = nC.I 66 f := fun b f q1 => by rw [se_In (fun _ => q1), sh_u2_cell (by omega)]
    have d7 : ∀ (b : Int32), sh_X.I (nC.T, sh_u2 (sh_u2 nC.I 117 k b) 66 87 (nC.I 66 87 + b), nC.J, nC.s) 117 k = b := fun b => by rw [se_Ic (by omega), sh_u2_same]
    have d7o : ∀ (b : Int32) i, i < k → sh_X.I (nC.T, sh_u2 (sh_u2 nC.I 117 k b) 66 87 (nC.I 66 87 + b), nC.J, nC.s) 117 i = nC.I 117 i := fun b i q => by rw [se_Ic (by omega), sh_u2_idx (by omega)]
    by_cases q65 : B p2 = 65
    · rw [if_neg (by rw [q65]; decide), show decide (B p2 = Int32.ofNat ((sh_txs 21).getD 0 0)) = true from decide_eq_true q65, if_pos rfl, M176, if_pos (show sh_b2 true = 1 from rfl)]
      exact fin (kd := 1) (x := 3) (y := 22) (l := [65, 78, 68]) (f := fun p => sh_va p gs x1 && sh_va p gs x2) (W := fun r m => ⟨m.T, sh_u2 (sh_u2 m.I 59 z r) 58 10 (m.I 58 10 + 1), m.J, m.s⟩) (Q := fun m => sf_132 (Int32.ofNat x1) (Int32.ofNat x2) m) rfl rfl (by decide) (by decide) (by decide) (LD 1) (dF 1 91 (by omega)) se_Is (dI 1 123 (by omega) (by omega)) (dI 1 118 (by omega) (by omega)) (dI 1 119 (by omega) (by omega)) (dI 1 120 (by omega) (by omega)) (d7 1) (d7o 1) (fun m gm => sh_132 gm hx1 hx2 lg) (fun p => rfl) W2 rfl
    · rw [show decide (B p2 = Int32.ofNat ((sh_txs 21).getD 0 0)) = false from decide_eq_false q65, if_neg (by decide : ¬ false = true), M176, if_neg (by decide : ¬ sh_b2 false = 1)]
      by_cases q88 : B p2 = 88
      · rw [if_pos q88]
        exact fin (kd := 0) (x := 2) (y := 23) (l := [88, 79, 82]) (f := fun p => Bool.xor (sh_va p gs x1) (sh_va p gs x2)) (W := fun r m => ⟨m.T, sh_u2 m.I 59 z r, m.J, m.s⟩) (Q := fun m => sf_130 (Int32.ofNat x1) (Int32.ofNat x2) m) rfl rfl (by decide) (by decide) (by decide) (LD 0) (dF 0 91 (by omega)) se_Is (dI 0 123 (by omega) (by omega)) (dI 0 118 (by omega) (by omega)) (dI 0 119 (by omega) (by omega)) (dI 0 120 (by omega) (by omega)) (d7 0) (d7o 0) (fun m gm => sh_130 gm hx1 hx2 lg) (fun p => rfl) W1 rfl
      · rw [if_neg q88]
        left
        have PD : sj_P n B p2 m1 (nC.T, sh_u2 (sh_u2 nC.I 117 k 0) 66 87 (nC.I 66 87 + 0), nC.J, nC.s) := PC.mw (dI 0 67 (by omega) (by omega)) (dF 0 3 (by omega)) (dF 0 91 (by omega))
        obtain ⟨q, m3, m4, b1, b2, b3, b4⟩ := sj_mis (x := 3) (y := 23) (a := 65) (b := 88) (F := fun _ m14 => sh_bn (sf_132 (Int32.ofNat x1) (Int32.ofNat x2) m14) fun r5 m15 => sf_208_185 ⟨m15.T, sh_u2 (sh_u2 m15.I 59 z r5) 58 10 (m15.I 58 10 + 1), m15.J, m15.s⟩) PD (by decide) (by decide) (by decide) (by decide) rfl rfl q65 q88
        exact ⟨q, m3, m4, gs, b1, b2, b3.GS g1, CL.trans b3.l, (LC.trans (LD 0)).trans b4.l⟩
