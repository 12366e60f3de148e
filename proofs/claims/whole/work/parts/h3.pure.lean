/-! EVALUATION: blocks -/
/-- names and top of the model's memory as they were -/
def se_rs (q tp : Nat) (m : sh_X) : sh_X := (m.T, sh_u2 (sh_u2 m.I 66 53 (Int32.ofNat q)) 66 41 (Int32.ofNat tp), m.J, m.s)
theorem se_rsI {q tp c : Nat} {m : sh_X} (h : c ≠ 66) : (se_rs q tp m).I c = m.I c := by
  show sh_u2 (sh_u2 m.I 66 53 (Int32.ofNat q)) 66 41 (Int32.ofNat tp) c = m.I c
  rw [sh_u2_cell h, sh_u2_cell h]
theorem se_rsF {q tp f : Nat} {m : sh_X} (h : f ≠ 41) (h2 : f ≠ 53) : (se_rs q tp m).I 66 f = m.I 66 f := by
  show sh_u2 (sh_u2 m.I 66 53 (Int32.ofNat q)) 66 41 (Int32.ofNat tp) 66 f = m.I 66 f
  rw [sh_u2_idx h, sh_u2_idx h2]
theorem se_rs41 {q tp : Nat} {m : sh_X} : (se_rs q tp m).I 66 41 = Int32.ofNat tp := by
  show sh_u2 (sh_u2 m.I 66 53 (Int32.ofNat q)) 66 41 (Int32.ofNat tp) 66 41 = _
  exact sh_u2_same
theorem se_rs53 {q tp : Nat} {m : sh_X} : (se_rs q tp m).I 66 53 = Int32.ofNat q := by
  show sh_u2 (sh_u2 m.I 66 53 (Int32.ofNat q)) 66 41 (Int32.ofNat tp) 66 53 = _
  rw [sh_u2_idx (by omega), sh_u2_same]
theorem se_rsG {q tp tq qq uu ll : Nat} {m : sh_X} : se_G0 tq qq uu ll m (se_rs q tp m) := (se_G0.wF (f := 53) (x := Int32.ofNat q) (by omega)).trans (se_G0.wF (f := 41) (x := Int32.ofNat tp) (by omega)) (Nat.le_refl _) (Nat.le_refl _) (Nat.le_refl _) (Nat.le_refl _)
theorem se_mftrs {k x : Int32} {q tp : Nat} {m : sh_X} : se_rs q tp (sh_mft k x m) = sh_mft k x (se_rs q tp m) := by
  show (m.T, sh_u2 (sh_u2 (sh_u2 (sh_u2 m.I 66 6 k) 66 7 x) 66 53 (Int32.ofNat q)) 66 41 (Int32.ofNat tp), m.J, m.s) = (m.T, sh_u2 (sh_u2 (sh_u2 (sh_u2 m.I 66 53 (Int32.ofNat q)) 66 41 (Int32.ofNat tp)) 66 6 k) 66 7 x, m.J, m.s)
  rw [se_u2c (i := 7) (j := 53) (by omega), se_u2c (i := 6) (j := 53) (by omega), se_u2c (i := 7) (j := 41) (by omega), se_u2c (i := 6) (j := 41) (by omega)]
section
variable {N : Nat} {K : Nat → Int32} {P V : Nat → Nat} {A C : Nat → Nat → Int32} {p : Nat → Bool} {pf : Nat → Nat} {F c2 un e i j n len d bb sg dq : Nat} {gs : sh_gL} {u z q B M fr cl sp cw ifs cd kn inn tp li : Nat} {ac : Bool} {mc mm : sh_X}
theorem se_m.rs {q0 tp0 : Nat} {m : sh_X} (h : se_m N K P V A q B sp ifs cd kn inn tp li ac m) : se_m N K P V A q0 B sp ifs cd kn inn tp0 li ac (se_rs q0 tp0 m) :=
  se_m.mk (h.we.same (se_rsI (by omega)) (se_rsI (by omega)) (se_rsI (by omega)) (se_rsI (by omega))) (fun y h1 h2 => (se_rsI (by omega)).trans (h.aa y h1 h2)) se_rs41 ((se_rsF (by omega) (by omega)).trans h.msp) se_rs53 ((se_rsF (by omega) (by omega)).trans h.mB) ((se_rsF (by omega) (by omega)).trans h.mkn) ((se_rsF (by omega) (by omega)).trans h.mif) ((se_rsF (by omega) (by omega)).trans h.mac) ((se_rsF (by omega) (by omega)).trans h.min_) ((se_rsF (by omega) (by omega)).trans h.mcd) ((se_rsF (by omega) (by omega)).trans h.mli) h.ia
/-- names and memory back, behind a list -/
theorem se_rest {gs0 e' : sh_gL} {u0 q0 tp0 cw0 n2 u2 sp2 tp2 q2 : Nat} {ac0 : Bool} {mc0 mm0 mc2 mm2 : sh_X} (h0 : se_J N K V p gs0 u0 q0 B M tp0 cw0 ac0 mc0 mm0) (g : se_So N K P V A C p F un j n len bb gs u z q B M fr cl sp cw ifs cd kn inn li ac mc mm e' n2 mc2 mm2 u2 sp2 tp2 q2) (hq : q0 ≤ q) (ht : tp0 ≤ 1000000) (ht2 : tp2 ≤ 1000000) (hk : ∀ i, i < q0 → mm.I 96 i = mm0.I 96 i ∧ mm.I 97 i = mm0.I 97 i) :
    se_m N K P V A q0 B sp2 ifs cd kn inn tp0 li ac (se_rs q0 tp0 mm2) ∧ se_J N K V p (e' ++ gs) u2 q0 B M tp0 cw ac mc2 (se_rs q0 tp0 mm2) ∧ se_G2 M q un li mm (se_rs q0 tp0 mm2) ∧ (se_rs q0 tp0 mm2).I 66 73 = Int32.ofNat un ∧ (kn < F ∨ 0 < ifs → se_No mc mc2 mm (se_rs q0 tp0 mm2)) := by
  have L := fun (x : Nat) => Nat.le_refl x
  have lq := g.lq
  have J1 : se_J N K V p (e' ++ gs) u2 q0 B M tp0 cw ac mc2 mm2 := h0.drop g.hJ (by omega) ht ht2 (fun i hi => by
    obtain ⟨a1, a2⟩ := hk i hi
    obtain ⟨_, _, _, b1, b2, _⟩ := g.hG.na i (by omega)
    exact ⟨b1.trans a1, b2.trans a2⟩)
  have J2 := J1.keep0 (e := []) (z := 0) (fr := 0) (cl := 0) (un := 0) (li := 0) (se_F.refl mc2) (se_rsG (q := q0) (tp := tp0)) (L _) (L _)
  refine ⟨g.hm.rs, J2, g.hG.trans se_rsG.G2 (L _) (L _) (L _) (L _), (se_rsF (by omega) (by omega)).trans g.w73, fun r => (g.no r).trans (se_No.mk (fun _ _ _ => rfl) (fun _ _ => rfl) (fun x a b => se_rsI (by omega)) (fun _ _ _ _ _ _ => rfl))⟩
/-- a list, as a block has it: where it is empty, it needs no room -/
theorem se_lst0 {nL : Nat} {r b s : Nat → Nat} {x : Int32} (hr : ∀ k, k < nL → r k < 9000 ∧ A 77 (r k) = (if k + 1 < nL then Int32.ofNat (r (k + 1)) else -1) ∧ P (s k) ≤ P (s (k + 1)) ∧ se_SK N K P V A C p pf F c2 kn (r k) (b k) (b (k + 1)) d (P (s (k + 1)) - P (s k))) (hx : x = if 0 < nL then Int32.ofNat (r 0) else -1)
    (tx : sh_Txt N K P V) (hc : se_c N K P V C gs u z q B fr cl sp cw ifs cd kn mc) (hm : se_m N K P V A q B sp ifs cd kn inn tp li ac mm) (hJ : se_J N K V p gs u q B M tp cw ac mc mm) (hat : mc.I 41 13 = Int32.ofNat (b 0)) (w73 : mm.I 66 73 = Int32.ofNat un) (bd : 0 < nL → se_Bd P pf F n gs.length u z q fr cl sp cd kn tp li un dq d len bb sg) (q4 : 4 * q ≤ bb) (t16 : tp ≤ 16 * bb) (s3 : sp ≤ 3000) (lB : B ≤ q) (c10 : C 28 10 = Int32.ofNat c2) (c6 : c2 ≤ 6000) (ifb : ifs ≤ bb ∧ inn ≤ sp) (hin : (kn < F ∧ 0 < inn) ∨ (kn = F ∧ inn = 0)) (hl : P (s nL) ≤ P (s 0) + len) :
    se_bad N P mc mm (sf_78_10 (Int32.ofNat n) mc) (sf_290 (sq_279 (dq + 3)) x mm) ∨
    ∃ e' n2 mc2 mm2 u2 sp2 tp2 q2, sf_78_10 (Int32.ofNat n) mc = sf_78_10 (Int32.ofNat n2) mc2 ∧ sf_290 (sq_279 (dq + 3)) x mm = some (true, mm2) ∧ se_So N K P V A C p F un (b nL) n len bb gs u z q B M fr cl sp cw ifs cd kn inn li ac mc mm e' n2 mc2 mm2 u2 sp2 tp2 q2 := by
  by_cases h0 : 0 < nL
  · exact se_list hr hx (se_Ps.mk tx hc hm hJ hat w73 (bd h0) lB c10 c6 ifb hin) hl
  · right
    have n0 : nL = 0 := by omega
    subst n0
    refine ⟨[], n, mc, mm, u, sp, tp, q, rfl, ?_, (se_So.refl hat hc hm hJ w73 q4 t16 s3).more (Nat.zero_le _)⟩
    rw [hx, if_neg h0]
    unfold sf_290 sf_290_2
    exact sh_wend (f := fun q => sf_290_2s (sq_279 (dq + 3)) q.1 q.2) (by
      show sf_290_2s (sq_279 (dq + 3)) (-1) mm = _
      unfold sf_290_2s
      rw [if_pos (by decide)])
/-- the model's block -/
theorem se_320 {x : Int32} (h53 : mm.I 66 53 = Int32.ofNat q) (h41 : mm.I 66 41 = Int32.ofNat tp) {bo : Bool} {m : sh_X} (h : sf_290 (sq_279 (dq + 3)) x mm = some (bo, m)) : sf_320 (sq_279 (dq + 4)) x mm = some (bo, se_rs q tp m) := by
  unfold sf_320
  show (sh_bn (sf_290 (sq_279 (dq + 3)) x mm) _) = _
  rw [h, sh_bn_some, h53, h41]
  rfl
/-- the names of the class back -/
theorem se_146 {q0 : Nat} (hc : se_c N K P V C gs u z q B fr cl sp cw ifs cd kn mc) (hq : q0 ≤ q) (hl : q ≤ 100000) : sf_146 (Int32.ofNat q0) mc = some ((), (mc.T, sh_u2 mc.I 53 4 (Int32.ofNat q0), mc.J, mc.s)) := by
  have e : sf_42 0 (sf_21 (mc.I 53 4) (Int32.ofNat q0)) = Int32.ofNat q0 := by
    have e21 : sf_21 (mc.I 53 4) (Int32.ofNat q0) = Int32.ofNat q0 := by
      unfold sf_21
      rw [hc.cq]
      by_cases h : q0 < q
      · rw [if_pos ((sh_nIlt (by omega) (by omega)).mpr h)]
      · rw [if_neg (fun r => h ((sh_nIlt (by omega) (by omega)).mp r)), show q = q0 by omega]
    rw [e21]
    unfold sf_42
    by_cases h : 0 < q0
    · rw [if_pos ((se_0lt (by omega)).mpr h)]
    · rw [if_neg (fun r => h ((se_0lt (by omega)).mp r)), show q0 = 0 by omega]
      rfl
  unfold sf_146
  rw [e]
theorem se_145 {k x : Nat} (hc : se_c N K P V C gs u z q B fr cl sp cw ifs cd kn mc) (hk : 0 < k) (hk2 : k ≤ fr) (hf : fr ≤ 1000) (hx : mc.I 42 (fr - k) = Int32.ofNat x) : sf_145 (Int32.ofNat k) mc = some (Int32.ofNat x) := by
  unfold sf_145
  rw [if_pos ((se_0lt (by omega)).mpr hk), hc.cfr, if_neg (fun r => by have := (sh_nIlt (by omega) (by omega)).mp r; omega), sh_nIsub hk2, if_pos (sh_okn' (by omega) (by omega)), sh_nIc (by omega), hx]
/-- END of an if -/
theorem se_147 {q0 cw0 : Nat} (hc : se_c N K P V C gs u z q B (fr + 3) cl sp cw (ifs + 1) cd kn mc) (hq : q0 ≤ q) (hl : q ≤ 100000) (hf : fr ≤ 900) (a1 : mc.I 42 (fr + 1) = Int32.ofNat cw0) (a2 : mc.I 42 (fr + 2) = Int32.ofNat q0) :
    ∃ m2, sf_147 mc = some ((), m2) ∧ se_c N K P V C gs u z q0 B fr cl sp cw0 ifs cd kn m2 ∧ (∀ {u z q fr cl : Nat}, se_F u z q fr cl mc m2) ∧ m2.I 41 13 = mc.I 41 13 := by
  have L := fun (x : Nat) => Nat.le_refl x
  obtain ⟨m1, p1, p2, p3, p4⟩ := se_148 hc (by omega)
  have c2 := p2.w_q (y := q0)
  obtain ⟨m3, q1, q2, q3, q4⟩ := se_148 c2 (by omega)
  have c4 := q2.w_cw (y := cw0)
  obtain ⟨m5, r1, r2, r3, r4⟩ := se_148 c4 (by omega)
  have c6 := r2.w_ifs (y := ifs)
  have e1 : sh_X.I (m1.T, sh_u2 m1.I 53 4 (Int32.ofNat q0), m1.J, m1.s) 42 (fr + 1) = Int32.ofNat cw0 := by rw [se_Ic (by omega), p4]; exact a1
  have b1 : m1.I 41 13 = mc.I 41 13 := by
    unfold sf_148 sf_148_17 at p1
    rw [hc.cfr, if_pos ((se_0lt (by omega)).mpr (by omega)), se_um1, se_Is, if_pos (sh_okn' (by omega) (by omega))] at p1
    have e := congrArg (fun o => o.map (fun y => y.2.I 41 13)) p1
    simp only [Option.map_some] at e
    have e' := Option.some.inj e
    rw [← e', se_In (by omega)]
  have b3 : m3.I 41 13 = m1.I 41 13 := by
    unfold sf_148 sf_148_17 at q1
    rw [c2.cfr, if_pos ((se_0lt (by omega)).mpr (by omega)), se_um1, se_Is, if_pos (sh_okn' (by omega) (by omega))] at q1
    have e := congrArg (fun o => o.map (fun y => y.2.I 41 13)) q1
    simp only [Option.map_some] at e
    have e' := Option.some.inj e
    rw [← e', se_In (by omega), se_Ic (by omega)]
  have b5 : m5.I 41 13 = m3.I 41 13 := by
    unfold sf_148 sf_148_17 at r1
    rw [c4.cfr, if_pos ((se_0lt (by omega)).mpr (by omega)), se_um1, se_Is, if_pos (sh_okn' (by omega) (by omega))] at r1
    have e := congrArg (fun o => o.map (fun y => y.2.I 41 13)) r1
    simp only [Option.map_some] at e
    have e' := Option.some.inj e
    rw [← e', se_In (by omega), se_In (by omega)]
  refine ⟨_, ?_, c6, fun {u z q fr cl} => ?_, ?_⟩
  · unfold sf_147
    rw [p1, sh_bn_some, a2, se_146 p2 hq hl, sh_bn_some, q1, sh_bn_some, e1, r1, sh_bn_some, r2.cif, se_um1]
  · exact ((((p3.trans (se_F.wI (c := 53) (i := 4) (x := Int32.ofNat q0) (by omega) (by omega) (by omega) (by omega) (by omega) (by omega)) (L _) (L _) (L _) (L _) (L _)).trans q3 (L _) (L _) (L _) (L _) (L _)).trans (se_F.wI (c := 41) (i := 15) (x := Int32.ofNat cw0) (by omega) (by omega) (by omega) (by omega) (by omega) (by omega)) (L _) (L _) (L _) (L _) (L _)).trans r3 (L _) (L _) (L _) (L _) (L _)).trans (se_F.wI (c := 41) (i := 16) (x := Int32.ofNat ifs) (by omega) (by omega) (by omega) (by omega) (by omega) (by omega)) (L _) (L _) (L _) (L _) (L _)
  · rw [se_In (by omega), b5, b3, b1]
/-- ELSE of an if -/
theorem se_144 {q0 cw0 x : Nat} (hc : se_c N K P V C gs u z q B (fr + 3) cl sp cw ifs cd kn mc) (hq : q0 ≤ q) (hl : q ≤ 100000) (hf : fr ≤ 900) (a0 : mc.I 42 fr = Int32.ofNat x) (a1 : mc.I 42 (fr + 1) = Int32.ofNat cw0) (a2 : mc.I 42 (fr + 2) = Int32.ofNat q0) (hx : x < gs.length) (hcw : cw0 < gs.length) (hg : gs.length + 2 ≤ 65536) :
    ∃ e' cw2 m2, sf_144 mc = some ((), m2) ∧ e'.length ≤ 2 ∧ se_c N K P V C (e' ++ gs) u z q0 B (fr + 3) cl sp cw2 ifs cd kn m2 ∧ (∀ {z q fr cl : Nat}, se_F u z q fr cl mc m2) ∧ m2.I 41 13 = mc.I 41 13 ∧ m2.I 42 = mc.I 42 ∧ cw2 < (e' ++ gs).length ∧ sh_va p (e' ++ gs) cw2 = (sh_va p gs cw0 && !sh_va p gs x) := by
  have L := fun (x : Nat) => Nat.le_refl x
  have c1 := hc.w_q (y := q0)
  have f1 : ∀ {u z q fr cl : Nat}, se_F u z q fr cl mc (mc.T, sh_u2 mc.I 53 4 (Int32.ofNat q0), mc.J, mc.s) := fun {u z q fr cl} => se_F.wI (by omega) (by omega) (by omega) (by omega) (by omega) (by omega)
  have k1 : ∀ c, c ≠ 53 → sh_X.I (mc.T, sh_u2 mc.I 53 4 (Int32.ofNat q0), mc.J, mc.s) c = mc.I c := fun c h => se_Ic h
  have e1 := se_145 (k := 1) hc (by omega) (by omega) (by omega) (show mc.I 42 (fr + 3 - 1) = Int32.ofNat q0 from a2)
  have e2 := se_145 (k := 2) c1 (by omega) (by omega) (by omega) (show sh_X.I (mc.T, sh_u2 mc.I 53 4 (Int32.ofNat q0), mc.J, mc.s) 42 (fr + 3 - 2) = Int32.ofNat cw0 by rw [k1 42 (by omega)]; exact a1)
  have e3 := se_145 (k := 3) c1 (by omega) (by omega) (by omega) (show sh_X.I (mc.T, sh_u2 mc.I 53 4 (Int32.ofNat q0), mc.J, mc.s) 42 (fr + 3 - 3) = Int32.ofNat x by rw [k1 42 (by omega)]; exact a0)
  obtain ⟨g1, r1, m3, t1, t2, t3, t4, t5, t6, t7, t8⟩ := se_gop c1 (sh_141 c1.rs.1 hx (by omega))
  have k2 := sh_keep1 (e := g1) hcw (fun _ => rfl)
  have gl : (g1 ++ gs).length = g1.length + gs.length := List.length_append
  obtain ⟨g2, r2, m4, s1, s2, s3, s4, s5, s6, s7, s8⟩ := se_gop t3 (sh_132 t3.rs.1 k2.1 t5 (by omega))
  have c5 := s3.w_cw (y := r2)
  have ee : g2 ++ (g1 ++ gs) = (g2 ++ g1) ++ gs := by rw [List.append_assoc]
  rw [ee] at c5 s5 s6
  refine ⟨g2 ++ g1, r2, _, ?_, by rw [List.length_append]; omega, c5, fun {z q fr cl} => ?_, ?_, ?_, s5, ?_⟩
  · unfold sf_144
    rw [show (1 : Int32) = Int32.ofNat 1 from rfl, e1, sh_bc_some, se_146 hc hq hl, sh_bn_some, show (2 : Int32) = Int32.ofNat 2 from rfl, e2, sh_bc_some, show (3 : Int32) = Int32.ofNat 3 from rfl, e3, sh_bc_some, t1, sh_bn_some, s1, sh_bn_some]
  · exact ((f1.trans t4 (L _) (L _) (L _) (L _) (L _)).trans s4 (L _) (L _) (L _) (L _) (L _)).trans (se_F.wI (c := 41) (i := 15) (x := Int32.ofNat r2) (by omega) (by omega) (by omega) (by omega) (by omega) (by omega)) (L _) (L _) (L _) (L _) (L _)
  · rw [se_In (by omega), s7, t7, k1 41 (by omega)]
  · rw [se_Ic (by omega), s8, t8, k1 42 (by omega)]
  · rw [s6, t6, k2.2]
end
