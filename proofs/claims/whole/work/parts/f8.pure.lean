/-! EVALUATION: calls: ENTER whole -/
section
variable {N : Nat} {K : Nat → Int32} {P V : Nat → Nat} {A C : Nat → Nat → Int32} {p : Nat → Bool} {F c2 un n : Nat} {gs : sh_gL} {u z q B M fr cl sp cw ifs cd kn inn tp li : Nat} {ac : Bool} {mc mm : sh_X} {f nn dc j1 i0 : Nat}
theorem se_ent (hT : sh_Txt N K P V) (hH : sh_Hds N K V A C F) (hf : f < F) (hF : F < 256) (h80 : A 80 f = Int32.ofNat nn) (h33 : C 33 f = Int32.ofNat nn) (n8 : nn ≤ 8) (h30 : C 30 f = Int32.ofNat i0) (hq : q ≤ 1000) (hz : z + nn ≤ 2048) (htp : tp + 32 * nn + 32 ≤ 80000) (hl : li + nn < 2000) (hfr : fr ≤ 1000) (hcl : cl < 1000) (hn : n < 999999)
    (hc : se_c N K P V C gs u (z + nn) q B fr (cl + 1) sp cw ifs cd kn mc) (hm : se_m N K P V A q B sp ifs cd kn inn tp (li + nn) ac mm) (hJ : se_J N K V p gs u q B M tp cw ac mc mm) (el : ∀ x, x < nn → se_Ea C p f gs u z li tp x mc mm) (h43 : mc.I 43 cl = Int32.ofNat f) (hat : mc.I 41 13 = Int32.ofNat j1) (c10 : C 28 10 = Int32.ofNat c2) (hj1 : j1 < c2) (c6 : c2 ≤ 6000) (c17 : C 36 j1 = 17) (x17 : C 38 j1 = Int32.ofNat dc) (cdd : cd + dc ≤ 20) (Q : sh_Q279) (x5 : Int32) :
    ∃ mc2 mm2 tp2, sf_78_10 (Int32.ofNat n) mc = sf_78_10 (Int32.ofNat (n + 1)) mc2 ∧ mc2.I 41 13 = Int32.ofNat i0 ∧ se_c N K P V C gs u z (q + nn) q (fr + 4) cl sp cw ifs (cd + dc) f mc2 ∧ se_F u z q fr cl mc mc2 ∧ (mc2.I 42 fr = Int32.ofNat (j1 + 1) ∧ mc2.I 42 (fr + 1) = Int32.ofNat B ∧ mc2.I 42 (fr + 2) = Int32.ofNat cd ∧ mc2.I 42 (fr + 3) = Int32.ofNat kn) ∧
      sf_315_177 Q (Int32.ofNat f) (Int32.ofNat nn) (Int32.ofNat (cd + dc)) x5 (Int32.ofNat li) (-1) mm = sf_315_363 Q (Int32.ofNat f) (Int32.ofNat nn) x5 (Int32.ofNat li) (Int32.ofNat B) (Int32.ofNat kn) (Int32.ofNat cd) (Int32.ofNat nn) mm2 ∧
      se_m N K P V A (q + nn) q sp ifs (cd + dc) f inn tp2 (li + nn) ac mm2 ∧ se_G0 tp q un (li + nn) mm mm2 ∧ se_J N K V p gs u (q + nn) q tp tp2 cw ac mc2 mm2 ∧ tp ≤ tp2 ∧ tp2 ≤ tp + 32 * nn ∧ mm2.I 66 73 = mm.I 66 73 := by
  have N4 := hT.N4
  have at1 := hc.at (n := n) (by omega) hat c10 hj1 c6 c17 rfl x17
  have c1 := hc.nx (i := j1 + 1)
  have f1 : se_F u (z + nn) q fr (cl + 1) mc (se_nx (j1 + 1) mc) := se_nxFr
  have b43 : (se_nx (j1 + 1) mc).I 43 cl = Int32.ofNat f := (f1.cl_ cl (by omega)).trans h43
  have e158 : sf_158 (se_nx (j1 + 1) mc) = some (Int32.ofNat f) := by
    unfold sf_158
    rw [c1.ccl, if_pos ((se_0lt (by omega)).mpr (by omega)), se_um1, if_pos (sh_okn' (by omega) (by omega)), sh_nIc (by omega), b43]
  have b33 : (se_nx (j1 + 1) mc).I 33 f = Int32.ofNat nn := by rw [c1.cc 33 (by omega) (by omega)]; exact h33
  -- the class's frames
  have c2' := c1.w_cl (y := cl)
  have f2 : se_F u (z + nn) q fr cl (se_nx (j1 + 1) mc) ((se_nx (j1 + 1) mc).T, sh_u2 (se_nx (j1 + 1) mc).I 41 12 (Int32.ofNat cl), (se_nx (j1 + 1) mc).J, (se_nx (j1 + 1) mc).s) := se_F.wI (by omega) (by omega) (by omega) (by omega) (by omega) (by omega)
  have at2 : sh_X.I ((se_nx (j1 + 1) mc).T, sh_u2 (se_nx (j1 + 1) mc).I 41 12 (Int32.ofNat cl), (se_nx (j1 + 1) mc).J, (se_nx (j1 + 1) mc).s) 41 13 = Int32.ofNat (j1 + 1) := by rw [se_In (by omega)]; exact se_nxA
  obtain ⟨m3, p1, p2, p3, p4, p5⟩ := se_143 c2' (by omega) (Int32.ofNat (j1 + 1))
  obtain ⟨m4, q1, q2, q3, q4, q5⟩ := se_143 p2 (by omega) (Int32.ofNat B)
  obtain ⟨m5, r1, r2, r3, r4, r5⟩ := se_143 q2 (by omega) (Int32.ofNat cd)
  obtain ⟨m6, s1, s2, s3, s4, s5⟩ := se_143 r2 (by omega) (Int32.ofNat kn)
  have c7 := s2.w_B (y := q)
  have f7 : se_F u (z + nn) q (fr + 4) cl m6 (m6.T, sh_u2 m6.I 53 5 (Int32.ofNat q), m6.J, m6.s) := se_F.wI (by omega) (by omega) (by omega) (by omega) (by omega) (by omega)
  have e160 : sf_160 (Int32.ofNat dc) (se_nx (j1 + 1) mc) = sf_160_81 (Int32.ofNat dc) (Int32.ofNat f) (Int32.ofNat nn) 0 (m6.T, sh_u2 m6.I 53 5 (Int32.ofNat q), m6.J, m6.s) := by
    unfold sf_160
    rw [e158, sh_bc_some, if_pos (sh_okn' (by omega) (by omega)), sh_nIc (by omega), b33, c1.ccl, se_um1, show (0 : Int32) = Int32.ofNat 0 from rfl, sh_max (by omega) (by omega), Nat.max_eq_right (Nat.zero_le _), se_nxA, p1, sh_bn_some, p2.cB, q1, sh_bn_some, q2.ccd, r1, sh_bn_some, r2.ckn, s1, sh_bn_some, s2.cq]
  have F6 : se_F u (z + nn) q fr cl mc (m6.T, sh_u2 m6.I 53 5 (Int32.ofNat q), m6.J, m6.s) := (((((f1.less (u := u) (z := z + nn) (q := q) (fr := fr) (cl := cl) (Nat.le_refl _) (Nat.le_refl _) (Nat.le_refl _) (Nat.le_refl _) (by omega)).trans f2 (Nat.le_refl _) (Nat.le_refl _) (Nat.le_refl _) (Nat.le_refl _) (Nat.le_refl _)).trans p3 (Nat.le_refl _) (Nat.le_refl _) (Nat.le_refl _) (Nat.le_refl _) (Nat.le_refl _)).trans q3 (Nat.le_refl _) (Nat.le_refl _) (Nat.le_refl _) (by omega) (Nat.le_refl _)).trans r3 (Nat.le_refl _) (Nat.le_refl _) (Nat.le_refl _) (by omega) (Nat.le_refl _)).trans (s3.trans f7 (Nat.le_refl _) (Nat.le_refl _) (Nat.le_refl _) (by omega) (Nat.le_refl _)) (Nat.le_refl _) (Nat.le_refl _) (Nat.le_refl _) (by omega) (Nat.le_refl _)
  -- the model's registers
  have M1 : se_m N K P V A q q sp ifs (cd + dc) f inn tp (li + nn) ac (mm.T, sh_u2 (sh_u2 (sh_u2 mm.I 66 54 (Int32.ofNat q)) 66 55 (Int32.ofNat f)) 66 59 (Int32.ofNat (cd + dc)), mm.J, mm.s) := by
    have k : ∀ x, x ≠ 66 → sh_X.I (mm.T, sh_u2 (sh_u2 (sh_u2 mm.I 66 54 (Int32.ofNat q)) 66 55 (Int32.ofNat f)) 66 59 (Int32.ofNat (cd + dc)), mm.J, mm.s) x = mm.I x := fun x hx => by rw [se_Ic hx, sh_u2_cell hx, sh_u2_cell hx]
    have k2 : ∀ y, y ≠ 54 → y ≠ 55 → y ≠ 59 → sh_X.I (mm.T, sh_u2 (sh_u2 (sh_u2 mm.I 66 54 (Int32.ofNat q)) 66 55 (Int32.ofNat f)) 66 59 (Int32.ofNat (cd + dc)), mm.J, mm.s) 66 y = mm.I 66 y := fun y h1 h2 h3 => by rw [se_In (by omega), sh_u2_idx h2, sh_u2_idx h1]
    exact se_m.mk (hm.we.same (k 71 (by omega)) (k 68 (by omega)) (k 69 (by omega)) (k 70 (by omega))) (fun x a b => (k x (by omega)).trans (hm.aa x a b)) ((k2 41 (by omega) (by omega) (by omega)).trans hm.mtp) ((k2 42 (by omega) (by omega) (by omega)).trans hm.msp) ((k2 53 (by omega) (by omega) (by omega)).trans hm.mq) (by rw [se_In (by omega), sh_u2_idx (by omega), sh_u2_same]) (by rw [se_In (by omega), sh_u2_same]) ((k2 56 (by omega) (by omega) (by omega)).trans hm.mif) ((k2 57 (by omega) (by omega) (by omega)).trans hm.mac) ((k2 58 (by omega) (by omega) (by omega)).trans hm.min_) se_Is ((k2 79 (by omega) (by omega) (by omega)).trans hm.mli) hm.ia
  have G1 : ∀ {tq qq uu ll : Nat}, se_G0 tq qq uu ll mm (mm.T, sh_u2 (sh_u2 (sh_u2 mm.I 66 54 (Int32.ofNat q)) 66 55 (Int32.ofNat f)) 66 59 (Int32.ofNat (cd + dc)), mm.J, mm.s) := fun {tq qq uu ll} => ((se_G0.wF (f := 54) (x := Int32.ofNat q) (by omega)).trans (se_G0.wF (f := 55) (x := Int32.ofNat f) (by omega)) (Nat.le_refl _) (Nat.le_refl _) (Nat.le_refl _) (Nat.le_refl _)).trans (se_G0.wF (f := 59) (x := Int32.ofNat (cd + dc)) (by omega)) (Nat.le_refl _) (Nat.le_refl _) (Nat.le_refl _) (Nat.le_refl _)
  have u73 : sh_X.I (mm.T, sh_u2 (sh_u2 (sh_u2 mm.I 66 54 (Int32.ofNat q)) 66 55 (Int32.ofNat f)) 66 59 (Int32.ofNat (cd + dc)), mm.J, mm.s) 66 73 = mm.I 66 73 := by rw [se_In (by omega), sh_u2_idx (by omega), sh_u2_idx (by omega)]
  have J0 : se_J N K V p ([] ++ gs) u q B M tp cw ac (m6.T, sh_u2 m6.I 53 5 (Int32.ofNat q), m6.J, m6.s) (mm.T, sh_u2 (sh_u2 (sh_u2 mm.I 66 54 (Int32.ofNat q)) 66 55 (Int32.ofNat f)) 66 59 (Int32.ofNat (cd + dc)), mm.J, mm.s) := hJ.keep0 (e := []) (un := un) (li := li) F6 G1 (Nat.le_refl _) (Nat.le_refl _)
  have J1 : se_J N K V p gs u q q tp tp cw ac (m6.T, sh_u2 m6.I 53 5 (Int32.ofNat q), m6.J, m6.s) (mm.T, sh_u2 (sh_u2 (sh_u2 mm.I 66 54 (Int32.ofNat q)) 66 55 (Int32.ofNat f)) 66 59 (Int32.ofNat (cd + dc)), mm.J, mm.s) := se_J.mk J0.nm J0.sep (fun i a b => absurd b (by omega)) (Nat.le_refl _) J0.ac_ J0.lcw J0.ou
  have e177 : sf_315_177 Q (Int32.ofNat f) (Int32.ofNat nn) (Int32.ofNat (cd + dc)) x5 (Int32.ofNat li) (-1) mm = sf_315_363 Q (Int32.ofNat f) (Int32.ofNat nn) x5 (Int32.ofNat li) (Int32.ofNat B) (Int32.ofNat kn) (Int32.ofNat cd) 0 (mm.T, sh_u2 (sh_u2 (sh_u2 mm.I 66 54 (Int32.ofNat q)) 66 55 (Int32.ofNat f)) 66 59 (Int32.ofNat (cd + dc)), mm.J, mm.s) := by
    unfold sf_315_177
    refine se_whileU ?_
    show sf_315_177s Q (Int32.ofNat f) (Int32.ofNat nn) (Int32.ofNat (cd + dc)) x5 (Int32.ofNat li) (-1) mm = _
    unfold sf_315_177s
    rw [if_pos (by decide), hm.mB, hm.mkn, hm.mcd, hm.mq]
  obtain ⟨mc8, mm8, tp8, t1, t2, t3, t4, t5, t6, t7, t8, t9, t10, t11⟩ := se_par (un := un) hT hH hf hF h80 hq hz htp hl c7 M1 J1 (fun x hx => (el x hx).keep (e := []) (u2 := u) (tp2 := tp) F6 (by omega) (Nat.le_refl _) (G1 (tq := tp) (qq := 0) (uu := 0) (ll := li + nn)) (by omega) (Nat.le_refl _)) (Int32.ofNat dc) Q x5 (Int32.ofNat B) (Int32.ofNat kn) (Int32.ofNat cd) nn 0 tp _ _ (by omega) c7 (se_F.refl _) rfl M1 (se_G0.refl _) rfl J1 (Nat.le_refl _) (by omega)
  -- the end of ENTER
  have c9 := (((t3.wz (z2 := z + nn - nn)).w_cd (y := cd + dc)).w_kn (y := f)).wI (c := 41) (i := 13) (x := Int32.ofNat i0) (by omega)
  rw [Nat.add_sub_cancel] at c9
  have f9 : se_F u z (q + nn) (fr + 4) cl mc8 (mc8.T, sh_u2 (sh_u2 (sh_u2 (sh_u2 mc8.I 48 4 (Int32.ofNat z)) 41 17 (Int32.ofNat (cd + dc))) 41 18 (Int32.ofNat f)) 41 13 (Int32.ofNat i0), mc8.J, mc8.s) := (((se_F.wI (c := 48) (i := 4) (x := Int32.ofNat z) (by omega) (by omega) (by omega) (by omega) (by omega) (by omega)).trans (se_F.wI (c := 41) (i := 17) (x := Int32.ofNat (cd + dc)) (by omega) (by omega) (by omega) (by omega) (by omega) (by omega)) (Nat.le_refl _) (Nat.le_refl _) (Nat.le_refl _) (Nat.le_refl _) (Nat.le_refl _)).trans (se_F.wI (c := 41) (i := 18) (x := Int32.ofNat f) (by omega) (by omega) (by omega) (by omega) (by omega) (by omega)) (Nat.le_refl _) (Nat.le_refl _) (Nat.le_refl _) (Nat.le_refl _) (Nat.le_refl _)).trans (se_F.wI (c := 41) (i := 13) (x := Int32.ofNat i0) (by omega) (by omega) (by omega) (by omega) (by omega) (by omega)) (Nat.le_refl _) (Nat.le_refl _) (Nat.le_refl _) (Nat.le_refl _) (Nat.le_refl _)
  have e167 : sf_160_167 (Int32.ofNat dc) (Int32.ofNat f) (Int32.ofNat nn) mc8 = some ((), (mc8.T, sh_u2 (sh_u2 (sh_u2 (sh_u2 mc8.I 48 4 (Int32.ofNat z)) 41 17 (Int32.ofNat (cd + dc))) 41 18 (Int32.ofNat f)) 41 13 (Int32.ofNat i0), mc8.J, mc8.s)) := by
    unfold sf_160_167
    rw [se_118 t3 (by omega) hz, sh_bn_some, if_pos (sh_okn' (by omega) (by omega)), sh_nIc (by omega), Nat.add_sub_cancel, (t3.wz (z2 := z)).ccd, sh_nIadd, (t3.wz (z2 := z)).cc 30 (by omega) (by omega), h30]
  have k42 : ∀ j, sh_X.I (mc8.T, sh_u2 (sh_u2 (sh_u2 (sh_u2 mc8.I 48 4 (Int32.ofNat z)) 41 17 (Int32.ofNat (cd + dc))) 41 18 (Int32.ofNat f)) 41 13 (Int32.ofNat i0), mc8.J, mc8.s) 42 j = mc8.I 42 j := fun j => by rw [se_Ic (by omega), sh_u2_cell (by omega), sh_u2_cell (by omega), sh_u2_cell (by omega)]
  have k42' : ∀ j, sh_X.I (m6.T, sh_u2 m6.I 53 5 (Int32.ofNat q), m6.J, m6.s) 42 j = m6.I 42 j := fun j => by rw [se_Ic (by omega)]
  have J9 : se_J N K V p ([] ++ gs) u (q + nn) q tp tp8 cw ac (mc8.T, sh_u2 (sh_u2 (sh_u2 (sh_u2 mc8.I 48 4 (Int32.ofNat z)) 41 17 (Int32.ofNat (cd + dc))) 41 18 (Int32.ofNat f)) 41 13 (Int32.ofNat i0), mc8.J, mc8.s) mm8 := t9.keep (e := []) f9 (se_G.refl (un := un) (li := li) mm8) (Nat.le_refl _) (Nat.le_refl _)
  refine ⟨_, mm8, tp8, ?_, se_Is, c9, ?_, ⟨?_, ?_, ?_, ?_⟩, e177.trans t2, t6, (G1 (tq := tp) (qq := q) (uu := un) (ll := li + nn)).trans t7 (Nat.le_refl _) (Nat.le_refl _) (Nat.le_refl _) (Nat.le_refl _), J9, t10, t11, t8.trans u73⟩
  · rw [se_a17 at1, e160]
    show se_gn n (sf_160_81 (Int32.ofNat dc) (Int32.ofNat f) (Int32.ofNat nn) (Int32.ofNat 0) _) = _
    rw [t1, e167]
    rfl
  · exact ((F6.trans t4 (Nat.le_refl _) (Nat.le_refl _) (Nat.le_refl _) (by omega) (Nat.le_refl _)).less (u := u) (z := z) (q := q) (fr := fr) (cl := cl) (Nat.le_refl _) (by omega) (Nat.le_refl _) (Nat.le_refl _) (Nat.le_refl _)).trans f9 (Nat.le_refl _) (Nat.le_refl _) (by omega) (by omega) (Nat.le_refl _)
  · rw [k42, t4.fr_ fr (by omega), k42', s3.fr_ fr (by omega), r3.fr_ fr (by omega), q3.fr_ fr (by omega)]; exact p4
  · rw [k42, t4.fr_ (fr + 1) (by omega), k42', s3.fr_ (fr + 1) (by omega), r3.fr_ (fr + 1) (by omega)]; exact q4
  · rw [k42, t4.fr_ (fr + 2) (by omega), k42', s3.fr_ (fr + 2) (by omega)]; exact r4
  · rw [k42, t4.fr_ (fr + 3) (by omega), k42']; exact s4
end
