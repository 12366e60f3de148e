/-! EVALUATION: calls: ENTER -/
/-- a number is put on the class's frames -/
theorem se_143 {N : Nat} {K : Nat → Int32} {P V : Nat → Nat} {C : Nat → Nat → Int32} {gs : sh_gL} {u z q B fr cl sp cw ifs cd kn : Nat} {m : sh_X} (h : se_c N K P V C gs u z q B fr cl sp cw ifs cd kn m) (hf : fr < 1024) (x : Int32) : ∃ m2, sf_143 x m = some ((), m2) ∧ se_c N K P V C gs u z q B (fr + 1) cl sp cw ifs cd kn m2 ∧ se_F u z q fr cl m m2 ∧ m2.I 42 fr = x ∧ m2.I 41 13 = m.I 41 13 := by
  refine ⟨(m.T, sh_u2 (sh_u2 m.I 42 fr x) 41 11 (Int32.ofNat (fr + 1)), m.J, m.s), ?_, (h.wI (c := 42) (i := fr) (x := x) (by omega)).w_fr, (se_F.wI (c := 42) (i := fr) (x := x) (by omega) (by omega) (by omega) (by omega) (by omega) (by omega)).trans (se_F.wI (c := 41) (i := 11) (x := Int32.ofNat (fr + 1)) (by omega) (by omega) (by omega) (by omega) (by omega) (by omega)) (Nat.le_refl _) (Nat.le_refl _) (Nat.le_refl _) (Nat.le_refl _) (Nat.le_refl _), ?_, ?_⟩
  · unfold sf_143
    rw [h.cfr, if_pos (show Int32.ofNat fr < 1024 from (sh_nIlt (b := 1024) (by omega) (by omega)).mpr hf), if_pos (sh_okn' hf (by omega)), sh_nIc (by omega), sh_nI1]
  · rw [se_Ic (by omega), sh_u2_same]
  · rw [se_In (by omega), sh_u2_cell (by omega)]
theorem se_F.refl' {u z q fr cl : Nat} {m : sh_X} : se_F u z q fr cl m m := se_F.refl m
section
variable {N : Nat} {K : Nat → Int32} {P V : Nat → Nat} {A C : Nat → Nat → Int32} {p : Nat → Bool} {F c2 un n : Nat} {gs : sh_gL} {u z q B M fr cl sp cw ifs cd kn inn tp li : Nat} {ac : Bool} {mc mm : sh_X} {f nn dc : Nat}
/-- the parameters get their values, on both sides -/
theorem se_par (hT : sh_Txt N K P V) (hH : sh_Hds N K V A C F) (hf : f < F) (hF : F < 256) (h80 : A 80 f = Int32.ofNat nn) (hq : q ≤ 1000) (hz : z + nn ≤ 2048) (htp : tp + 32 * nn + 32 ≤ 80000) (hl : li + nn < 2000)
    (hc : se_c N K P V C gs u (z + nn) q q fr cl sp cw ifs cd kn mc) (hm : se_m N K P V A q q sp ifs dc f inn tp (li + nn) ac mm) (hJ : se_J N K V p gs u q q tp tp cw ac mc mm) (el : ∀ x, x < nn → se_Ea C p f gs u z li tp x mc mm) (x1 : Int32) (Q : sh_Q279) (x5 x7 x8 x9 : Int32) :
    ∀ (dd x tpx : Nat) (mcx mmx : sh_X), x + dd = nn → se_c N K P V C gs u (z + nn) (q + x) q fr cl sp cw ifs cd kn mcx → se_F u (z + nn) q fr cl mc mcx → mcx.I 41 = mc.I 41 → se_m N K P V A (q + x) q sp ifs dc f inn tpx (li + nn) ac mmx → se_G0 tp q un (li + nn) mm mmx → mmx.I 66 73 = mm.I 66 73 → se_J N K V p gs u (q + x) q tp tpx cw ac mcx mmx → tp ≤ tpx → tpx ≤ tp + 32 * x →
    ∃ (mc2 mm2 : sh_X) (tp2 : Nat), sf_160_81 x1 (Int32.ofNat f) (Int32.ofNat nn) (Int32.ofNat x) mcx = sf_160_167 x1 (Int32.ofNat f) (Int32.ofNat nn) mc2 ∧ sf_315_363 Q (Int32.ofNat f) (Int32.ofNat nn) x5 (Int32.ofNat li) x7 x8 x9 (Int32.ofNat x) mmx = sf_315_363 Q (Int32.ofNat f) (Int32.ofNat nn) x5 (Int32.ofNat li) x7 x8 x9 (Int32.ofNat nn) mm2 ∧
      se_c N K P V C gs u (z + nn) (q + nn) q fr cl sp cw ifs cd kn mc2 ∧ se_F u (z + nn) q fr cl mc mc2 ∧ mc2.I 41 = mc.I 41 ∧ se_m N K P V A (q + nn) q sp ifs dc f inn tp2 (li + nn) ac mm2 ∧ se_G0 tp q un (li + nn) mm mm2 ∧ mm2.I 66 73 = mm.I 66 73 ∧ se_J N K V p gs u (q + nn) q tp tp2 cw ac mc2 mm2 ∧ tp ≤ tp2 ∧ tp2 ≤ tp + 32 * nn := by
  have N4 := hT.N4
  obtain ⟨nf, nt, rt, tt, h0, hp, _, _, _⟩ := hH f hf
  have n8 := h0.n8
  have enf : nf = nn := by
    have h1 := h0.a80.symm.trans h80
    have : nn < 2147483648 := by omega
    exact (sh_nIeq (by omega) (by omega)).mp h1
  subst enf
  intro dd
  induction dd with
  | zero =>
    intro x tpx mcx mmx hx g1 g2 g3 g4 g5 g6 g7 g8 g9
    have : x = nf := by omega
    subst this
    refine ⟨mcx, mmx, tpx, ?_, rfl, g1, g2, g3, g4, g5, g6, g7, g8, g9⟩
    unfold sf_160_81
    refine se_whileU ?_
    show sf_160_81s x1 (Int32.ofNat f) (Int32.ofNat x) (Int32.ofNat x) mcx = _
    unfold sf_160_81s
    rw [if_neg (sh_nlt0 x)]
  | succ dd ih =>
    intro x tpx mcx mmx hx g1 g2 g3 g4 g5 g6 g7 g8 g9
    have hxn : x < nf := by omega
    obtain ⟨_, tk1, ta, tc, _⟩ := h0.pr x hxn
    have tN := h0.tN x hxn
    obtain ⟨k, b, n', v, e1, e2, e3, e4, e5, e6, e7⟩ := (el x hxn).keep (e := []) (u2 := u) (tp2 := tp) g2 (by omega) (Nat.le_refl _) g5 (by omega) (Nat.le_refl _)
    obtain ⟨y1, y2, w, y3, y4⟩ := e1
    have n32 := y1.n2
    -- the class
    have i8 : Int32.ofNat f * 8 + Int32.ofNat x = Int32.ofNat (8 * f + x) := by
      rw [show (8 : Int32) = Int32.ofNat 8 from rfl, sh_nImul, sh_nIadd, Nat.mul_comm]
    have i8' : (8 : Int32) * Int32.ofNat f + Int32.ofNat x = Int32.ofNat (8 * f + x) := by
      rw [show (8 : Int32) = Int32.ofNat 8 from rfl, sh_nImul, sh_nIadd]
    have o8 : sh_okb (Int32.ofNat (8 * f + x)) 2048 = true := sh_okn' (by omega) (by omega)
    have o48 : sh_okb (Int32.ofNat (8 * f + x)) 4800 = true := sh_okn' (by omega) (by omega)
    have sl := (se_slot g1.cz (by omega : z + x < z + nf) hz).2.2.2
    obtain ⟨mc2, a1, a2, a3, a4, a5, a6, a7, a8, a9, a10, a11, a12, a13⟩ := se_105 g1 (by omega) (Int32.ofNat (V (tt x))) (Int32.ofNat (sh_te k b n')) (Int32.ofNat w) 0
    have cst : sf_160_81 x1 (Int32.ofNat f) (Int32.ofNat nf) (Int32.ofNat x) mcx = sf_160_81 x1 (Int32.ofNat f) (Int32.ofNat nf) (Int32.ofNat (x + 1)) mc2 := by
      have e0 : sf_160_81s x1 (Int32.ofNat f) (Int32.ofNat nf) (Int32.ofNat x) mcx = some (.inl (Int32.ofNat (x + 1), mc2)) := by
        unfold sf_160_81s
        rw [if_pos ((sh_nIlt (by omega) (by omega)).mpr hxn), if_pos (show Int32.ofNat x < 8 from (sh_nIlt (b := 8) (by omega) (by omega)).mpr (by omega)), g1.cz, sh_nIsub (by omega), sh_nIadd, show z + nf - nf + x = z + x by omega, sl, sh_bc_some, i8, if_pos o8, sh_nIc (by omega), g1.cc 34 (by omega) (by omega), tc, sh_83 hT g1.wc (by omega) tk1, sh_bc_some, if_pos o8, g1.cc 35 (by omega) (by omega), e2, y3, a1, sh_bn_some, sh_nI1]
      unfold sf_160_81
      rw [sh_while_eq, e0]
    -- the model
    have o2 : sh_okb (Int32.ofNat (li + x)) 2000 = true := sh_okn' (by omega) (by omega)
    have m' := se_resm (k := Int32.ofNat k) (b := Int32.ofNat b) (n := Int32.ofNat n') (v := mmx.J 115 (li + x)) g4
    have G' : se_G tpx (q + x) un (li + nf) mmx (mmx.T, sh_u2 (sh_u2 (sh_u2 mmx.I 66 43 (Int32.ofNat k)) 66 44 (Int32.ofNat b)) 66 45 (Int32.ofNat n'), sh_u2 mmx.J 66 46 (mmx.J 115 (li + x)), mmx.s) := se_res
    have r43 : sh_X.I (mmx.T, sh_u2 (sh_u2 (sh_u2 mmx.I 66 43 (Int32.ofNat k)) 66 44 (Int32.ofNat b)) 66 45 (Int32.ofNat n'), sh_u2 mmx.J 66 46 (mmx.J 115 (li + x)), mmx.s) 66 43 = Int32.ofNat k := by rw [se_In (by omega), sh_u2_idx (by omega), sh_u2_same]
    have r44 : sh_X.I (mmx.T, sh_u2 (sh_u2 (sh_u2 mmx.I 66 43 (Int32.ofNat k)) 66 44 (Int32.ofNat b)) 66 45 (Int32.ofNat n'), sh_u2 mmx.J 66 46 (mmx.J 115 (li + x)), mmx.s) 66 44 = Int32.ofNat b := by rw [se_In (by omega), sh_u2_same]
    have r73 : sh_X.I (mmx.T, sh_u2 (sh_u2 (sh_u2 mmx.I 66 43 (Int32.ofNat k)) 66 44 (Int32.ofNat b)) 66 45 (Int32.ofNat n'), sh_u2 mmx.J 66 46 (mmx.J 115 (li + x)), mmx.s) 66 73 = mmx.I 66 73 := by rw [se_In (by omega), sh_u2_idx (by omega), sh_u2_idx (by omega)]
    obtain ⟨mm2, b1, b2, b3, b4, b5, b6, b7, b8, b9, b10, b11, b12⟩ := se_318 (t := tt x) (un := un) (li := li + nf) (v := v) m'.mq (by omega) m'.mtp (by omega) r43 se_Is (by omega) (fun q0 => by rw [se_Js]; exact e6 q0) (fun q0 => by
      obtain ⟨a, w1, w2, w3⟩ := e7 q0
      exact ⟨a, by rw [se_Js]; exact w1, by omega, fun i hi => by rw [se_Jn (by omega)]; exact w3 i hi⟩)
    have mst : sf_315_363 Q (Int32.ofNat f) (Int32.ofNat nf) x5 (Int32.ofNat li) x7 x8 x9 (Int32.ofNat x) mmx = sf_315_363 Q (Int32.ofNat f) (Int32.ofNat nf) x5 (Int32.ofNat li) x7 x8 x9 (Int32.ofNat (x + 1)) mm2 := by
      have e0 : sf_315_363s Q (Int32.ofNat f) (Int32.ofNat nf) x5 (Int32.ofNat li) x7 x8 x9 (Int32.ofNat x) mmx = some (.inl (Int32.ofNat (x + 1), mm2)) := by
        unfold sf_315_363s
        rw [if_pos ((sh_nIlt (by omega) (by omega)).mpr hxn), sh_nIadd, if_pos o2, if_pos o2, if_pos o2, if_pos o2, i8', if_pos o48, sh_nIc (by omega), sh_nIc (by omega), g4.aa 81 (by omega) (by omega), ta, e3, e4, e5, b1, sh_bn_some, sh_nI1]
      unfold sf_315_363
      rw [sh_while_eq, e0]
    have G2 : se_G0 tpx (q + x) un (li + nf) mmx mm2 := G'.G0.trans b2 (Nat.le_refl _) (Nat.le_refl _) (Nat.le_refl _) (Nat.le_refl _)
    have mx := sh_mx_le n32
    have mx1 := sh_mx_1 n'
    have sa : se_a mm2 (q + x) = tpx := by unfold se_a; rw [b7]; exact sh_nIc (by omega)
    have J2 : se_J N K V p gs u (q + x + 1) q tp (tpx + sh_mx n') cw ac mc2 mm2 := by
      refine g7.add a3 G2 ?_ (by rw [sa]; exact Nat.le_refl _) (by omega) (by omega)
      refine ⟨tt x, k, b, n', tpx, by omega, tk1, a4, b3, b4, b6, b7, Nat.le_refl _, Or.inr ⟨y1, a5, by rw [b5]; exact r44, w, a6, ?_⟩⟩
      have y5 := y4.keep (e := []) (u2 := u) (m2 := mc2) (Nat.le_refl _) (fun j _ => by rw [a9])
      exact y5.cong (fun i hi => (b9 i hi).symm)
    have M2 : se_m N K P V A (q + x + 1) q sp ifs dc f inn (tpx + sh_mx n') (li + nf) ac mm2 :=
      se_m.mk (m'.we.same (b2.I 71 (by omega) (by omega)) (b2.I 68 (by omega) (by omega)) (b2.I 69 (by omega) (by omega)) (b2.I 70 (by omega) (by omega))) (fun y h1 h2 => (b2.I y (by omega) (by omega)).trans (m'.aa y h1 h2)) b10 ((b12 42 (by omega) (by omega)).trans m'.msp) b11 ((b12 54 (by omega) (by omega)).trans m'.mB) ((b12 55 (by omega) (by omega)).trans m'.mkn) ((b12 56 (by omega) (by omega)).trans m'.mif) ((b12 57 (by omega) (by omega)).trans m'.mac) ((b12 58 (by omega) (by omega)).trans m'.min_) ((b12 59 (by omega) (by omega)).trans m'.mcd) ((b12 79 (by omega) (by omega)).trans m'.mli) m'.ia
    obtain ⟨mc3, mm3, tp3, r1, r2, r3⟩ := ih (x + 1) (tpx + sh_mx n') mc2 mm2 (by omega) a2 (g2.trans a3 (Nat.le_refl _) (Nat.le_refl _) (by omega) (Nat.le_refl _) (Nat.le_refl _)) (a8.trans g3) M2 (g5.trans G2 (by omega) (by omega) (Nat.le_refl _) (Nat.le_refl _)) ((b12 73 (by omega) (by omega)).trans (r73.trans g6)) J2 (by omega) (by omega)
    exact ⟨mc3, mm3, tp3, cst.trans r1, mst.trans r2, r3⟩
end
