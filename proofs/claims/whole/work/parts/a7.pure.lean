/-! PARSERS: the loops over inputs -/
section
variable {N : Nat} {K : Nat → Int32} {P V : Nat → Nat}
theorem sh_wupN {ρ : Type} {f : sh_X → Option (sh_X ⊕ ρ)} {s : sh_X} {r : ρ} (h : f s = some (.inr r)) : sh_while f s = some r := sh_wend h
theorem sh_pins {i g : Nat} {mc0 mm0 : sh_X} (hT : sh_Txt N K P V) :
    ∀ (f p c n : Nat) (w : Nat → Nat) (mc mm : sh_X), N ≤ p + f → sp_Pc N K P V p c 0 mc → sh_Pm N K P V p g mm → 3 * c ≤ 4 * p → g ≤ p → sh_Hf i g mc0 mm0 mc mm → mm.I 66 36 = Int32.ofNat n → c = i + n → sh_In K mm.I mc.I i n w → w n = p → 4 * n ≤ p →
    (∃ z mcf mmf, z ≤ N ∧ sf_43_61 (Int32.ofNat n) mc = some (none, mcf) ∧ sf_255_43 mm = some (false, mmf) ∧ sh_bDc P z mc0 mcf ∧ sh_bDm P z mm0 mmf) ∨
    (∃ (mc2 mm2 : sh_X) (ht : Nat), sf_43_61 (Int32.ofNat n) mc = some (some (), mc2) ∧ sf_255_43 mm = some (true, mm2) ∧ sh_Hf i g mc0 mm0 mc2 mm2 ∧ sh_Pg N K V mm2.I mc2.I ht i (w 0) g) := by
  intro f
  induction f with
  | zero =>
    intro p c n w mc mm hf hc hm bc bg hh h36 hci hin hwn h4
    have n4 := hc.N4
    have pN := hc.pN
    have h0 : K p = 0 := by rw [show p = N by omega]; exact hT.KN
    have h76 : ¬ sf_76 (K p) = true := by rw [h0]; intro q; have := (sh_76 _).mp q; revert this; decide
    have wd := fun j (hj : j < 12) => hm.wq.wd (i := p) pN hj
    have ec : sf_43_61 (Int32.ofNat n) mc = sf_43_88 mc := by
      unfold sf_43_61
      refine sh_wup ?_
      show sf_43_61s (Int32.ofNat n) mc = _
      unfold sf_43_61s
      split
      · rw [sh_45 hc, sh_bc_some, if_neg h76]
      · rfl
    have hmn := sh_pmain hT hc hm bc bg hh h36 hci hin hwn
    rw [ec]
    rcases hmn with ⟨z, mcf, mmf, z1, z2, z3, z4, z5⟩ | ⟨mc2, mm2, ht, z1, z2, z3, z4⟩
    · refine Or.inl ⟨z, mcf, mmf, z1, z2, ?_, z4, z5⟩
      unfold sf_255_43
      refine sh_wend ?_
      show sf_255_43s mm = _
      unfold sf_255_43s
      rw [hm.at_, show sf_256 (Int32.ofNat p) 8 mm = _ from wd 0 (by omega), sh_bc_some, decide_eq_false (by rw [h0]; decide), if_neg (by simp), show sf_256 (Int32.ofNat p) 9 mm = _ from wd 1 (by omega), sh_bc_some, decide_eq_false (by rw [h0]; decide), if_neg (by simp)]
      exact z3
    · refine Or.inr ⟨mc2, mm2, ht, z1, ?_, z3, z4⟩
      unfold sf_255_43
      refine sh_wend ?_
      show sf_255_43s mm = _
      unfold sf_255_43s
      rw [hm.at_, show sf_256 (Int32.ofNat p) 8 mm = _ from wd 0 (by omega), sh_bc_some, decide_eq_false (by rw [h0]; decide), if_neg (by simp), show sf_256 (Int32.ofNat p) 9 mm = _ from wd 1 (by omega), sh_bc_some, decide_eq_false (by rw [h0]; decide), if_neg (by simp)]
      exact z2
  | succ f ih =>
    intro p c n w mc mm hf hc hm bc bg hh h36 hci hin hwn h4
    have n4 := hc.N4
    have pN := hc.pN
    have wd := fun j (hj : j < 12) => hm.wq.wd (i := p) pN hj
    by_cases h76 : sf_76 (K p) = true
    · -- an input
      have hk := (sh_76 _).mp h76
      have hp : p < N := hT.lt pN (by rcases hk with h | h <;> (rw [h]; decide))
      have okn : ∀ x : Int32, x = Int32.ofNat n → sh_okb x 1400 = true := fun x hx => by rw [hx]; exact (sh_okn (by omega)).mpr (by omega)
      have cln : Int32.toNatClampNeg (Int32.ofNat n) = n := sh_nIc (by omega)
      obtain ⟨ma, a1, a2, a3, a4, a5, a6⟩ := sh_56 (a := 1) (x := mc.I 39 4) (y := 0) hc (by omega)
      obtain ⟨b1, b2⟩ := sh_adv a2 hp
      obtain ⟨mb, hmb⟩ : ∃ mb : sh_X, mb = (ma.T, sh_u2 ma.I 39 4 (ma.I 39 4 + 1), ma.J, ma.s) := ⟨_, rfl⟩
      rw [← hmb] at b1 b2
      obtain ⟨pt, hpt⟩ : ∃ pt : Int32, pt = (if K p = 4 then 0 else 1) := ⟨_, rfl⟩
      obtain ⟨c1, c2⟩ := sh_mwr (x := 88) (i := n) (v := pt) hm (Or.inl (by omega))
      obtain ⟨d1, d2⟩ := sh_madv c1 hp
      obtain ⟨e1, e2⟩ := sh_mwr (x := 89) (i := n) (v := mm.I 66 21 + 1) d1 (Or.inl (by omega))
      obtain ⟨nb, hnb⟩ : ∃ nb : sh_X, nb = (mm.T, sh_u2 (sh_u2 (sh_u2 mm.I 88 n pt) 66 21 (mm.I 66 21 + 1)) 89 n (mm.I 66 21 + 1), mm.J, mm.s) := ⟨_, rfl⟩
      have e1' : sh_Pm N K P V (p + 1) g nb := by
        rw [hnb]
        have q : sh_X.I (mm.T, sh_u2 mm.I 88 n pt, mm.J, mm.s) 66 21 = mm.I 66 21 := by
          show sh_u2 mm.I 88 n pt 66 21 = _
          rw [sh_u2_cell (by omega)]
        have e1q := e1
        rw [q] at e1q
        exact e1q
      have nbv : ∀ x y, x ≠ 66 → nb.I x y = if x = 88 ∧ y = n then pt else if x = 89 ∧ y = n then Int32.ofNat (p + 1) else mm.I x y := by
        intro x y hx
        rw [hnb]
        show sh_u2 (sh_u2 (sh_u2 mm.I 88 n pt) 66 21 (mm.I 66 21 + 1)) 89 n (mm.I 66 21 + 1) x y = _
        unfold sh_u2
        rw [hm.at_, sh_nI1]
        by_cases h88 : x = 88
        · subst h88
          by_cases hy : y = n
          · simp [hy]
          · simp [hy]
        · by_cases h89 : x = 89
          · subst h89
            by_cases hy : y = n
            · simp [hy]
            · simp [hy]
          · simp [h88, h89, hx]
      have nb36 : nb.I 66 36 = Int32.ofNat n := by
        rw [hnb]
        show sh_u2 (sh_u2 (sh_u2 mm.I 88 n pt) 66 21 (mm.I 66 21 + 1)) 89 n (mm.I 66 21 + 1) 66 36 = _
        rw [sh_u2_cell (by omega), sh_u2_idx (by omega), sh_u2_cell (by omega)]
        exact h36
      have fnb : sh_Hf i g mc mm mc nb := by
        have q1 : sh_Hf i g mc mm mc (mm.T, sh_u2 mm.I 88 n pt, mm.J, mm.s) := sh_Hf.wm (by omega)
        have q2 : sh_Hf i g mc (mm.T, sh_u2 mm.I 88 n pt, mm.J, mm.s) mc (mm.T, sh_u2 (sh_u2 mm.I 88 n pt) 66 21 (mm.I 66 21 + 1), mm.J, mm.s) := by
          have q3 := sh_Hf.of (c := i) (g := g) (sh_Cf.refl i 0 mc) (d2 g)
          have q : sh_X.I (mm.T, sh_u2 mm.I 88 n pt, mm.J, mm.s) 66 21 = mm.I 66 21 := by
            show sh_u2 mm.I 88 n pt 66 21 = _
            rw [sh_u2_cell (by omega)]
          rw [q] at q3
          exact q3
        have q4 : sh_Hf i g mc (mm.T, sh_u2 (sh_u2 mm.I 88 n pt) 66 21 (mm.I 66 21 + 1), mm.J, mm.s) mc nb := by rw [hnb]; exact sh_Hf.wm (by omega)
        exact (q1.trans q2 (Nat.le_refl _) (Nat.le_refl _)).trans q4 (Nat.le_refl _) (Nat.le_refl _)
      have fmb : sh_Cf c 0 mc mb := (a3 0).trans (b2 c 0) (Nat.le_refl _) (Nat.le_refl _)
      have ff1 : sh_Hf i g mc0 mm0 mb nb := (hh.trans fnb (Nat.le_refl _) (Nat.le_refl _)).trans (sh_Hf.of (fmb.less (show i ≤ c by omega) (Nat.le_refl _)) (sh_Mf.refl g nb)) (Nat.le_refl _) (Nat.le_refl _)
      have ec : sf_43_61s (Int32.ofNat n) mc = sh_bt (sh_bt (sf_48 1 mb) (fun m => ((none : Option Unit), m)) fun _ m12 => sh_bt (sf_52 m12) (fun m => ((none : Option Unit), m)) fun _ m13 => sh_bt (sf_48 59 m13) (fun m => ((none : Option Unit), m)) fun _ m14 => some ((some (), m14))) (fun m => .inr ((none, m))) fun _ m13 => some (.inl (Int32.ofNat (n + 1), m13)) := by
        unfold sf_43_61s sf_77
        rw [if_pos (sh_k4 (by omega)), sh_45 hc, sh_bc_some, if_pos h76, a1, sh_bn_some, ← hmb, sh_nI1]
      have em : sf_255_43s mm = sh_bn (sf_258 nb) fun r1 m11 =>
      if r1 = true then
        sh_bn (sf_263 m11) fun r2 m12 =>
        if r2 = true then
          if sh_okb (m12.I 66 36) 1400 = true then
            if sh_okb (m12.I 66 36) 1400 = true then
              sh_bn (sf_262 59 ⟨m12.T, sh_u2 (sh_u2 m12.I 90 (Int32.toNatClampNeg (m12.I 66 36)) (m12.I 66 38)) 91 (Int32.toNatClampNeg (m12.I 66 36)) (m12.I 66 39), m12.J, m12.s⟩) fun r3 m13 =>
              if r3 = true then
                some (.inl ⟨m13.T, sh_u2 m13.I 66 36 ((m13.I 66 36) + 1), m13.J, m13.s⟩)
              else
                some (.inr ((false, m13)))
            else none
          else none
        else
          some (.inr ((false, m12)))
      else
        some (.inr ((false, m11))) := by
        unfold sf_255_43s sf_255_69
        rcases hk with h | h
        · have hptv : pt = sh_b2 false := by rw [hpt, if_pos h]; rfl
          rw [show sf_256 (mm.I 66 21) 8 mm = some (decide (K p = 4)) by rw [hm.at_]; exact wd 0 (by omega), sh_bc_some, decide_eq_true h, if_pos rfl, sh_bc_some, if_pos rfl]
          unfold sf_255_95
          rw [if_pos (okn _ h36), if_pos (okn _ h36), h36, cln, ← hptv, ← hnb]
        · have hptv : pt = sh_b2 true := by rw [hpt, if_neg (by rw [h]; decide)]; rfl
          rw [show sf_256 (mm.I 66 21) 8 mm = some (decide (K p = 4)) by rw [hm.at_]; exact wd 0 (by omega), sh_bc_some, decide_eq_false (by rw [h]; decide), if_neg (by simp), show sf_256 (mm.I 66 21) 9 mm = some (decide (K p = 5)) by rw [hm.at_]; exact wd 1 (by omega), sh_bc_some, decide_eq_true h, if_pos rfl, sh_bc_some, if_neg (by simp)]
          unfold sf_255_95
          rw [if_pos (okn _ h36), if_pos (okn _ h36), h36, cln, ← hptv, ← hnb]
      have failc : ∀ mcf, (sh_bt (sf_48 1 mb) (fun m => ((none : Option Unit), m)) fun _ m12 => sh_bt (sf_52 m12) (fun m => ((none : Option Unit), m)) fun _ m13 => sh_bt (sf_48 59 m13) (fun m => ((none : Option Unit), m)) fun _ m14 => some ((some (), m14))) = some (none, mcf) → sf_43_61 (Int32.ofNat n) mc = some (none, mcf) := by
        intro mcf h
        unfold sf_43_61
        refine sh_wend ?_
        show sf_43_61s (Int32.ofNat n) mc = _
        rw [ec, h]
        rfl
      have failm : ∀ mmf, sf_255_43s mm = some (.inr (false, mmf)) → sf_255_43 mm = some (false, mmf) := fun mmf h => by unfold sf_255_43; exact sh_wend h
      rcases Classical.em (¬ K (p + 1) = 1) with k1 | k1
      · exact Or.inl ⟨p + 1, _, _, by omega, failc _ (by rw [sh_48f b1 k1]; rfl), failm _ (by rw [em, sh_258f e1' k1, sh_bn_some, if_neg (by simp)]), b1.bad.cg ff1.cg, e1'.bad.mg ff1.mg⟩
      replace k1 := Decidable.of_not_not k1
      have hp1 : p + 1 < N := hT.lt (by omega) (by rw [k1]; decide)
      obtain ⟨m1, g1, g2, g3⟩ := sh_48t b1 k1 hp1
      obtain ⟨n1, i1, i2, i3⟩ := sh_258t e1' k1 hp1
      have ff2 : sh_Hf i g mc0 mm0 m1 n1 := ff1.trans (sh_Hf.of (g3 i 0) (i3 g)) (Nat.le_refl _) (Nat.le_refl _)
      rcases sh_type g2 i2 hT with ⟨z, mcf, mmf, z1, z2, z3, z4, z5⟩ | ⟨me, ne, p5, z1, z2, z3, z4, z5, z6, z7, z8, z9, z10⟩
      · refine Or.inl ⟨z, mcf, mmf, z1, failc _ ?_, failm _ (by rw [em, i1, sh_bn_some, if_pos rfl, z3, sh_bn_some, if_neg (by simp)]), z4.cg ff2.cg, z5.mg ff2.mg⟩
        rw [g1]
        show sh_bt (sf_52 m1) _ _ = _
        rw [z2]
        rfl
      have p5N := z3.pN
      have ff3 : sh_Hf i g mc0 mm0 me ne := ff2.trans (sh_Hf.of (z5 i 0) (z6 g)) (Nat.le_refl _) (Nat.le_refl _)
      have ne36 : ne.I 66 36 = Int32.ofNat n := by
        rw [(z6 0).I6 36 (by omega) (by omega) (by omega) (by omega) (by omega) (by omega), (i3 0).I6 36 (by omega) (by omega) (by omega) (by omega) (by omega) (by omega)]
        exact nb36
      obtain ⟨j1, j2⟩ := sh_mwr (x := 90) (i := n) (v := ne.I 66 38) z4 (Or.inl (by omega))
      obtain ⟨j3, j4⟩ := sh_mwr (x := 91) (i := n) (v := ne.I 66 39) j1 (Or.inl (by omega))
      obtain ⟨ng, hng⟩ : ∃ ng : sh_X, ng = (ne.T, sh_u2 (sh_u2 ne.I 90 n (ne.I 66 38)) 91 n (ne.I 66 39), ne.J, ne.s) := ⟨_, rfl⟩
      have j3' : sh_Pm N K P V p5 g ng := by rw [hng]; exact j3
      have fng : sh_Hf i g me ne me ng := by
        rw [hng]
        exact (sh_Hf.wm (x := 90) (v := ne.I 66 38) (by omega)).trans (sh_Hf.wm (mm := (ne.T, sh_u2 ne.I 90 n (ne.I 66 38), ne.J, ne.s)) (x := 91) (v := ne.I 66 39) (by omega)) (Nat.le_refl _) (Nat.le_refl _)
      have ff4 : sh_Hf i g mc0 mm0 me ng := ff3.trans fng (Nat.le_refl _) (Nat.le_refl _)
      have ngv : ∀ x y, x ≠ 66 → ng.I x y = if x = 90 ∧ y = n then ne.I 66 38 else if x = 91 ∧ y = n then ne.I 66 39 else nb.I x y := by
        intro x y hx
        rw [hng]
        show sh_u2 (sh_u2 ne.I 90 n (ne.I 66 38)) 91 n (ne.I 66 39) x y = _
        unfold sh_u2
        have q : ne.I x y = nb.I x y := (sh_Mf.ox z6 x y hx).trans (sh_Mf.ox i3 x y hx)
        rw [q]
        by_cases h90 : x = 90
        · subst h90
          by_cases hy : y = n
          · simp [hy]
          · simp [hy]
        · by_cases h91 : x = 91
          · subst h91
            by_cases hy : y = n
            · simp [hy]
            · simp [hy]
          · simp [h90, h91]
      have ng36 : ng.I 66 36 = Int32.ofNat n := by
        rw [hng]
        show sh_u2 (sh_u2 ne.I 90 n (ne.I 66 38)) 91 n (ne.I 66 39) 66 36 = _
        rw [sh_u2_cell (by omega), sh_u2_cell (by omega)]
        exact ne36
      have em2 : sf_255_43s mm = sh_bn (sf_262 59 ng) fun r3 m13 => if r3 = true then some (.inl ⟨m13.T, sh_u2 m13.I 66 36 ((m13.I 66 36) + 1), m13.J, m13.s⟩) else some (.inr ((false, m13))) := by
        rw [em, i1, sh_bn_some, if_pos rfl, z2, sh_bn_some, if_pos rfl, if_pos (okn _ ne36), if_pos (okn _ ne36), ne36, cln, ← hng]
      rcases Classical.em (¬ K p5 = 59) with k5 | k5
      · refine Or.inl ⟨p5, _, _, p5N, failc _ ?_, failm _ (by rw [em2, sh_262f j3' (Or.inr (Or.inr (by decide))) k5, sh_bn_some, if_neg (by simp)]), z3.bad.cg ff4.cg, j3'.bad.mg ff4.mg⟩
        rw [g1]
        show sh_bt (sf_52 m1) _ _ = _
        rw [z1]
        show sh_bt (sf_48 59 me) _ _ = _
        rw [sh_48f z3 k5]
        rfl
      replace k5 := Decidable.of_not_not k5
      have hp5 : p5 < N := hT.lt p5N (by rw [k5]; decide)
      obtain ⟨mh, l1, l2, l3⟩ := sh_48t z3 k5 hp5
      obtain ⟨nh, o1, o2, o3⟩ := sh_262t j3' (Or.inr (Or.inr (by decide))) k5 hp5
      have nh36 : nh.I 66 36 = Int32.ofNat n := by
        rw [(o3 0).I6 36 (by omega) (by omega) (by omega) (by omega) (by omega) (by omega)]
        exact ng36
      obtain ⟨q1, q2⟩ := sh_mwr (x := 66) (i := 36) (v := nh.I 66 36 + 1) o2 (Or.inr ⟨rfl, Or.inr (Or.inl rfl)⟩)
      obtain ⟨ni, hni⟩ : ∃ ni : sh_X, ni = (nh.T, sh_u2 nh.I 66 36 (nh.I 66 36 + 1), nh.J, nh.s) := ⟨_, rfl⟩
      have q1' : sh_Pm N K P V (p5 + 1) g ni := by rw [hni]; exact q1
      have niv : ∀ x y, x ≠ 66 → ni.I x y = ng.I x y := by
        intro x y hx
        rw [hni]
        show sh_u2 nh.I 66 36 (nh.I 66 36 + 1) x y = _
        rw [sh_u2_cell hx]
        exact sh_Mf.ox o3 x y hx
      have ff5 : sh_Hf i g mc0 mm0 mh ni := (ff4.trans (sh_Hf.of (l3 i 0) (o3 g)) (Nat.le_refl _) (Nat.le_refl _)).trans (by rw [hni]; exact sh_Hf.w6 (Or.inl rfl)) (Nat.le_refl _) (Nat.le_refl _)
      have stc : sf_43_61 (Int32.ofNat n) mc = sf_43_61 (Int32.ofNat (n + 1)) mh := by
        unfold sf_43_61
        refine sh_wstep ?_
        show sf_43_61s (Int32.ofNat n) mc = _
        rw [ec, g1]
        show sh_bt (sh_bt (sf_52 m1) _ _) _ _ = _
        rw [z1]
        show sh_bt (sh_bt (sf_48 59 me) _ _) _ _ = _
        rw [l1]
        rfl
      have stm : sf_255_43 mm = sf_255_43 ni := by
        unfold sf_255_43
        refine sh_wstep ?_
        show sf_255_43s mm = _
        rw [em2, o1, sh_bn_some, if_pos rfl, ← hni]
      rw [stc, stm]
      -- the code below
      have cmh : ∀ y, y < c + 1 → mh.I 36 y = ma.I 36 y ∧ mh.I 37 y = ma.I 37 y := by
        intro y hy
        have r1 := (l3 (c + 1) 0).cd y hy
        have r2 := (z5 (c + 1) 0).cd y hy
        have r3 := (g3 (c + 1) 0).cd y hy
        have r4 := (b2 (c + 1) 0).cd y hy
        exact ⟨r1.1.trans (r2.1.trans (r3.1.trans r4.1)), r1.2.1.trans (r2.2.1.trans (r3.2.1.trans r4.2.1))⟩
      have hin2 : sh_In K ni.I mh.I i (n + 1) (fun x => if x = n + 1 then p5 + 1 else w x) := by
        intro y hy
        by_cases hyn : y = n
        · subst hyn
          simp only [if_neg (show ¬ y = y + 1 by omega), if_true]
          rw [hwn, ← hci]
          have c1' := cmh c (by omega)
          have v88 : ni.I 88 y = pt := by rw [niv 88 y (by omega), ngv 88 y (by omega), if_neg (by omega), if_neg (by omega), nbv 88 y (by omega), if_pos ⟨rfl, rfl⟩]
          have v89 : ni.I 89 y = Int32.ofNat (p + 1) := by rw [niv 89 y (by omega), ngv 89 y (by omega), if_neg (by omega), if_neg (by omega), nbv 89 y (by omega), if_neg (by omega), if_pos ⟨rfl, rfl⟩]
          have v90 : ni.I 90 y = Int32.ofNat (p + 1 + 1) := by rw [niv 90 y (by omega), ngv 90 y (by omega), if_pos ⟨rfl, rfl⟩]; exact z9
          have v91 : ni.I 91 y = ne.I 66 39 := by rw [niv 91 y (by omega), ngv 91 y (by omega), if_neg (by omega), if_pos ⟨rfl, rfl⟩]
          refine ⟨by omega, c1'.1.trans a4, (c1'.2.trans a5).trans hc.at_, ?_, k1, v89, ?_⟩
          · rw [v88, hpt]
            rcases hk with h | h
            · exact Or.inl ⟨h, by rw [if_pos h]⟩
            · exact Or.inr ⟨h, by rw [if_neg (by rw [h]; decide)]⟩
          · rw [v90, v91]
            refine ⟨z8, rfl, ?_⟩
            rcases z10 with ⟨y1, y2, y3⟩ | ⟨y1, y2, y3, y4⟩
            · exact Or.inl ⟨y1, y3⟩
            · exact Or.inr ⟨y1, y2, y4⟩
        · obtain ⟨x1, x2, x3, x4, x5, x6, x7⟩ := hin y (by omega)
          simp only [if_neg (show ¬ y = n + 1 by omega), if_neg (show ¬ y + 1 = n + 1 by omega)]
          have c1' := cmh (i + y) (by omega)
          have c2' := (a3 0).cd (i + y) (by omega)
          have vv : ∀ z, 88 ≤ z → z ≤ 91 → ni.I z y = mm.I z y := fun z h1 h2 => by rw [niv z y (by omega), ngv z y (by omega), if_neg (by omega), if_neg (by omega), nbv z y (by omega), if_neg (by omega), if_neg (by omega)]
          exact ⟨x1, by rw [c1'.1, c2'.1]; exact x2, by rw [c1'.2, c2'.2.1]; exact x3, by rw [vv 88 (by omega) (by omega)]; exact x4, x5, by rw [vv 89 (by omega) (by omega)]; exact x6, by rw [vv 90 (by omega) (by omega), vv 91 (by omega) (by omega)]; exact x7⟩
      have hP := ih (p5 + 1) (c + 1) (n + 1) _ mh ni (by omega) l2 q1' (by omega) (by omega) ff5 (by rw [hni]; show sh_u2 nh.I 66 36 (nh.I 66 36 + 1) 66 36 = _; rw [sh_u2_same, nh36, sh_nI1]) (by omega) hin2 (by simp only [if_true]) (by omega)
      simp only [if_neg (show ¬ 0 = n + 1 by omega)] at hP
      exact hP
    · have ec : sf_43_61 (Int32.ofNat n) mc = sf_43_88 mc := by
        unfold sf_43_61
        refine sh_wup ?_
        show sf_43_61s (Int32.ofNat n) mc = _
        unfold sf_43_61s
        split
        · rw [sh_45 hc, sh_bc_some, if_neg h76]
        · rfl
      have hn := fun q => h76 ((sh_76 (K p)).mpr q)
      have hmn := sh_pmain hT hc hm bc bg hh h36 hci hin hwn
      rw [ec]
      have em : ∀ r, (sh_bn ((sq_242 sh_dp).f264 0 mm) fun r3 m13 =>
      if r3 = (-2) then
        some (Sum.inr (α := sh_X) ((false, ((m13.T, sh_u2 m13.I 66 37 r3, m13.J, m13.s) : sh_X))))
      else
        if sh_okb (m13.I 66 21) 4002 = true then
          if (m13.I 68 (Int32.toNatClampNeg (m13.I 66 21))) = 0 then
            sh_up (sf_255_232  ⟨m13.T, sh_u2 m13.I 66 37 r3, m13.J, m13.s⟩)
          else
            if sh_okb (m13.I 66 21) 4002 = true then
              sh_bn (sf_252 2 (m13.I 69 (Int32.toNatClampNeg (m13.I 66 21))) ⟨m13.T, sh_u2 m13.I 66 37 r3, m13.J, m13.s⟩) fun r4 m14 =>
              if r4 = true then
                sh_up (sf_255_232  m14)
              else
                some (.inr ((false, m14)))
            else none
        else none) = some (.inr r) → sf_255_43 mm = some r := by
        intro r h
        unfold sf_255_43
        refine sh_wend ?_
        show sf_255_43s mm = _
        unfold sf_255_43s
        rw [show sf_256 (mm.I 66 21) 8 mm = some (decide (K p = 4)) by rw [hm.at_]; exact wd 0 (by omega), sh_bc_some, decide_eq_false (fun q => hn (Or.inl q)), if_neg (by simp), show sf_256 (mm.I 66 21) 9 mm = some (decide (K p = 5)) by rw [hm.at_]; exact wd 1 (by omega), sh_bc_some, decide_eq_false (fun q => hn (Or.inr q)), if_neg (by simp)]
        exact h
      rcases hmn with ⟨z, mcf, mmf, z1, z2, z3, z4, z5⟩ | ⟨mc2, mm2, ht, z1, z2, z3, z4⟩
      · exact Or.inl ⟨z, mcf, mmf, z1, z2, em _ z3, z4, z5⟩
      · exact Or.inr ⟨mc2, mm2, ht, z1, em _ z2, z3, z4⟩
end
