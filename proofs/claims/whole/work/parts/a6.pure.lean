/-! PARSERS: inputs, and the program -/
/-- the inputs' words from w on; their steps from i on -/
def sh_In (K : Nat → Int32) (A C : Nat → Nat → Int32) (i n : Nat) (w : Nat → Nat) : Prop := ∀ x, x < n → w x + 4 ≤ w (x + 1) ∧ C 36 (i + x) = 1 ∧ C 37 (i + x) = Int32.ofNat (w x) ∧ ((K (w x) = 4 ∧ A 88 x = 0) ∨ (K (w x) = 5 ∧ A 88 x = 1)) ∧ K (w x + 1) = 1 ∧ A 89 x = Int32.ofNat (w x + 1) ∧ sh_Ty K (A 90 x) (A 91 x) (w x + 2)
/-- inputs and statements of the program -/
def sh_Pg (N : Nat) (K : Nat → Int32) (V : Nat → Nat) (A C : Nat → Nat → Int32) (ht i p g : Nat) : Prop :=
  ∃ (n : Nat) (w : Nat → Nat) (c2 g2 : Nat), A 66 36 = Int32.ofNat n ∧ w 0 = p ∧ sh_In K A C i n w ∧ sh_Sl A (sp_S N K V A C ht) g g2 0 (A 66 37) (i + n) c2 (w n) N ∧ C 28 10 = Int32.ofNat c2 ∧ i + n ≤ c2 ∧ c2 < 6000 ∧ w n ≤ N ∧ g ≤ g2 ∧ g2 ≤ 4010
section
variable {N : Nat} {K : Nat → Int32} {P V : Nat → Nat}
theorem sh_76 (k : Int32) : sf_76 k = true ↔ (k = 4 ∨ k = 5) := by
  unfold sf_76 sf_76_10
  repeat' split
  all_goals simp_all
/-- the frame behind the FNs -/
def sh_Hf (c g : Nat) (mc mm mc2 mm2 : sh_X) : Prop := (sh_Cg mc mc2) ∧ (sh_Mg mm mm2) ∧ (∀ y, y < c → mc2.I 36 y = mc.I 36 y ∧ mc2.I 37 y = mc.I 37 y ∧ mc2.I 38 y = mc.I 38 y) ∧ (∀ y, y < g → ∀ x, 72 ≤ x → x ≤ 78 → mm2.I x y = mm.I x y) ∧ (∀ x y, 79 ≤ x → x ≤ 87 → mm2.I x y = mm.I x y) ∧ (∀ x y, 29 ≤ x → x ≤ 35 → mc2.I x y = mc.I x y) ∧ (mc2.I 28 11 = mc.I 28 11) ∧ (mc2.I 28 12 = mc.I 28 12) ∧ (mm2.I 66 31 = mm.I 66 31)
theorem sh_Hf.cg {c g : Nat} {mc mm mc2 mm2 : sh_X} (h : sh_Hf c g mc mm mc2 mm2) : sh_Cg mc mc2 := h.1
theorem sh_Hf.mg {c g : Nat} {mc mm mc2 mm2 : sh_X} (h : sh_Hf c g mc mm mc2 mm2) : sh_Mg mm mm2 := h.2.1
theorem sh_Hf.cd {c g : Nat} {mc mm mc2 mm2 : sh_X} (h : sh_Hf c g mc mm mc2 mm2) : ∀ y, y < c → mc2.I 36 y = mc.I 36 y ∧ mc2.I 37 y = mc.I 37 y ∧ mc2.I 38 y = mc.I 38 y := h.2.2.1
theorem sh_Hf.pt {c g : Nat} {mc mm mc2 mm2 : sh_X} (h : sh_Hf c g mc mm mc2 mm2) : ∀ y, y < g → ∀ x, 72 ≤ x → x ≤ 78 → mm2.I x y = mm.I x y := h.2.2.2.1
theorem sh_Hf.mo {c g : Nat} {mc mm mc2 mm2 : sh_X} (h : sh_Hf c g mc mm mc2 mm2) : ∀ x y, 79 ≤ x → x ≤ 87 → mm2.I x y = mm.I x y := h.2.2.2.2.1
theorem sh_Hf.co {c g : Nat} {mc mm mc2 mm2 : sh_X} (h : sh_Hf c g mc mm mc2 mm2) : ∀ x y, 29 ≤ x → x ≤ 35 → mc2.I x y = mc.I x y := h.2.2.2.2.2.1
theorem sh_Hf.c11 {c g : Nat} {mc mm mc2 mm2 : sh_X} (h : sh_Hf c g mc mm mc2 mm2) : mc2.I 28 11 = mc.I 28 11 := h.2.2.2.2.2.2.1
theorem sh_Hf.c12 {c g : Nat} {mc mm mc2 mm2 : sh_X} (h : sh_Hf c g mc mm mc2 mm2) : mc2.I 28 12 = mc.I 28 12 := h.2.2.2.2.2.2.2.1
theorem sh_Hf.m31 {c g : Nat} {mc mm mc2 mm2 : sh_X} (h : sh_Hf c g mc mm mc2 mm2) : mm2.I 66 31 = mm.I 66 31 := h.2.2.2.2.2.2.2.2
theorem sh_Hf.mk {c g : Nat} {mc mm mc2 mm2 : sh_X} (cg : sh_Cg mc mc2) (mg : sh_Mg mm mm2) (cd : ∀ y, y < c → mc2.I 36 y = mc.I 36 y ∧ mc2.I 37 y = mc.I 37 y ∧ mc2.I 38 y = mc.I 38 y) (pt : ∀ y, y < g → ∀ x, 72 ≤ x → x ≤ 78 → mm2.I x y = mm.I x y) (mo : ∀ x y, 79 ≤ x → x ≤ 87 → mm2.I x y = mm.I x y) (co : ∀ x y, 29 ≤ x → x ≤ 35 → mc2.I x y = mc.I x y) (c11 : mc2.I 28 11 = mc.I 28 11) (c12 : mc2.I 28 12 = mc.I 28 12) (m31 : mm2.I 66 31 = mm.I 66 31) : sh_Hf c g mc mm mc2 mm2 := ⟨cg, mg, cd, pt, mo, co, c11, c12, m31⟩
theorem sh_Hf.refl (c g : Nat) (mc mm : sh_X) : sh_Hf c g mc mm mc mm := sh_Hf.mk (sh_Cg.refl mc) (sh_Mg.refl mm) (fun _ _ => ⟨rfl, rfl, rfl⟩) (fun _ _ _ _ _ => rfl) (fun _ _ _ _ => rfl) (fun _ _ _ _ => rfl) rfl rfl rfl
theorem sh_Hf.trans {c c2 g g2 : Nat} {mc mm mc2 mm2 mc3 mm3 : sh_X} (h : sh_Hf c g mc mm mc2 mm2) (k : sh_Hf c2 g2 mc2 mm2 mc3 mm3) (hc : c ≤ c2) (hg : g ≤ g2) : sh_Hf c g mc mm mc3 mm3 :=
  sh_Hf.mk (h.cg.trans k.cg) (h.mg.trans k.mg) (fun y hy => by have a := h.cd y hy; have b := k.cd y (by omega); exact ⟨b.1.trans a.1, b.2.1.trans a.2.1, b.2.2.trans a.2.2⟩) (fun y hy x a b => (k.pt y (by omega) x a b).trans (h.pt y hy x a b)) (fun x y a b => (k.mo x y a b).trans (h.mo x y a b)) (fun x y a b => (k.co x y a b).trans (h.co x y a b)) (k.c11.trans h.c11) (k.c12.trans h.c12) (k.m31.trans h.m31)
theorem sh_Hf.of {c g : Nat} {mc mm mc2 mm2 : sh_X} (h : sh_Cf c 0 mc mc2) (k : sh_Mf g mm mm2) : sh_Hf c g mc mm mc2 mm2 :=
  sh_Hf.mk h.cg k.mg h.cd k.pt (fun x y a b => by rw [k.I x (by omega) (by omega)]) (fun x y a b => by rw [h.I x (by omega) (by omega) (by omega) (by omega) (by omega) (by omega)]) (h.I28 11 (by omega)) (h.I28 12 (by omega)) (k.I6 31 (by omega) (by omega) (by omega) (by omega) (by omega) (by omega))
theorem sh_Hf.wm {c g x i : Nat} {v : Int32} {mc mm : sh_X} (hx : 88 ≤ x ∧ x ≤ 91) : sh_Hf c g mc mm mc (mm.T, sh_u2 mm.I x i v, mm.J, mm.s) := by
  refine sh_Hf.mk (sh_Cg.refl mc) (sh_Mg.mk rfl rfl rfl (by simp only [sh_X.I, sh_u2_cell (show (66 : Nat) ≠ x by omega)]) ?_ ?_) (fun _ _ => ⟨rfl, rfl, rfl⟩) ?_ ?_ (fun _ _ _ _ => rfl) rfl rfl ?_
  · intro z h1 h2; simp only [sh_X.I, sh_u2_cell (show z ≠ x by omega)]
  · intro j _ _ _ _ _ _ _ _ _; simp only [sh_X.I, sh_u2_cell (show (66 : Nat) ≠ x by omega)]
  · intro y _ z h1 h2; simp only [sh_X.I, sh_u2_cell (show z ≠ x by omega)]
  · intro z y h1 h2; simp only [sh_X.I, sh_u2_cell (show z ≠ x by omega)]
  · simp only [sh_X.I, sh_u2_cell (show (66 : Nat) ≠ x by omega)]
theorem sh_Hf.w6 {c g j : Nat} {v : Int32} {mc mm : sh_X} (hx : j = 36 ∨ j = 37) : sh_Hf c g mc mm mc (mm.T, sh_u2 mm.I 66 j v, mm.J, mm.s) := by
  refine sh_Hf.mk (sh_Cg.refl mc) (sh_Mg.mk rfl rfl rfl (by simp only [sh_X.I, sh_u2_idx (show (6 : Nat) ≠ j by omega)]) ?_ ?_) (fun _ _ => ⟨rfl, rfl, rfl⟩) ?_ ?_ (fun _ _ _ _ => rfl) rfl rfl ?_
  · intro z h1 h2; simp only [sh_X.I, sh_u2_cell h1]
  · intro i _ _ _ _ _ _ _ _ _; simp only [sh_X.I, sh_u2_idx (show i ≠ j by omega)]
  · intro y _ z h1 h2; simp only [sh_X.I, sh_u2_cell (show z ≠ 66 by omega)]
  · intro z y h1 h2; simp only [sh_X.I, sh_u2_cell (show z ≠ 66 by omega)]
  · simp only [sh_X.I, sh_u2_idx (show (31 : Nat) ≠ j by omega)]
/-- the statements of the program, and its end -/
theorem sh_pmain {p c g n i : Nat} {w : Nat → Nat} {mc0 mm0 mc mm : sh_X} (hT : sh_Txt N K P V) (hc : sp_Pc N K P V p c 0 mc) (hm : sh_Pm N K P V p g mm) (bc : 3 * c ≤ 4 * p) (bg : g ≤ p) (hf : sh_Hf i g mc0 mm0 mc mm) (h36 : mm.I 66 36 = Int32.ofNat n) (hci : c = i + n) (hin : sh_In K mm.I mc.I i n w) (hwn : w n = p) :
    (∃ z mcf mmf, z ≤ N ∧ sf_43_88 mc = some (none, mcf) ∧ (sh_bn ((sq_242 sh_dp).f264 0 mm) fun r3 m13 =>
      if r3 = (-2) then
        some (Sum.inr (α := sh_X) ((false, ((m13.T, sh_u2 m13.I 66 37 r3, m13.J, m13.s) : sh_X))))
      else
        if sh_okb (m13.I 66 21) 4002 = true then
          if (m13.I 68 (Int32.toNatClampNeg (m13.I 66 21))) = 0 then
            sh_up (sf_255_232  ⟨m13.T, sh_u2 m13.I 66 37 r3, m13.J, m13.s⟩)
          else
            if sh_okb (m13.I 66 21) 4002 = true then
              sh_bn (sf_252 2 (m13.I 69 (Int32.toNatClampNeg (m13.I 66 21))) ⟨m13.T, sh_u2 m13.I 66 37 r3, m13.J, m13.s⟩) fun r4 m14 =>
              if r4 = true then
                sh_up (sf_255_232  m14)
              else
                some (.inr ((false, m14)))
            else none
        else none) = some (.inr (false, mmf)) ∧ sh_bDc P z mc0 mcf ∧ sh_bDm P z mm0 mmf) ∨
    (∃ (mc2 mm2 : sh_X) (ht : Nat), sf_43_88 mc = some (some (), mc2) ∧ (sh_bn ((sq_242 sh_dp).f264 0 mm) fun r3 m13 =>
      if r3 = (-2) then
        some (Sum.inr (α := sh_X) ((false, ((m13.T, sh_u2 m13.I 66 37 r3, m13.J, m13.s) : sh_X))))
      else
        if sh_okb (m13.I 66 21) 4002 = true then
          if (m13.I 68 (Int32.toNatClampNeg (m13.I 66 21))) = 0 then
            sh_up (sf_255_232  ⟨m13.T, sh_u2 m13.I 66 37 r3, m13.J, m13.s⟩)
          else
            if sh_okb (m13.I 66 21) 4002 = true then
              sh_bn (sf_252 2 (m13.I 69 (Int32.toNatClampNeg (m13.I 66 21))) ⟨m13.T, sh_u2 m13.I 66 37 r3, m13.J, m13.s⟩) fun r4 m14 =>
              if r4 = true then
                sh_up (sf_255_232  m14)
              else
                some (.inr ((false, m14)))
            else none
        else none) = some (.inr (true, mm2)) ∧ sh_Hf i g mc0 mm0 mc2 mm2 ∧ sh_Pg N K V mm2.I mc2.I ht i (w 0) g) := by
  have n4 := hc.N4
  have hb : sh_Qb N K P V p c g mc mm := sh_Qb.mk hc hm (by omega) (by omega)
  unfold sf_43_88
  rcases sh_pstm (d := 0) hT (by omega) hb with ⟨z, mcf, mmf, y1, y2, y3, y4, y5⟩ | ⟨ml, nl, p6, c6, g6, ht, x, y1, y2, hS⟩
  · refine Or.inl ⟨z, mcf, (mmf.T, sh_u2 mmf.I 66 37 (-2), mmf.J, mmf.s), y1, ?_, ?_, y4.cg hf.cg, ?_⟩
    · rw [show (sq_48 sh_dp).f53 0 mc = _ from y2]
      rfl
    · rw [show (sq_242 sh_dp).f264 0 mm = _ from y3, sh_bn_some, if_pos rfl]
    · have q := y5.mg hf.mg
      refine ⟨q.1.trans (sh_Hf.w6 (c := 0) (g := 0) (mc := mc) (mm := mmf) (Or.inr rfl)).mg.h, ?_, ?_⟩
      · show sh_u2 mmf.I 66 37 (-2) 66 6 = _
        rw [sh_u2_idx (by omega)]; exact q.2.1
      · show sh_u2 mmf.I 66 37 (-2) 66 7 = _
        rw [sh_u2_idx (by omega)]; exact q.2.2
  have lp := hS.lp
  have lc := hS.lc
  have cc := hS.cc
  have lg := hS.lg
  have gg := hS.gg
  have p6N := hS.pc.pN
  obtain ⟨o1, o2, o3⟩ := sh_mok hS.pm
  rw [show (sq_48 sh_dp).f53 0 mc = _ from y1, show (sq_242 sh_dp).f264 0 mm = _ from y2, sh_bn_some, if_neg hS.x2, if_pos o1, o2]
  show (∃ z mcf mmf, _ ∧ (sh_bt (sf_48 0 ml) _ _) = _ ∧ _) ∨ (∃ mc2 mm2 ht, (sh_bt (sf_48 0 ml) _ _) = _ ∧ _)
  obtain ⟨w1, w2⟩ := sh_mwr (x := 66) (i := 37) (v := x) hS.pm (Or.inr ⟨rfl, Or.inr (Or.inr rfl)⟩)
  obtain ⟨no, hno⟩ : ∃ no : sh_X, no = (nl.T, sh_u2 nl.I 66 37 x, nl.J, nl.s) := ⟨_, rfl⟩
  have fno : sh_Hf i g ml nl ml no := by rw [hno]; exact sh_Hf.w6 (Or.inr rfl)
  rw [← hno] at w1 w2 ⊢
  have ff : sh_Hf i g mc0 mm0 ml no := (hf.trans ((sh_Hf.of hS.cf hS.mf).trans (sh_Hf.refl c g ml nl) (Nat.le_refl _) (Nat.le_refl _)) (by omega) (Nat.le_refl _)).trans fno (Nat.le_refl _) (Nat.le_refl _)
  by_cases h0 : K p6 = 0
  · have hpN : p6 = N := by
      rcases Nat.lt_or_ge p6 N with h | h
      · exact absurd h0 (hT.K0 p6 h)
      · omega
    rw [if_pos ((hS.pm.wq.tk p6N (Or.inl rfl)).mpr h0)]
    right
    -- the last word is taken
    obtain ⟨mz, hmz⟩ : ∃ mz : sh_X, mz = (ml.T, sh_u2 ml.I 39 4 (ml.I 39 4 + 1), ml.J, ml.s) := ⟨_, rfl⟩
    have fmz : ∀ a b, sh_Cf a b ml mz := by
      intro a b
      rw [hmz]
      refine sh_Cf.mk rfl rfl rfl ?_ ?_ ?_ ?_
      · intro x _ _ _ _ h39 _
        simp only [sh_X.I, sh_u2_cell h39]
      · intro j _
        simp only [sh_X.I, sh_u2_cell (show (28 : Nat) ≠ 39 by omega)]
      · intro y _
        simp only [sh_X.I, sh_u2_cell (show (36 : Nat) ≠ 39 by omega), sh_u2_cell (show (37 : Nat) ≠ 39 by omega), sh_u2_cell (show (38 : Nat) ≠ 39 by omega)]
        exact ⟨trivial, trivial, trivial⟩
      · intro y _
        simp only [sh_X.I, sh_u2_cell (show (40 : Nat) ≠ 39 by omega)]
    have mz28 : mz.I 28 10 = Int32.ofNat c6 := by rw [hmz]; show sh_u2 ml.I 39 4 (ml.I 39 4 + 1) 28 10 = _; rw [sh_u2_cell (by omega)]; exact hS.pc.am
    have noo : ∀ z y, z ≠ 66 → no.I z y = nl.I z y := by intro z y hz; rw [hno]; show sh_u2 nl.I 66 37 x z y = _; rw [sh_u2_cell hz]
    refine ⟨mz, no, ht, ?_, ?_, ff.trans (sh_Hf.of (fmz i 0) (sh_Mf.refl g no)) (Nat.le_refl _) (Nat.le_refl _), n, w, c6, g6, ?_, rfl, ?_, ?_, mz28, by omega, by omega, by omega, gg, by omega⟩
    · unfold sf_48 sf_48_12
      rw [sh_45 hS.pc, sh_bc_some, if_pos h0, ← hmz]
      rfl
    · unfold sf_255_232
      rfl
    · rw [hno]
      show sh_u2 nl.I 66 37 x 66 36 = _
      rw [sh_u2_idx (by omega), hS.mf.I6 36 (by omega) (by omega) (by omega) (by omega) (by omega) (by omega)]
      exact h36
    · intro y hy
      obtain ⟨x1, x2, x3, x4, x5, x6, x7⟩ := hin y hy
      have q1 := (fmz c 0).cd (i + y) (by omega)
      have q2 := hS.cf.cd (i + y) (by omega)
      have qm : ∀ z, 88 ≤ z → z ≤ 91 → no.I z y = mm.I z y := fun z h1 h2 => by rw [noo z y (by omega), hS.mf.I z (by omega) (by omega)]
      refine ⟨x1, by rw [q1.1, q2.1]; exact x2, by rw [q1.2.1, q2.2.1]; exact x3, by rw [qm 88 (by omega) (by omega)]; exact x4, x5, by rw [qm 89 (by omega) (by omega)]; exact x6, by rw [qm 90 (by omega) (by omega), qm 91 (by omega) (by omega)]; exact x7⟩
    · have e37 : no.I 66 37 = x := by rw [hno]; show sh_u2 nl.I 66 37 x 66 37 = _; exact sh_u2_same
      rw [e37, ← hci]
      exact sh_Sl_fr hS.sl (Nat.le_refl _) (Nat.le_refl _) (Nat.le_refl _) (by omega) (by omega) (fun y y1 y2 z h1 h2 => noo z y (by omega)) (fun y y1 y2 => (fmz c6 0).cd y y2)
  · rw [if_neg (fun q => h0 ((hS.pm.wq.tk p6N (Or.inl rfl)).mp q)), if_pos o1, sh_252, sh_bn_some, if_neg (by simp)]
    left
    refine ⟨p6, _, _, p6N, by rw [sh_48f hS.pc h0]; rfl, rfl, hS.pc.bad.cg ff.cg, ?_⟩
    have q := w1.bad.mg ff.mg
    have e69 : no.I 69 p6 = nl.I 69 p6 := by rw [hno]; show sh_u2 nl.I 66 37 x 69 p6 = _; rw [sh_u2_cell (by omega)]
    rw [e69] at q
    exact q
end
