/-! EVALUATION: a row, from its values on the stack to its value -/
theorem se_whileU {σ ρ : Type} {f : σ → Option (σ ⊕ ρ)} {s : σ} {r : Option ρ} (h : f s = sh_up r) : sh_while f s = r := by
  rw [sh_while_eq, h]
  cases r with
  | none => rfl
  | some x => rfl
/-- the model copies the list -/
theorem se_299c {m : sh_X} {e li bY n tp t0 : Nat} (h41 : m.I 66 41 = Int32.ofNat tp) (htp : tp + n ≤ 80000) (hl : li + n ≤ 2000) (he : e < 9000) (h73 : m.I 73 e = Int32.ofNat t0) : sf_312_299 (Int32.ofNat e) (Int32.ofNat li) (Int32.ofNat bY) (Int32.ofNat n) 0 m = sf_292 (Int32.ofNat (n * bY)) (Int32.ofNat t0) (m.T, sh_u2 (sh_u2 m.I 66 41 (Int32.ofNat (tp + n))) 66 79 (Int32.ofNat li), se_cl m.J tp li n, m.s) := by
  have main : ∀ d x, x + d = n → sf_312_299 (Int32.ofNat e) (Int32.ofNat li) (Int32.ofNat bY) (Int32.ofNat n) (Int32.ofNat x) (m.T, m.I, se_cl m.J tp li x, m.s) = sf_292 (Int32.ofNat (n * bY)) (Int32.ofNat t0) (m.T, sh_u2 (sh_u2 m.I 66 41 (Int32.ofNat (tp + n))) 66 79 (Int32.ofNat li), se_cl m.J tp li n, m.s) := by
    intro d
    induction d with
    | zero =>
      intro x hx
      have : x = n := by omega
      subst this
      unfold sf_312_299
      refine se_whileU ?_
      show sf_312_299s (Int32.ofNat e) (Int32.ofNat li) (Int32.ofNat bY) (Int32.ofNat x) (Int32.ofNat x) (m.T, m.I, se_cl m.J tp li x, m.s) = _
      unfold sf_312_299s
      rw [if_neg (sh_nlt0 x), if_pos (sh_okn' he (by omega)), sh_nIc (by omega)]
      simp only [sh_X.I]
      rw [show m.2.1 = m.I from rfl, h41, h73, sh_nIadd, sh_nImul]
      cases sf_292 (Int32.ofNat (x * bY)) (Int32.ofNat t0) (m.T, sh_u2 (sh_u2 m.I 66 41 (Int32.ofNat (tp + x))) 66 79 (Int32.ofNat li), se_cl m.J tp li x, m.s) with
      | none => rfl
      | some r => rfl
    | succ d ih =>
      intro x hx
      rw [← ih (x + 1) (by omega)]
      have st : sf_312_299s (Int32.ofNat e) (Int32.ofNat li) (Int32.ofNat bY) (Int32.ofNat n) (Int32.ofNat x) (m.T, m.I, se_cl m.J tp li x, m.s) = some (.inl (Int32.ofNat (x + 1), (m.T, m.I, se_cl m.J tp li (x + 1), m.s))) := by
        unfold sf_312_299s
        have e41 : sh_X.I (m.T, m.I, se_cl m.J tp li x, m.s) 66 41 = Int32.ofNat tp := h41
        rw [if_pos ((sh_nIlt (by omega) (by omega)).mpr (by omega)), e41, sh_nIadd, sh_nIadd, if_pos (sh_okn' (by omega) (by omega)), if_pos (sh_okn' (by omega) (by omega)), sh_nIc (by omega), sh_nIc (by omega), sh_nI1]
        show some (Sum.inl (Int32.ofNat (x + 1), (m.T, m.I, sh_u2 (se_cl m.J tp li x) 92 (tp + x) (se_cl m.J tp li x 115 (li + x)), m.s))) = _
        rw [se_cl_1]
      unfold sf_312_299
      rw [sh_while_eq, st]
  have := main n 0 (by omega)
  rw [se_cl_0] at this
  exact this
theorem sh_te_row {k b n : Nat} : Int32.ofNat (sh_te k b 0) + 512 * Int32.ofNat n = Int32.ofNat (sh_te k b n) := by
  rw [show (512 : Int32) = Int32.ofNat 512 from rfl, sh_nImul, sh_nIadd]
  rfl
section
variable {N : Nat} {K : Nat → Int32} {P V : Nat → Nat} {A C : Nat → Nat → Int32} {p : Nat → Bool} {gs : sh_gL} {u z q B fr cl sp cw ifs cd kn : Nat} {mc mm : sh_X} {n un li tp t0 e : Nat} {K1 B1 N1 T1 R1 : Nat → Nat} {V1 : Nat → Nat → Int64}
theorem se_rowB (hN : N ≤ 4000) (h : se_c N K P V C gs u (z + n) q B fr cl sp cw ifs cd kn mc) (hz : z + n ≤ 2048) (hn : 1 ≤ n) (hl2 : li + n < 2000) (hD : ∀ x, x < n → se_D p mc gs u (z + x) (T1 x) (K1 x) (B1 x) (N1 x) (V1 x)) (hT : ∀ x, x < n → T1 x ≤ N) (hR : ∀ x, x < n → R1 x < 9000 ∧ mm.I 73 (R1 x) = Int32.ofNat (T1 x))
    (hL : ∀ x, x < n → mm.I 112 (li + x) = Int32.ofNat (K1 x) ∧ (K1 x ≠ 3 → mm.I 113 (li + x) = Int32.ofNat (B1 x)) ∧ mm.I 114 (li + x) = Int32.ofNat (N1 x) ∧ (N1 x = 0 → mm.J 115 (li + x) = V1 x 0) ∧ mm.I 116 (li + x) = Int32.ofNat (R1 x))
    (h79 : mm.I 66 79 = Int32.ofNat (li + n)) (hw : sh_We N K P V mm) (h42 : mm.I 66 42 = Int32.ofNat sp) (h41 : mm.I 66 41 = Int32.ofNat tp) (htp : tp + 32 ≤ 80000) (he : e < 9000) (h73 : mm.I 73 e = Int32.ofNat t0) (ht : t0 ≤ N) (hsp : sp ≤ 3000) (hu : 4 * u + 5 * (3000 - sp) ≤ 32000) :
    se_bad N P mc mm (sf_194 (Int32.ofNat t0) (Int32.ofNat n) mc) (sf_312 (Int32.ofNat e) (Int32.ofNat li) mm) ∨
    ∃ e' u2 sp2 mc2 mm2 k b, n ≤ 32 ∧ sf_194 (Int32.ofNat t0) (Int32.ofNat n) mc = some (some (), mc2) ∧ sf_312 (Int32.ofNat e) (Int32.ofNat li) mm = some (true, mm2) ∧ se_c N K P V C (e' ++ gs) u2 (z + 1) q B fr cl sp2 cw ifs cd kn mc2 ∧ se_F u z q fr cl mc mc2 ∧ mc2.I 41 13 = mc.I 41 13 ∧ se_T p mc2 (e' ++ gs) u2 z k b n (fun i => V1 i 0) ∧
      se_R mm2 k b n (tp + n) (fun i => V1 i 0) ∧ sh_We N K P V mm2 ∧ se_G tp q un li (se_li li mm) mm2 ∧ mm2.I 66 42 = Int32.ofNat sp2 ∧ mm2.I 66 41 = Int32.ofNat (tp + n) ∧ mm2.I 66 73 = mm.I 66 73 ∧ u ≤ u2 ∧ sp + n ≤ sp2 ∧ sp2 ≤ 3000 ∧ (e' ++ gs).length + 14 * (3000 - sp2) ≤ gs.length + 14 * (3000 - sp) ∧ 4 * u2 + 5 * (3000 - sp2) ≤ 4 * u + 5 * (3000 - sp) ∧ mm2.J 66 46 = Int64.ofNat tp := by
  have ty := se_ft_ty hD (d := n) (x := 0) (by omega)
  have nyo : (∀ i, i < n → N1 i = 0) → (se_ft K1 B1 N1 (se_fl K1 n 0)).2.2 = 0 := by
    intro a
    cases hf : se_fl K1 n 0 with
    | none => rfl
    | some y =>
      have := se_fl_some hf
      exact a y (by omega)
  have ec := se_r1c (t0 := t0) h hz hD
  have em := se_r1m (e := e) h79 hl2 (K1 := K1) (B1 := B1) (N1 := N1) (fun x hx => ⟨by rcases (hD x hx).lo with ⟨a, _⟩ | ⟨a, _⟩ <;> omega, (hL x hx).1, (hL x hx).2.1, (hL x hx).2.2.1⟩)
  revert ec em ty nyo
  generalize (se_ft K1 B1 N1 (se_fl K1 n 0)) = ft
  obtain ⟨ky, bY, ny⟩ := ft
  show sh_typ ky bY ny → ((∀ i, i < n → N1 i = 0) → ny = 0) → sf_194 (Int32.ofNat t0) (Int32.ofNat n) mc = sf_194_85 (Int32.ofNat t0) (Int32.ofNat n) (Int32.ofNat z) (Int32.ofNat (sh_te ky bY ny)) (decide (n ≤ 32 ∧ ny = 0)) mc → sf_312 (Int32.ofNat e) (Int32.ofNat li) mm = sf_312_88 (Int32.ofNat e) (Int32.ofNat li) (Int32.ofNat ky) (Int32.ofNat bY) (Int32.ofNat ny) (Int32.ofNat li) mm → _
  intro ty nyo ec em
  have b64 : 1 ≤ bY ∧ bY ≤ 64 ∧ ky ≤ 2 := by unfold sh_typ at ty; omega
  have R0 : se_Rw N K P V C p gs u z q B fr cl sp cw ifs cd kn n un li tp ky bY K1 B1 N1 T1 R1 V1 mc mm 0 [] u sp mc mm :=
    se_Rw.mk h (se_F.refl mc) rfl (fun i hi => absurd hi (by omega)) (fun i _ hi => hD i hi) hw (se_G.refl mm) h42 rfl rfl (fun i hi => absurd hi (by omega)) (fun i _ hi => ⟨(hL i hi).1, (hL i hi).2.1⟩) (fun i hi => (hL i hi).2.2) (Nat.le_refl _) (Nat.le_refl _) hsp (Nat.le_refl _) (Nat.le_refl _)
  have r2 := se_r2 (t0 := t0) (e := e) hN ty hz hl2 hT hR h79 hu (decide (n ≤ 32 ∧ ny = 0)) n 0 (decide (n ≤ 32 ∧ ny = 0)) [] u sp mc mm (by omega) ⟨fun a => ⟨a, fun i hi => absurd hi (by omega)⟩, fun a => a.1⟩ R0
  rw [ec, em]
  unfold sf_194_85
  rw [Nat.add_zero, Nat.add_zero] at r2
  rcases r2 with bad | ⟨g3, e3, u3, sp3, m3, m4, c1, c2, c3, R⟩
  · exact Or.inl bad
  have m79 : m4.I 66 79 = Int32.ofNat (li + n) := by rw [R.G.F 79 (by omega)]; exact h79
  have m73 : m4.I 73 e = Int32.ofNat t0 := by rw [R.G.I 73 (by omega) (by omega)]; exact h73
  have m41 : m4.I 66 41 = Int32.ofNat tp := R.h41.trans h41
  have cE : sf_194_90 (Int32.ofNat t0) (Int32.ofNat n) (Int32.ofNat z) (Int32.ofNat (sh_te ky bY ny)) g3 (Int32.ofNat (z + n)) m3 = if g3 = true then sf_194_156 (Int32.ofNat t0) (Int32.ofNat n) (Int32.ofNat z) (Int32.ofNat (sh_te ky bY ny)) m3 else some (none, sh_flt 4 (Int32.ofNat (P t0)) m3) := by
    unfold sf_194_90
    refine se_whileU ?_
    show sf_194_90s (Int32.ofNat t0) (Int32.ofNat n) (Int32.ofNat z) (Int32.ofNat (sh_te ky bY ny)) g3 (Int32.ofNat (z + n)) m3 = _
    unfold sf_194_90s
    rw [R.hc.cz, if_neg (sh_nlt0 _)]
    by_cases hg : g3 = true
    · rw [if_pos hg, if_pos hg]
    · rw [if_neg hg, if_neg hg, se_fail hN R.hc ht]
      rfl
  have mE : sf_312_88 (Int32.ofNat e) (Int32.ofNat li) (Int32.ofNat ky) (Int32.ofNat bY) (Int32.ofNat ny) (Int32.ofNat (li + n)) m4 = sf_312_171 (Int32.ofNat e) (Int32.ofNat li) (Int32.ofNat ky) (Int32.ofNat bY) (Int32.ofNat (li + 0)) m4 := by
    unfold sf_312_88
    refine se_whileU ?_
    show sf_312_88s (Int32.ofNat e) (Int32.ofNat li) (Int32.ofNat ky) (Int32.ofNat bY) (Int32.ofNat ny) (Int32.ofNat (li + n)) m4 = _
    unfold sf_312_88s
    rw [m79, if_neg (sh_nlt0 _)]
    rfl
  have lim : ∀ i, i < n → K1 i ≤ 3 ∧ (K1 i ≠ 3 → B1 i ≤ 64) ∧ N1 i ≤ 64 := by
    intro i hi
    rcases (hD i hi).lo with ⟨a, b, _⟩ | ⟨a, b⟩
    · omega
    · have := b.1
      unfold sh_typ at this
      omega
  have mF := se_rw3 (n := n) (li := li) (e := e) (ky := ky) (bY := bY) (N1 := N1) (K2 := fun i => if K1 i = 3 then ky else K1 i) (B2 := fun i => if K1 i = 3 then bY else B1 i) hN R.we hl2 m79 he m73 ht (by omega) (fun i hi => by
    have := lim i hi
    refine ⟨?_, ?_, this.2.2, (R.ld i hi).1, (R.ld i hi).2, (R.l4 i hi).1⟩
    · show (if K1 i = 3 then ky else K1 i) ≤ 64
      split <;> omega
    · show (if K1 i = 3 then bY else B1 i) ≤ 64
      split
      · omega
      · rename_i w
        exact this.2.1 w) n 0 (by omega)
  have gIff : g3 = true ↔ (∀ i, 0 ≤ i → i < n → (if K1 i = 3 then ky else K1 i) = ky ∧ (if K1 i = 3 then bY else B1 i) = bY ∧ N1 i = 0) ∧ n ≤ 32 := by
    rw [c3, decide_eq_true_eq]
    constructor
    · intro ⟨⟨a, b⟩, d⟩
      exact ⟨fun i _ hi => by have := d i hi; rw [b] at this; exact this, a⟩
    · intro ⟨a, b⟩
      have := nyo (fun i hi => (a i (by omega) hi).2.2)
      exact ⟨⟨b, this⟩, fun i hi => by rw [this]; exact a i (by omega) hi⟩
  rcases mF with ⟨q1, q2, q3⟩ | ⟨q1, q3⟩
  · have hg := gIff.mpr ⟨q1, q2⟩
    rw [if_pos hg] at cE
    have ny0 : ny = 0 := nyo (fun i hi => (q1 i (by omega) hi).2.2)
    subst ny0
    have we1 : sh_Rr m4 (m4.T, sh_u2 (sh_u2 (sh_u2 m4.I 66 43 (Int32.ofNat ky)) 66 44 (Int32.ofNat bY)) 66 45 (Int32.ofNat n), sh_u2 m4.J 66 46 (Int32.toInt64 (m4.I 66 41)), m4.s) := ((((sh_Rr.wi (m := m4) (f := 43) (x := Int32.ofNat ky) (by omega)).trans (sh_Rr.wi (f := 44) (x := Int32.ofNat bY) (by omega))).trans (sh_Rr.wi (f := 45) (x := Int32.ofNat n) (by omega)))).trans (sh_Rr.wj (i := 46) (x := Int32.toInt64 (m4.I 66 41)))
    have G1 : se_G tp q un li m4 (m4.T, sh_u2 (sh_u2 (sh_u2 m4.I 66 43 (Int32.ofNat ky)) 66 44 (Int32.ofNat bY)) 66 45 (Int32.ofNat n), sh_u2 m4.J 66 46 (Int32.toInt64 (m4.I 66 41)), m4.s) := se_G.R we1
    have m5 := se_299c (m := (m4.T, sh_u2 (sh_u2 (sh_u2 m4.I 66 43 (Int32.ofNat ky)) 66 44 (Int32.ofNat bY)) 66 45 (Int32.ofNat n), sh_u2 m4.J 66 46 (Int32.toInt64 (m4.I 66 41)), m4.s)) (bY := bY) (n := n) (li := li) (tp := tp) (t0 := t0) (by rw [we1.F 41 (by omega) (by omega) (by omega) (by omega)]; exact m41) (by omega) (by omega) he (by rw [we1.I 73 (by omega)]; exact m73)
    have f43 : sh_X.I (m4.T, sh_u2 (sh_u2 (sh_u2 m4.I 66 43 (Int32.ofNat ky)) 66 44 (Int32.ofNat bY)) 66 45 (Int32.ofNat n), sh_u2 m4.J 66 46 (Int32.toInt64 (m4.I 66 41)), m4.s) 66 43 = Int32.ofNat ky := by rw [se_In (by omega), sh_u2_idx (by omega), sh_u2_same]
    have f44 : sh_X.I (m4.T, sh_u2 (sh_u2 (sh_u2 m4.I 66 43 (Int32.ofNat ky)) 66 44 (Int32.ofNat bY)) 66 45 (Int32.ofNat n), sh_u2 m4.J 66 46 (Int32.toInt64 (m4.I 66 41)), m4.s) 66 44 = Int32.ofNat bY := by rw [se_In (by omega), sh_u2_same]
    have f45 : sh_X.I (m4.T, sh_u2 (sh_u2 (sh_u2 m4.I 66 43 (Int32.ofNat ky)) 66 44 (Int32.ofNat bY)) 66 45 (Int32.ofNat n), sh_u2 m4.J 66 46 (Int32.toInt64 (m4.I 66 41)), m4.s) 66 45 = Int32.ofNat n := se_Is
    have f42 : sh_X.I (m4.T, sh_u2 (sh_u2 (sh_u2 m4.I 66 43 (Int32.ofNat ky)) 66 44 (Int32.ofNat bY)) 66 45 (Int32.ofNat n), sh_u2 m4.J 66 46 (Int32.toInt64 (m4.I 66 41)), m4.s) 66 42 = Int32.ofNat sp3 := by rw [se_In (by omega), sh_u2_idx (by omega), sh_u2_idx (by omega)]; exact R.h42
    have f46 : sh_X.J (m4.T, sh_u2 (sh_u2 (sh_u2 m4.I 66 43 (Int32.ofNat ky)) 66 44 (Int32.ofNat bY)) 66 45 (Int32.ofNat n), sh_u2 m4.J 66 46 (Int32.toInt64 (m4.I 66 41)), m4.s) 66 46 = Int64.ofNat tp := by
      rw [se_Js, m41]
      exact se_64c (by omega)
    have f115 : ∀ i, i < n → sh_X.J (m4.T, sh_u2 (sh_u2 (sh_u2 m4.I 66 43 (Int32.ofNat ky)) 66 44 (Int32.ofNat bY)) 66 45 (Int32.ofNat n), sh_u2 m4.J 66 46 (Int32.toInt64 (m4.I 66 41)), m4.s) 115 (li + i) = V1 i 0 := by
      intro i hi
      rw [we1.J 115 (by omega)]
      exact (R.l4 i hi).2.1 (q1 i (by omega) hi).2.2
    have f73 : sh_X.I (m4.T, sh_u2 (sh_u2 (sh_u2 m4.I 66 43 (Int32.ofNat ky)) 66 44 (Int32.ofNat bY)) 66 45 (Int32.ofNat n), sh_u2 m4.J 66 46 (Int32.toInt64 (m4.I 66 41)), m4.s) 66 73 = mm.I 66 73 := (we1.F 73 (by omega) (by omega) (by omega) (by omega)).trans R.h73
    have G2 : se_G tp q un li mm (m4.T, sh_u2 (sh_u2 (sh_u2 m4.I 66 43 (Int32.ofNat ky)) 66 44 (Int32.ofNat bY)) 66 45 (Int32.ofNat n), sh_u2 m4.J 66 46 (Int32.toInt64 (m4.I 66 41)), m4.s) := R.G.trans G1 (Nat.le_refl _) (Nat.le_refl _) (Nat.le_refl _) (Nat.le_refl _)
    have w5 := we1.we R.we
    rw [c2, mE, q3]
    clear G1 we1
    obtain ⟨m6, hm6⟩ : ∃ m6 : sh_X, (m4.T, sh_u2 (sh_u2 (sh_u2 m4.I 66 43 (Int32.ofNat ky)) 66 44 (Int32.ofNat bY)) 66 45 (Int32.ofNat n), sh_u2 m4.J 66 46 (Int32.toInt64 (m4.I 66 41)), m4.s) = m6 := ⟨_, rfl⟩
    rw [hm6] at m5 f43 f44 f45 f42 f46 f73 G2 w5
    rw [hm6]
    have f115' : ∀ i, i < n → m6.J 115 (li + i) = V1 i 0 := fun i hi => by rw [← hm6]; exact f115 i hi
    have G3 : se_G tp q un li (se_li li mm) (m6.T, sh_u2 (sh_u2 m6.I 66 41 (Int32.ofNat (tp + n))) 66 79 (Int32.ofNat li), se_cl m6.J tp li n, m6.s) :=
      ((G2.trans (se_G.wI (c := 66) (i := 41) (x := Int32.ofNat (tp + n)) (by omega)) (Nat.le_refl _) (Nat.le_refl _) (Nat.le_refl _) (Nat.le_refl _)).li (li := li)).trans (se_clG (D := tp) (S := li) (i := n) (Nat.le_refl _)) (Nat.le_refl _) (Nat.le_refl _) (Nat.le_refl _) (Nat.le_refl _)
    have w6 : sh_We N K P V (m6.T, sh_u2 (sh_u2 m6.I 66 41 (Int32.ofNat (tp + n))) 66 79 (Int32.ofNat li), se_cl m6.J tp li n, m6.s) := w5.same (by rw [se_Ic (by omega), sh_u2_cell (by omega)]) (by rw [se_Ic (by omega), sh_u2_cell (by omega)]) (by rw [se_Ic (by omega), sh_u2_cell (by omega)]) (by rw [se_Ic (by omega), sh_u2_cell (by omega)])
    have g42 : sh_X.I (m6.T, sh_u2 (sh_u2 m6.I 66 41 (Int32.ofNat (tp + n))) 66 79 (Int32.ofNat li), se_cl m6.J tp li n, m6.s) 66 42 = Int32.ofNat sp3 := by rw [se_In (by omega), sh_u2_idx (by omega)]; exact f42
    have nb : n * bY ≤ 32 * 64 := Nat.mul_le_mul q2 b64.2.1
    have sp3' := R.sp3
    have u5' := R.u5
    have g14' := R.g14
    have cX : sf_194_156 (Int32.ofNat t0) (Int32.ofNat n) (Int32.ofNat z) (Int32.ofNat (sh_te ky bY 0)) m3 = sh_bt (sf_90 (Int32.ofNat (n * bY)) (Int32.ofNat t0) m3) (fun m => (none, m)) fun _ m12 => sh_bn (sf_98 (Int32.ofNat (n * bY)) m12) fun r3 m13 => sf_194_188 (Int32.ofNat n) (Int32.ofNat z) (Int32.ofNat (sh_te ky bY 0)) (Int32.ofNat bY) r3 0 m13 := by
      unfold sf_194_156
      rw [sh_94 ty, sh_nImul]
    rw [c1, cE, cX, m5]
    rcases se_pay (x := n * bY) (i := t0) hN R.hc w6 g42 ht (by omega) sp3' with bad | ⟨p1, p2, p3⟩
    · left
      obtain ⟨kk, tt, x, y, b1, b2, b3, b4, b5⟩ := bad
      refine ⟨kk, tt, x, y, b1, ?_, R.hF.thenW b3, b4, (se_li_U.trans G3.U).trans b5⟩
      rw [b2]
      rfl
    · right
      have c5 := R.hc.wsp (sp2 := sp3 + n * bY)
      have f5 : se_F u3 (z + n) q fr cl m3 (m3.T, sh_u2 m3.I 41 14 (Int32.ofNat (sp3 + n * bY)), m3.J, m3.s) := se_F.wI (by omega) (by omega) (by omega) (by omega) (by omega) (by omega)
      have tab : ∀ i, ∃ w : Nat × (Nat → (Nat → Bool) → Bool), i < n → sh_X.I (m3.T, sh_u2 m3.I 41 14 (Int32.ofNat (sp3 + n * bY)), m3.J, m3.s) 50 (z + i) = Int32.ofNat w.1 ∧ sh_val (m3.T, sh_u2 m3.I 41 14 (Int32.ofNat (sp3 + n * bY)), m3.J, m3.s) (e3 ++ gs) u3 w.1 bY w.2 ∧ sh_Ft (decide (ky = 2)) bY (fun j => w.2 j p) (V1 i 0) := by
        intro i
        by_cases hi : i < n
        · have t1 := R.dn i hi
          have t2 := q1 i (by omega) hi
          rw [t2.1, t2.2.1, t2.2.2] at t1
          have t3 := t1.keep (e := []) f5 (by omega) (Nat.le_refl _)
          obtain ⟨_, _, w, w1, w2⟩ := t3
          obtain ⟨FF, y1, y2⟩ := w2.one
          exact ⟨(w, FF), fun _ => ⟨w1, y1, y2⟩⟩
        · exact ⟨(0, fun _ _ => false), fun r => absurd r hi⟩
      obtain ⟨WF, hWF⟩ := Classical.axiomOfChoice tab
      obtain ⟨m7, d1, d2, d3, d4⟩ := sh_98 (n := n * bY) c5.rs (by omega)
      obtain ⟨m8, k1, k2, k3, k4, k5, k6, k7⟩ := se_188 (ty := Int32.ofNat (sh_te ky bY 0)) (W := fun i => (WF i).1) (FW := fun i => (WF i).2) c5 hz hn b64.1 (by omega) d2 d3 d4 (fun i hi => ⟨(hWF i hi).1, (hWF i hi).2.1⟩)
      have G4 : se_G tp q un li (m6.T, sh_u2 (sh_u2 m6.I 66 41 (Int32.ofNat (tp + n))) 66 79 (Int32.ofNat li), se_cl m6.J tp li n, m6.s) (m6.T, sh_u2 (sh_u2 (sh_u2 m6.I 66 41 (Int32.ofNat (tp + n))) 66 79 (Int32.ofNat li)) 66 42 (Int32.ofNat (sp3 + n * bY)), se_cl m6.J tp li n, m6.s) := se_G.wI (by omega)
      refine ⟨e3, u3 + n * bY, sp3 + n * bY, m8, _, ky, bY, q2, ?_, p3, k2, ?_, ?_, ?_, ?_, ?_, G3.trans G4 (Nat.le_refl _) (Nat.le_refl _) (Nat.le_refl _) (Nat.le_refl _), se_Is, ?_, ?_, ?_, ?_, p1, ?_, by omega, ?_⟩
      · rw [p2]
        show sh_bn (sf_98 _ _) _ = _
        rw [d1, sh_bn_some]
        exact k1
      · exact (R.hF.trans (f5.less (u := u) (z := z) (q := q) (fr := fr) (cl := cl) R.lus (by omega) (Nat.le_refl _) (Nat.le_refl _) (Nat.le_refl _)) (Nat.le_refl _) (Nat.le_refl _) (Nat.le_refl _) (Nat.le_refl _) (Nat.le_refl _)).trans k3 R.lus (Nat.le_refl _) (Nat.le_refl _) (Nat.le_refl _) (Nat.le_refl _)
      · rw [k7, se_In (by omega)]
        exact R.at_
      · refine ⟨?_, by rw [k4]; exact sh_te_row, u3, k5, (fun j => (WF (j / bY)).2 (j % bY)), ?_, ?_⟩
        · have := ty
          unfold sh_typ at this ⊢
          omega
        · rw [sh_mx_pos hn, Nat.mul_comm bY n]
          exact k6
        · intro i hi
          rw [sh_mx_pos hn] at hi
          refine (hWF i hi).2.2.cong b64.1 (fun j hj => ?_)
          obtain ⟨x1, x2⟩ := sh_divmod (k := i) hj
          show _ = (WF ((i * bY + j) / bY)).2 ((i * bY + j) % bY) p
          rw [x1, x2]
      · refine ⟨?_, fun _ => ?_, ?_, fun r => absurd r (by omega), fun _ => ⟨tp, ?_, Nat.le_refl _, fun i hi => ?_⟩⟩
        · rw [se_In (by omega), se_In (by omega), sh_u2_idx (by omega)]; exact f43
        · rw [se_In (by omega), se_In (by omega), sh_u2_idx (by omega)]; exact f44
        · rw [se_In (by omega), se_In (by omega), sh_u2_idx (by omega)]; exact f45
        · show se_cl m6.J tp li n 66 46 = _
          rw [se_cl_c (by omega)]; exact f46
        · show se_cl m6.J tp li n 92 (tp + i) = _
          rw [se_cl_in hi]; exact f115' i hi
      · exact w6.same (by rw [se_Ic (by omega)]) (by rw [se_Ic (by omega)]) (by rw [se_Ic (by omega)]) (by rw [se_Ic (by omega)])
      · rw [se_In (by omega), se_In (by omega), sh_u2_same]
      · rw [se_In (by omega), se_In (by omega), sh_u2_idx (by omega)]; exact f73
      · have := R.lus
        omega
      · have := R.lsp
        have : n * 1 ≤ n * bY := Nat.mul_le_mul_left _ b64.1
        omega
      · omega
      · show se_cl m6.J tp li n 66 46 = _
        rw [se_cl_c (by omega)]; exact f46
  · have hg : ¬ g3 = true := fun r => q1 (gIff.mp r)
    rw [if_neg hg] at cE
    left
    exact ⟨4, t0, m3, m4, ht, c1.trans cE, R.hF.W R.hc.rs, (c2.trans mE).trans q3, R.G.U⟩
end
