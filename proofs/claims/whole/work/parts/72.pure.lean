/-! the lexer of the model -/
def sh_Mw (ts : List sh_Tok) (m : sh_X) : Prop := (m.I 66 11 = Int32.ofNat ts.length) ∧ (∀ (i : Nat) (t : sh_Tok), ts[i]? = some t → m.I 68 i = t.1 ∧ m.I 69 i = Int32.ofNat t.2.1 ∧ m.I 70 i = Int32.ofNat t.2.2)
theorem sh_Mw.am {ts : List sh_Tok} {m : sh_X} (h : sh_Mw ts m) : m.I 66 11 = Int32.ofNat ts.length := h.1
theorem sh_Mw.kd {ts : List sh_Tok} {m : sh_X} (h : sh_Mw ts m) : ∀ (i : Nat) (t : sh_Tok), ts[i]? = some t → m.I 68 i = t.1 ∧ m.I 69 i = Int32.ofNat t.2.1 ∧ m.I 70 i = Int32.ofNat t.2.2 := h.2
theorem sh_Mw.mk {ts : List sh_Tok} {m : sh_X} (am : m.I 66 11 = Int32.ofNat ts.length) (kd : ∀ (i : Nat) (t : sh_Tok), ts[i]? = some t → m.I 68 i = t.1 ∧ m.I 69 i = Int32.ofNat t.2.1 ∧ m.I 70 i = Int32.ofNat t.2.2) : sh_Mw ts m := ⟨am, kd⟩
def sh_Mlf (m m2 : sh_X) : Prop := (m2.T = m.T) ∧ (m2.s = m.s) ∧ (m2.J = m.J) ∧ (∀ c, c ≠ 66 → c ≠ 68 → c ≠ 69 → c ≠ 70 → m2.I c = m.I c) ∧ (∀ j, j ≠ 6 → j ≠ 7 → j ≠ 11 → m2.I 66 j = m.I 66 j) ∧ (m2.I 66 6 = m.I 66 6)
theorem sh_Mlf.T {m m2 : sh_X} (h : sh_Mlf m m2) : m2.T = m.T := h.1
theorem sh_Mlf.s {m m2 : sh_X} (h : sh_Mlf m m2) : m2.s = m.s := h.2.1
theorem sh_Mlf.J {m m2 : sh_X} (h : sh_Mlf m m2) : m2.J = m.J := h.2.2.1
theorem sh_Mlf.I {m m2 : sh_X} (h : sh_Mlf m m2) : ∀ c, c ≠ 66 → c ≠ 68 → c ≠ 69 → c ≠ 70 → m2.I c = m.I c := h.2.2.2.1
theorem sh_Mlf.I6 {m m2 : sh_X} (h : sh_Mlf m m2) : ∀ j, j ≠ 6 → j ≠ 7 → j ≠ 11 → m2.I 66 j = m.I 66 j := h.2.2.2.2.1
theorem sh_Mlf.e6 {m m2 : sh_X} (h : sh_Mlf m m2) : m2.I 66 6 = m.I 66 6 := h.2.2.2.2.2
theorem sh_Mlf.mk {m m2 : sh_X} (T : m2.T = m.T) (s : m2.s = m.s) (J : m2.J = m.J) (I : ∀ c, c ≠ 66 → c ≠ 68 → c ≠ 69 → c ≠ 70 → m2.I c = m.I c) (I6 : ∀ j, j ≠ 6 → j ≠ 7 → j ≠ 11 → m2.I 66 j = m.I 66 j) (e6 : m2.I 66 6 = m.I 66 6) : sh_Mlf m m2 := ⟨T, s, J, I, I6, e6⟩
theorem sh_Mlf.refl (m : sh_X) : sh_Mlf m m := sh_Mlf.mk rfl rfl rfl (fun _ _ _ _ _ => rfl) (fun _ _ _ _ => rfl) rfl
theorem sh_Mlf.trans {m m2 m3 : sh_X} (h : sh_Mlf m m2) (g : sh_Mlf m2 m3) : sh_Mlf m m3 := sh_Mlf.mk (g.T.trans h.T) (g.s.trans h.s) (g.J.trans h.J) (fun c a b d e => (g.I c a b d e).trans (h.I c a b d e)) (fun j a b c => (g.I6 j a b c).trans (h.I6 j a b c)) (g.e6.trans h.e6)
theorem sh_Mlf.Bm {n : Nat} {m m2 : sh_X} (f : sh_Mlf m m2) (h : sh_Bm n m) : sh_Bm n m2 := sh_Bm.mk (by rw [f.I6 3 (by omega) (by omega) (by omega)]; exact h.le) h.n4
theorem sh_Mlf.B {n : Nat} {m m2 : sh_X} (f : sh_Mlf m m2) : sh_by (m2.I 67) n = sh_by (m.I 67) n := by rw [f.I 67 (by omega) (by omega) (by omega) (by omega)]
def sh_mft (k p : Int32) (m : sh_X) : sh_X := ⟨m.T, sh_u2 (sh_u2 m.I 66 6 k) 66 7 p, m.J, m.s⟩
theorem sh_252 (k p : Int32) (m : sh_X) : sf_252 k p m = some (false, sh_mft k p m) := rfl
/-- a word is put in -/
theorem sh_248p {ts : List sh_Tok} {m : sh_X} {t : Int32} {k e : Nat} (h : sh_Mw ts m) (hl : ts.length < 4001) (hke : k ≤ e) : ∃ m2, sf_248_281 (Int32.ofNat e) (Int32.ofNat k) ⟨m.T, sh_u2 m.I 68 (Int32.toNatClampNeg (m.I 66 11)) t, m.J, m.s⟩ = some (.inl (Int32.ofNat e, m2)) ∧ sh_Mw (ts ++ [(t, k, e - k)]) m2 ∧ sh_Mlf m m2 := by
  have hc : Int32.toNatClampNeg (m.I 66 11) = ts.length := by rw [h.am]; exact sh_nIc (by omega)
  have hok : sh_okb (m.I 66 11) 4002 = true := by rw [h.am]; exact (sh_okn (by omega)).mpr (by omega)
  have h66 : sh_X.I (m.T, sh_u2 m.I 68 (Int32.toNatClampNeg (m.I 66 11)) t, m.J, m.s) 66 = m.I 66 := by simp [sh_X.I, sh_u2_cell]
  unfold sf_248_281
  rw [h66, if_pos hok, if_pos hok, hc]
  refine ⟨_, rfl, ?_, ?_⟩
  · refine sh_Mw.mk ?_ ?_
    · simp only [sh_X.I, sh_u2_same]
      rw [show m.2.1 66 11 = _ from h.am, sh_nI1, List.length_append]
      rfl
    · intro i u hu
      simp only [sh_X.I] at hc h ⊢
      simp only [sh_u2, sh_nIsub hke]
      simp
      by_cases hi : i < ts.length
      · rw [List.getElem?_append_left hi] at hu
        rw [if_neg (by omega), if_neg (by omega), if_neg (by omega)]
        exact h.kd i u hu
      · by_cases hi2 : i = ts.length
        · subst hi2
          rw [List.getElem?_append_right (Nat.le_refl _), Nat.sub_self] at hu
          cases hu
          simp
        · rw [List.getElem?_eq_none (by simp; omega)] at hu
          cases hu
  · refine sh_Mlf.mk rfl rfl rfl ?_ ?_ ?_
    · intro c h1 h2 h3 h4
      simp [sh_X.I, sh_u2_cell h1, sh_u2_cell h2, sh_u2_cell h3, sh_u2_cell h4]
    · intro j h1 h2 h3
      simp [sh_X.I, sh_u2, h3]
    · simp [sh_X.I, sh_u2]
def sh_mcn (ts : List sh_Tok) (k : Nat) (m : sh_X) (r : Option (Option Int32 × Nat)) (q : Option ((Int32 × sh_X) ⊕ (Bool × sh_X))) : Prop := match r with
  | none => q = some (.inr (false, sh_mft 1 (Int32.ofNat k) m))
  | some (none, k2) => q = some (.inl (Int32.ofNat k2, m))
  | some (some t, k2) => ∃ m2, q = some (.inl (Int32.ofNat k2, m2)) ∧ sh_Mw (ts ++ [(t, k, k2 - k)]) m2 ∧ sh_Mlf m m2
theorem sh_mln_lt {n i : Nat} {m : sh_X} (h : sh_Bm n m) (hi : i < 100000) : Int32.ofNat i < m.I 66 3 ↔ i < n := by
  have := h.n4
  rw [h.le]
  exact sh_nIlt (by omega) (by omega)
theorem sh_248w {n k : Nat} {ts : List sh_Tok} {m : sh_X} (h : sh_Bm n m) (hM : sh_Mw ts m) (hk : k < n) (hts : ts.length ≤ k) : sh_mcn ts k m (sh_tk1 (sh_by (m.I 67) n) n k) (sf_248_7s (Int32.ofNat k) m) := by
  have n4 := h.n4
  have hok : sh_okb (m.I 66 11) 4002 = true := by rw [hM.am]; exact (sh_okn (by omega)).mpr (by omega)
  have hc := sh_by_rng (m.I 67) n k
  have hm1 : 0 ≤ (sh_by (m.I 67) n k).toInt := by
    have := sh_and255 (m.I 67 k)
    rw [← sh_by_in (n := n) hk] at this
    exact this.1
  unfold sf_248_7s sh_tk1 sf_248_47
  rw [if_pos ((sh_mln_lt h (by omega)).mpr hk), sh_249 h (by omega), sh_bc_some, sh_250, sh_251]
  by_cases hw : sh_by (m.I 67) n k = 32 ∨ sh_by (m.I 67) n k = 9 ∨ sh_by (m.I 67) n k = 10 ∨ sh_by (m.I 67) n k = 13
  · rw [if_pos hw, sh_nI1]
    show _ = _
    repeat' split
    all_goals first | rfl | (exfalso; simp_all; done)
  rw [if_neg hw]
  rw [if_neg (fun q => hw (Or.inl q)), if_neg (fun q => hw (Or.inr (Or.inl q))), if_neg (fun q => hw (Or.inr (Or.inr (Or.inl q)))), if_neg (fun q => hw (Or.inr (Or.inr (Or.inr q))))]
  by_cases h35 : sh_by (m.I 67) n k = 35
  · rw [if_pos h35, if_pos h35]
    obtain ⟨h1, h2, h3, h4⟩ := sh_re_spec (P := sh_PL) (B := sh_by (m.I 67) n) (n := n) sh_by_end (by decide) (f := n) (k := k) (by omega)
    have h4 := h4 (by omega)
    show _ = _
    generalize sh_re sh_PL (sh_by (m.I 67) n) n k = e at *
    unfold sf_248_59
    have hrun := sh_wrun (f := fun q : Int32 × sh_X => sf_248_59s q.1 q.2) (fun i => (Int32.ofNat i, m)) h1 (fun i hi1 hi2 => by
      show sf_248_59s _ m = _
      unfold sf_248_59s
      have := h2 i hi1 hi2
      rw [if_pos ((sh_mln_lt h (by omega)).mpr (by omega)), sh_249 h (by omega), sh_bc_some, if_neg (by unfold sh_PL at this; simp at this; exact this.1), sh_nI1])
    rw [hrun]
    refine sh_wend ?_
    show sf_248_59s _ m = _
    unfold sf_248_59s
    by_cases hen : e < n
    · rw [if_pos ((sh_mln_lt h (by omega)).mpr hen), sh_249 h (by omega), sh_bc_some]
      have hne : ¬ sh_by (m.I 67) n e = -1 := by
        intro q
        have := sh_and255 (m.I 67 e)
        rw [← sh_by_in (n := n) hen, q] at this
        exact absurd this.1 (by decide)
      unfold sh_PL at h3
      simp at h3
      rw [if_pos (by
        by_cases h10 : sh_by (m.I 67) n e = 10
        · exact h10
        · exact absurd (h3 h10) hne)]
    · rw [if_neg (fun q => hen ((sh_mln_lt h (by omega)).mp q))]
  rw [if_neg h35, if_neg h35]
  by_cases hl : sf_28 (sh_by (m.I 67) n k) = true
  · rw [if_pos hl, if_pos hl]
    obtain ⟨h1, h2, h3, h4⟩ := sh_re_spec (P := sf_30) (B := sh_by (m.I 67) n) (n := n) sh_by_end (by simpa using sh_np_m1) (f := n) (k := k) (by omega)
    have h4 := h4 (by omega)
    generalize sh_re sf_30 (sh_by (m.I 67) n) n k = e at *
    have h5 : k ≤ e := h1
    unfold sf_248_90
    have hrun := sh_wrun (f := fun q : Int32 × sh_X => sf_248_90s q.1 (Int32.ofNat k) q.2) (fun i => (Int32.ofNat i, m)) h1 (fun i hi1 hi2 => by
      show sf_248_90s _ _ m = _
      unfold sf_248_90s sf_248_122
      have := h2 i hi1 hi2
      rw [sh_249 h (by omega), sh_bc_some, sh_250]
      show _ = some (Sum.inl (Int32.ofNat (i + 1), m))
      rw [← sh_nI1]
      rcases (sh_npt _).mp this with q | q | q
      · rw [if_pos q]
      · by_cases q2 : sf_28 (sh_by (m.I 67) n i) = true
        · rw [if_pos q2]
        · rw [if_neg q2, sh_bc_some, sh_251, if_pos q]
      · rw [if_neg (by rw [q]; exact (by intro hq; have := (sh_let _).mp hq; revert this; decide)), sh_bc_some, sh_251, if_neg (by rw [q]; intro hq; have := (sh_dig _).mp hq; revert this; decide), sh_bc_some, if_pos q])
    rw [hrun]
    have hnp : ¬ sf_30 (sh_by (m.I 67) n e) = true := by rw [h3]; simp
    have hn1 : ¬ sf_28 (sh_by (m.I 67) n e) = true := fun q => hnp ((sh_npt _).mpr (Or.inl q))
    have hn2 : ¬ sf_31 (sh_by (m.I 67) n e) = true := fun q => hnp ((sh_npt _).mpr (Or.inr (Or.inl q)))
    have hn3 : ¬ sh_by (m.I 67) n e = 95 := fun q => hnp ((sh_npt _).mpr (Or.inr (Or.inr q)))
    have hsub : Int32.ofNat e - Int32.ofNat k = Int32.ofNat (e - k) := sh_nIsub h1
    have c12 : (12 : Int32) < Int32.ofNat (e - k) ↔ 12 < e - k := sh_nIlt (a := 12) (by omega) (by omega)
    by_cases h12 : 12 < e - k
    · rw [if_pos h12]
      refine sh_wend ?_
      show sf_248_90s _ _ m = _
      unfold sf_248_90s
      rw [sh_249 h (by omega), sh_bc_some, sh_250, if_neg hn1, sh_bc_some, sh_251, if_neg hn2, sh_bc_some, if_neg hn3, hsub, if_pos (c12.mpr h12), sh_252]
      rfl
    · rw [if_neg h12]
      obtain ⟨m2, r1, r2, r3⟩ := sh_248p (t := 1) (k := k) (e := e) hM (by omega) h1
      refine ⟨m2, ?_, r2, r3⟩
      refine sh_wend ?_
      show sf_248_90s _ _ m = _
      unfold sf_248_90s
      rw [sh_249 h (by omega), sh_bc_some, sh_250, if_neg hn1, sh_bc_some, sh_251, if_neg hn2, sh_bc_some, if_neg hn3, hsub, if_neg (fun q => h12 (c12.mp q)), if_pos hok, r1]
      rfl
  rw [if_neg hl, if_neg hl]
  by_cases hd : sf_31 (sh_by (m.I 67) n k) = true
  · rw [if_pos hd, if_pos hd]
    obtain ⟨h1, h2, h3, h4⟩ := sh_re_spec (P := sf_31) (B := sh_by (m.I 67) n) (n := n) sh_by_end (by simpa using sh_dig_m1) (f := n) (k := k) (by omega)
    have h4 := h4 (by omega)
    generalize sh_re sf_31 (sh_by (m.I 67) n) n k = e at *
    have h5 : k ≤ e := h1
    unfold sf_248_163
    have hrun := sh_wrun (f := fun q : Int32 × sh_X => sf_248_163s q.1 (Int32.ofNat k) q.2) (fun i => (Int32.ofNat i, m)) h1 (fun i hi1 hi2 => by
      show sf_248_163s _ _ m = _
      unfold sf_248_163s
      rw [sh_249 h (by omega), sh_bc_some, sh_251, if_pos (h2 i hi1 hi2), sh_nI1])
    rw [hrun]
    have hn2 : ¬ sf_31 (sh_by (m.I 67) n e) = true := by rw [h3]; simp
    have hsub : Int32.ofNat e - Int32.ofNat k = Int32.ofNat (e - k) := sh_nIsub h1
    have c12 : (18 : Int32) < Int32.ofNat (e - k) ↔ 18 < e - k := sh_nIlt (a := 18) (by omega) (by omega)
    by_cases h12 : 18 < e - k
    · rw [if_pos h12]
      refine sh_wend ?_
      show sf_248_163s _ _ m = _
      unfold sf_248_163s
      rw [sh_249 h (by omega), sh_bc_some, sh_251, if_neg hn2, hsub, if_pos (c12.mpr h12), sh_252]
      rfl
    · rw [if_neg h12]
      obtain ⟨m2, r1, r2, r3⟩ := sh_248p (t := 2) (k := k) (e := e) hM (by omega) h1
      refine ⟨m2, ?_, r2, r3⟩
      refine sh_wend ?_
      show sf_248_163s _ _ m = _
      unfold sf_248_163s
      rw [sh_249 h (by omega), sh_bc_some, sh_251, if_neg hn2, hsub, if_neg (fun q => h12 (c12.mp q)), if_pos hok, r1]
      rfl
  rw [if_neg hd, if_neg hd, sh_nI1, sh_249 h (by omega), sh_bc_some, sh_bc_some]
  by_cases hp : sf_253 (sh_by (m.I 67) n k) (sh_by (m.I 67) n (k + 1)) = true
  · rw [if_pos hp, if_pos hp, if_pos hok]
    obtain ⟨m2, r1, r2, r3⟩ := sh_248p (t := 256 * sh_by (m.I 67) n k + sh_by (m.I 67) n (k + 1)) (k := k) (e := k + 2) hM (by omega) (by omega)
    refine ⟨m2, ?_, r2, r3⟩
    rw [show (2 : Int32) = Int32.ofNat 2 from rfl, sh_nIadd]
    exact r1
  rw [if_neg hp, if_neg hp]
  have h254 : sf_254 (sh_by (m.I 67) n k) m = some (decide (¬ sh_txi 1 (sh_by (m.I 67) n k) < 0)) := by
    unfold sf_254
    rw [if_neg (fun q => absurd (sh_Ilt.mp q) (by show ¬ (sh_by (m.I 67) n k).toInt < 0; omega)), sh_txi_16]
    by_cases hs : sh_txi 1 (sh_by (m.I 67) n k) < 0
    · rw [if_pos hs, decide_eq_false (fun q => q hs)]
    · rw [if_neg hs, decide_eq_true hs]
  rw [h254, sh_bc_some]
  by_cases hs : sh_txi 1 (sh_by (m.I 67) n k) < 0
  · rw [show decide (¬ sh_txi 1 (sh_by (m.I 67) n k) < 0) = false by simpa using hs, if_pos hs, sh_252]
    rfl
  · rw [if_pos (decide_eq_true hs), if_neg hs, if_pos hok]
    obtain ⟨m2, r1, r2, r3⟩ := sh_248p (t := sh_by (m.I 67) n k) (k := k) (e := k + 1) hM (by omega) (by omega)
    refine ⟨m2, ?_, r2, r3⟩
    exact r1
def sh_mcr (n : Nat) (ts : List sh_Tok) (m : sh_X) (q : Option (Bool × sh_X)) (r : Nat ⊕ List sh_Tok) : Prop := match r with
  | .inl p => ∃ m1, q = some (false, sh_mft 1 (Int32.ofNat p) m1) ∧ sh_Mlf m m1
  | .inr l => ∃ m2, q = some (true, m2) ∧ m2.I 66 11 = Int32.ofNat (ts ++ l).length ∧ (∀ (i : Nat) (t : sh_Tok), (ts ++ l ++ [(0, n, 0)])[i]? = some t → m2.I 68 i = t.1 ∧ m2.I 69 i = Int32.ofNat t.2.1 ∧ m2.I 70 i = Int32.ofNat t.2.2) ∧ sh_Mlf m m2 ∧ (ts ++ l).length ≤ n
theorem sh_248l {n : Nat} {B : Nat → Int32} : ∀ (f k : Nat) (ts : List sh_Tok) (m : sh_X), n ≤ k + f → sh_by (m.I 67) n = B → sh_Bm n m → sh_Mw ts m → ts.length ≤ k → k ≤ n → sh_mcr n ts m (sf_248_7 (Int32.ofNat k) m) (sh_lx B n f k) := by
  intro f
  induction f with
  | zero =>
    intro k ts m hf hB h hM hts hkn
    have n4 := h.n4
    have hok : sh_okb (m.I 66 11) 4002 = true := by rw [hM.am]; exact (sh_okn (by omega)).mpr (by omega)
    have hc : Int32.toNatClampNeg (m.I 66 11) = ts.length := by rw [hM.am]; exact sh_nIc (by omega)
    show ∃ m2, _
    refine ⟨⟨m.T, sh_u2 (sh_u2 (sh_u2 m.I 68 ts.length 0) 69 ts.length (m.I 66 3)) 70 ts.length 0, m.J, m.s⟩, ?_, ?_, ?_, ?_, by rw [List.append_nil]; omega⟩
    · unfold sf_248_7
      refine sh_wend ?_
      show sf_248_7s (Int32.ofNat k) m = _
      unfold sf_248_7s
      rw [if_neg (fun q => absurd ((sh_mln_lt h (by omega)).mp q) (by omega)), if_pos hok, if_pos hok, if_pos hok, hc]
    · rw [List.append_nil]
      simp only [sh_X.I, sh_u2]
      simp
      exact hM.am
    · intro i u hu
      rw [List.append_nil] at hu
      simp only [sh_X.I, sh_u2]
      simp
      by_cases hi : i < ts.length
      · rw [List.getElem?_append_left hi] at hu
        rw [if_neg (by omega), if_neg (by omega), if_neg (by omega)]
        exact hM.kd i u hu
      · by_cases hi2 : i = ts.length
        · subst hi2
          rw [List.getElem?_append_right (Nat.le_refl _), Nat.sub_self] at hu
          cases hu
          rw [if_pos rfl, if_pos rfl, if_pos rfl]
          exact ⟨rfl, h.le, rfl⟩
        · rw [List.getElem?_eq_none (by simp; omega)] at hu
          cases hu
    · refine sh_Mlf.mk rfl rfl rfl ?_ ?_ ?_
      · intro c h1 h2 h3 h4
        simp [sh_X.I, sh_u2_cell h2, sh_u2_cell h3, sh_u2_cell h4]
      · intro j h1 h2 h3
        simp [sh_X.I, sh_u2]
      · simp [sh_X.I, sh_u2]
  | succ f ih =>
    intro k ts m hf hB h hM hts hkn
    have n4 := h.n4
    by_cases hk : k < n
    · have hs := sh_248w h hM hk hts
      rw [hB] at hs
      have hend : ∀ i, n ≤ i → B i = -1 := by rw [← hB]; exact sh_by_end
      cases htk : sh_tk1 B n k with
      | none =>
        rw [htk] at hs
        rw [sh_lx_e1 hk htk]
        refine ⟨m, ?_, sh_Mlf.refl m⟩
        unfold sf_248_7
        exact sh_wend hs
      | some r =>
        obtain ⟨o, k2⟩ := r
        obtain ⟨g1, g2⟩ := sh_tk1_go hend hk htk
        cases o with
        | none =>
          rw [htk] at hs
          have hgo : sf_248_7 (Int32.ofNat k) m = sf_248_7 (Int32.ofNat k2) m := by
            unfold sf_248_7
            exact sh_wstep hs
          rw [hgo, sh_lx_e2 hk htk]
          exact ih k2 ts m (by omega) hB h hM (by omega) g2
        | some t =>
          rw [htk] at hs
          obtain ⟨m2, q1, q2, q3⟩ := hs
          have hgo : sf_248_7 (Int32.ofNat k) m = sf_248_7 (Int32.ofNat k2) m2 := by
            unfold sf_248_7
            exact sh_wstep q1
          rw [hgo]
          have := ih k2 (ts ++ [(t, k, k2 - k)]) m2 (by omega) (by rw [q3.B]; exact hB) (q3.Bm h) q2 (by rw [List.length_append]; show ts.length + 1 ≤ k2; omega) g2
          cases hl2 : sh_lx B n f k2 with
          | inl p =>
            rw [hl2] at this
            rw [sh_lx_e3 hk htk hl2]
            obtain ⟨m1, a, b⟩ := this
            exact ⟨m1, a, q3.trans b⟩
          | inr l =>
            rw [hl2] at this
            rw [sh_lx_e4 hk htk hl2]
            obtain ⟨m3, a, a2, b, d, e⟩ := this
            rw [List.append_assoc ts] at b e a2
            exact ⟨m3, a, a2, b, q3.trans d, e⟩
    · have h0 := ih k ts m (by omega) hB h hM hts hkn
      rw [sh_lx_e0 hk] at h0 ⊢
      exact h0
