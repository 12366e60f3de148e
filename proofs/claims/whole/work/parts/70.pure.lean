/-! the lexer of the class, whole -/
def sh_flt (k p : Int32) (m : sh_X) : sh_X := ⟨m.T ++ [.inr (13, [])], sh_u2 (sh_u2 m.I 2 9 k) 2 10 p, m.J, m.s + 6⟩
theorem sh_32 {k p : Int32} {m : sh_X} (h : m.T.length < 1000000) : sf_32 k p m = some (none, sh_flt k p m) := by unfold sf_32; rw [if_pos h]; rfl
def sh_Nb (B : Nat → Int32) (nm : List (Nat × Nat)) (k : Nat) : Prop := 2 * nm.length ≤ k ∨ (2 * nm.length ≤ k + 1 ∧ sf_28 (B k) = false)
/-- what one step of the lexer does -/
def sh_scn (B : Nat → Int32) (ts : List sh_Tok) (nm : List (Nat × Nat)) (k : Nat) (m : sh_X) (r : Option (Option Int32 × Nat)) (q : Option (Option Int32 × sh_X)) : Prop := match r with
  | none => q = some (none, sh_flt 1 (Int32.ofNat k) m)
  | some (none, k2) => q = some (some (Int32.ofNat k2), m)
  | some (some t, k2) => ∃ nm2 m2, q = some (some (Int32.ofNat k2), m2) ∧ sh_Cw B (ts ++ [(t, k, k2 - k)]) nm2 m2 ∧ sh_Lf m m2 ∧ sh_Nb B nm2 k2
theorem sh_by_end {I : Nat → Int32} {n : Nat} : ∀ i, n ≤ i → sh_by I n i = -1 := fun _ h => sh_by_out (by omega)
/-- a run of the class's text: what the loop goes over -/
theorem sh_len_lt {n i : Nat} {m : sh_X} (h : sh_Bc n m) (hi : i < 100000) : Int32.ofNat i < m.I 2 6 ↔ i < n := by
  have := h.n4
  rw [h.le]
  exact sh_nIlt (by omega) (by omega)
/-- lineEnd -/
theorem sh_27 {n k : Nat} {m : sh_X} (h : sh_Bc n m) (hk : k < n) : sf_27 (Int32.ofNat k) m = some (Int32.ofNat (sh_re sh_PL (sh_by (m.I 1) n) n k)) := by
  have n4 := h.n4
  obtain ⟨h1, h2, h3, h4⟩ := sh_re_spec (P := sh_PL) (B := sh_by (m.I 1) n) (n := n) sh_by_end (by decide) (f := n) (k := k) (by omega)
  have h4 := h4 (by omega)
  generalize sh_re sh_PL (sh_by (m.I 1) n) n k = e at *
  unfold sf_27 sf_27_2
  have hrun := sh_wrun (f := fun q => sf_27_2s q m) (fun i => Int32.ofNat i) h1 (fun i hi1 hi2 => by
    show sf_27_2s _ m = _
    unfold sf_27_2s
    have := h2 i hi1 hi2
    rw [if_pos ((sh_len_lt h (by omega)).mpr (by omega)), sh_26 h (by omega), sh_bc_some, if_neg (by unfold sh_PL at this; simp at this; exact this.1), sh_nI1])
  rw [hrun]
  refine sh_wend ?_
  show sf_27_2s _ m = _
  unfold sf_27_2s
  by_cases hen : e < n
  · rw [if_pos ((sh_len_lt h (by omega)).mpr hen), sh_26 h (by omega), sh_bc_some]
    have hne : ¬ sh_by (m.I 1) n e = -1 := by
      intro q
      have := sh_and255 (m.I 1 e)
      rw [← sh_by_in (n := n) hen, q] at this
      exact absurd this.1 (by decide)
    unfold sh_PL at h3
    simp at h3
    rw [if_pos (by
      by_cases h10 : sh_by (m.I 1) n e = 10
      · exact h10
      · exact absurd (h3 h10) hne)]
  · rw [if_neg (fun q => hen ((sh_len_lt h (by omega)).mp q))]
theorem sh_wup {σ ρ : Type} {f : σ → Option (σ ⊕ ρ)} {s : σ} {x : Option ρ} (h : f s = sh_up x) : sh_while f s = x := by
  rw [sh_while_eq, h]
  cases x <;> rfl
/-- scanLetters -/
theorem sh_29 {n k : Nat} {ts : List sh_Tok} {nm : List (Nat × Nat)} {m : sh_X} (h : sh_Bc n m) (hC : sh_Cw (sh_by (m.I 1) n) ts nm m) (hk : k < n) (hT : m.T.length < 1000000) (hts : ts.length ≤ k) (hN : sh_Nb (sh_by (m.I 1) n) nm k) (hl : sf_28 (sh_by (m.I 1) n k) = true) : sh_scn (sh_by (m.I 1) n) ts nm k m (if 12 < sh_re sf_30 (sh_by (m.I 1) n) n k - k then none else some (some 1, sh_re sf_30 (sh_by (m.I 1) n) n k)) (sf_29 (Int32.ofNat k) m) := by
  have n4 := h.n4
  obtain ⟨h1, h2, h3, h4⟩ := sh_re_spec (P := sf_30) (B := sh_by (m.I 1) n) (n := n) sh_by_end (by simpa using sh_np_m1) (f := n) (k := k) (by omega)
  have h4 := h4 (by omega)
  have h5 : k < sh_re sf_30 (sh_by (m.I 1) n) n k := sh_re_pos (by omega) ((sh_npt _).mpr (Or.inl hl))
  generalize sh_re sf_30 (sh_by (m.I 1) n) n k = e at *
  have hrun : sf_29 (Int32.ofNat k) m = sf_29_27 (Int32.ofNat k) (Int32.ofNat e) m := by
    unfold sf_29 sf_29_2
    have hrun := sh_wrun (f := fun q : Int32 × sh_X => sf_29_2s (Int32.ofNat k) q.1 q.2) (fun i => (Int32.ofNat i, m)) h1 (fun i hi1 hi2 => by
      show sf_29_2s _ _ m = _
      unfold sf_29_2s
      rw [if_pos ((sh_len_lt h (by omega)).mpr (by omega)), sh_26 h (by omega), sh_bc_some, if_pos (h2 i hi1 hi2), sh_nI1])
    rw [hrun]
    refine sh_wup ?_
    show sf_29_2s (Int32.ofNat k) (Int32.ofNat e) m = _
    unfold sf_29_2s
    by_cases hen : e < n
    · rw [if_pos ((sh_len_lt h (by omega)).mpr hen), sh_26 h (by omega), sh_bc_some, if_neg (by rw [h3]; simp)]
    · rw [if_neg (fun q => hen ((sh_len_lt h (by omega)).mp q))]
  rw [hrun]
  unfold sf_29_27
  have hsub : Int32.ofNat e - Int32.ofNat k = Int32.ofNat (e - k) := sh_nIsub h1
  have c12 : (12 : Int32) < Int32.ofNat (e - k) ↔ 12 < e - k := sh_nIlt (a := 12) (by omega) (by omega)
  rw [hsub]
  by_cases h12 : 12 < e - k
  · rw [if_pos h12, if_pos (c12.mpr h12), sh_32 hT]
    rfl
  · rw [if_neg h12, if_neg (fun q => h12 (c12.mp q))]
    unfold sf_29_41
    rw [hsub, sh_33 h (by omega) (by omega), sh_bc_some]
    have hNb : 2 * nm.length ≤ k := by
      rcases hN with hN | ⟨_, hN⟩
      · exact hN
      · rw [hN] at hl; cases hl
    have hBe : sf_28 (sh_by (m.I 1) n e) = false := by
      cases hq : sf_28 (sh_by (m.I 1) n e) with
      | false => rfl
      | true => rw [(sh_npt _).mpr (Or.inl hq)] at h3; cases h3
    show ∃ nm2 m2, _
    by_cases ht : sp_ty (sh_by (m.I 1) n) k (e - k) = 0
    · rw [ht, if_pos (show Int32.ofNat 0 = 0 from rfl), sh_34 h (by omega) (by omega), sh_bc_some]
      have hck : sh_ck (sh_by (m.I 1) n) (1, k, e - k) = sh_rsv (sh_by (m.I 1) n) k (e - k) sh_rsl 4 := by
        unfold sh_ck
        rw [if_pos rfl, if_pos ht]
      unfold sf_29_66
      by_cases hr : sh_rsv (sh_by (m.I 1) n) k (e - k) sh_rsl 4 = 1
      · rw [if_pos hr]
        obtain ⟨a, nm2, m2, q1, q2, q3, q4, w, q5, q6⟩ := sh_36 (s := k) (z := e - k) h hC (by omega) (by omega) (by omega)
        rw [hsub, q1, sh_bn_some]
        obtain ⟨m3, r1, r2, r3⟩ := sh_38 (t := (1, k, e - k)) (x := Int32.toInt64 (Int32.ofNat a)) q2 (by omega) hck ⟨fun q => absurd q (by show ¬ (1 : Int32) = 2; decide), fun _ q => absurd ht q, fun _ _ => ⟨a, w, q5, q6, rfl⟩⟩
        unfold sf_29_92
        refine ⟨nm2, m3, by rw [r1]; rfl, r2, q3.trans r3, Or.inr ⟨by omega, hBe⟩⟩
      · rw [if_neg hr]
        obtain ⟨m3, r1, r2, r3⟩ := sh_38 (t := (1, k, e - k)) (x := Int32.toInt64 (Int32.ofNat 0)) hC (by omega) hck ⟨fun q => absurd q (by show ¬ (1 : Int32) = 2; decide), fun _ q => absurd ht q, fun _ q => absurd (hck.symm.trans q) hr⟩
        unfold sf_29_92
        refine ⟨nm, m3, by rw [r1]; rfl, r2, r3, Or.inl (by omega)⟩
    · have hlt : sp_ty (sh_by (m.I 1) n) k (e - k) < 300 := by
        unfold sp_ty
        split
        · omega
        · split
          · rename_i hb
            have := (sh_tyb_iff.mp hb).2.2.2.2.2.1
            split <;> omega
          · omega
      have c0 : Int32.ofNat (sp_ty (sh_by (m.I 1) n) k (e - k)) = 0 ↔ sp_ty (sh_by (m.I 1) n) k (e - k) = 0 := sh_nIeq (b := 0) (by omega) (by omega)
      rw [if_neg (fun q => ht (c0.mp q))]
      unfold sf_29_66
      rw [if_neg (by decide)]
      have hck : sh_ck (sh_by (m.I 1) n) (1, k, e - k) = 3 := by
        unfold sh_ck
        rw [if_pos rfl, if_neg ht]
      obtain ⟨m3, r1, r2, r3⟩ := sh_38 (t := (1, k, e - k)) (x := Int32.toInt64 (Int32.ofNat (sp_ty (sh_by (m.I 1) n) k (e - k)))) hC (by omega) hck ⟨fun q => absurd q (by show ¬ (1 : Int32) = 2; decide), fun _ _ => rfl, fun _ q => absurd (hck.symm.trans q) (by decide)⟩
      unfold sf_29_92
      refine ⟨nm, m3, by rw [r1]; rfl, r2, r3, Or.inl (by omega)⟩
