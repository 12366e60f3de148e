theorem sh_nar2 {k : Nat} (h : k ≤ 2) : vp_nar .byte (Int32.ofNat k).toInt8.toInt32 = Int32.ofNat k := sh_nar (by omega)
theorem sh_gp_spec {gs : sh_gL} {a b c n k x y : Nat} {m : sh_X} (h : sh_Gv gs a b c n m) (hn : gs.length < n) (hk : k ≤ 2) (hxy : (k = 0 ∧ sh_gq (k, x, y) gs) ∨ (x < gs.length ∧ y < gs.length ∧ ¬ k = 0)) :
    ∃ m2, sh_gp (Int32.ofNat k) (Int32.ofNat x) (Int32.ofNat y) m = some (Int32.ofNat gs.length, m2) ∧ sh_Gv ((k, x, y) :: gs) a b c n m2 ∧ sh_Gf m m2 := by
  have hlt : gs.length < 2147483648 := by have := h.n1; omega
  have hg : sh_okb (m.I 9 3) (sh_ln m.T (sh_rf m.T 9 0)) = true ∧ sh_okb (m.I 9 3) (sh_ln m.T (sh_rf m.T 9 1)) = true ∧ sh_okb (m.I 9 3) (sh_ln m.T (sh_rf m.T 9 2)) = true := by
    rw [h.w, h.ra, h.rb, h.rc, h.la, h.lb, h.lc, sh_okn hlt]
    exact ⟨hn, hn, hn⟩
  unfold sh_gp
  rw [if_pos hg, h.ra, h.rb, h.rc, h.w, sh_nar2 hk, sh_nIc hlt, show Int32.ofNat gs.length + 1 = Int32.ofNat (gs.length + 1) from sh_nIadd (b := 1), show Int32.ofNat (gs.length + 1) - 1 = Int32.ofNat gs.length from sh_nIsub (b := 1) (by omega)]
  have a9 : a ≠ 9 := by have := h.fa; omega
  have b9 : b ≠ 9 := by have := h.fb; omega
  have c9 : c ≠ 9 := by have := h.fc; omega
  refine ⟨_, rfl, ?_, ?_⟩
  · refine sh_Gv.mk (ra := h.ra) (rb := h.rb) (rc := h.rc) (la := h.la) (lb := h.lb) (lc := h.lc) (ab := h.ab) (ac := h.ac) (bc := h.bc) (fa := h.fa) (fb := h.fb) (fc := h.fc) (nT := h.nT) (n0 := h.n0) (n1 := h.n1) (n5 := h.n5) (tT := h.tT) (le := hn) (w := (rfl)) (k := ?_) (l := ?_) (r := ?_) (wf := ⟨hk, hxy, h.wf⟩)
    · intro i hi
      show sh_u2 _ 9 3 _ a i = _
      rw [sh_u2_cell a9, sh_u2_cell h.ac, sh_u2_cell h.ab]
      by_cases he : i = gs.length
      · subst he; rw [sh_u2_same, sh_ga_new]
      · have hl : i < gs.length := by simp at hi; omega
        rw [sh_u2_idx he, h.k i hl, sh_ga_old hl]
    · intro i hi
      show sh_u2 _ 9 3 _ b i = _
      rw [sh_u2_cell b9, sh_u2_cell h.bc]
      by_cases he : i = gs.length
      · subst he; rw [sh_u2_same, sh_ga_new]
      · have hl : i < gs.length := by simp at hi; omega
        rw [sh_u2_idx he, sh_u2_cell h.ab.symm, h.l i hl, sh_ga_old hl]
    · intro i hi
      show sh_u2 _ 9 3 _ c i = _
      rw [sh_u2_cell c9]
      by_cases he : i = gs.length
      · subst he; rw [sh_u2_same, sh_ga_new]
      · have hl : i < gs.length := by simp at hi; omega
        rw [sh_u2_idx he, sh_u2_cell h.bc.symm, sh_u2_cell h.ac.symm, h.r i hl, sh_ga_old hl]
  · refine sh_Gf.mk (fun d h0 h1 h2 h3 h4 => ?_) rfl (fun _ _ _ q => q) (Nat.le_refl _) (Nat.le_refl _) rfl
    show sh_u2 _ 9 3 _ d = _
    have := h.fa
    have := h.fb
    have := h.fc
    rw [sh_u2_cell h1, sh_u2_cell (by omega), sh_u2_cell (by omega), sh_u2_cell (by omega)]
theorem sh_rf_of {T : List sh_Tg} {c f ci a : Nat} {fs : List (Nat ⊕ Value)} (h : T[c]? = some (.inr (ci, fs))) (hf : fs[f]? = some (.inr (.ref (a + 1)))) : sh_rf T c f = a := by
  unfold sh_rf
  rw [h]
  dsimp only
  rw [hf]
theorem sh_ln_of {T : List sh_Tg} {a t n : Nat} (h : T[a]? = some (.inl (t, n))) : sh_ln T a = n := by
  unfold sh_ln
  rw [h]
theorem sh_set_app {T l : List sh_Tg} {t t2 : sh_Tg} {c i : Nat} (hi : i ≠ c) (h : (T ++ l)[i]? = some t) : ((T ++ l).set c t2)[i]? = some t := by
  rw [List.getElem?_set_ne (Ne.symm hi)]
  exact h
theorem sh_app_at {T l : List sh_Tg} {j : Nat} {t : sh_Tg} (h : l[j]? = some t) : (T ++ l)[T.length + j]? = some t := by
  rw [List.getElem?_append_right (by omega), show T.length + j - T.length = j by omega]
  exact h
theorem sh_app_l {T l : List sh_Tg} {i : Nat} {t : sh_Tg} (h : T[i]? = some t) : (T ++ l)[i]? = some t := by
  rw [List.getElem?_append_left (List.getElem?_eq_some_iff.mp h).1]
  exact h
theorem sh_div_half {n : Nat} (h0 : 4096 ≤ n) (h1 : n < 65536) (h2 : 2 * n ≤ 65536) : 131072 / (2 * n) + 1 ≤ 131072 / n := by
  have e : 131072 / (2 * n) = 131072 / n / 2 := by rw [Nat.mul_comm, Nat.div_div_eq_div_mul]
  have e2 : 4 ≤ 131072 / n := (Nat.le_div_iff_mul_le (by omega)).mpr (by omega)
  omega
/-- the arrays of the gates grow -/
theorem sh_gw_spec {gs : sh_gL} {a b c n : Nat} {m : sh_X} (h : sh_Gv gs a b c n m) (hn : 2 * n ≤ 65536) :
    sh_Gv gs m.T.length (m.T.length + 1) (m.T.length + 2) (2 * n) (sh_gw (2 * n) m) ∧ sh_Gf m (sh_gw (2 * n) m) := by
  have n0 := h.n0
  have nT := h.nT
  have d := sh_div_half n0 (by omega) hn
  have e9 : ((m.T ++ ([.inl (1, 2 * n), .inl (0, 2 * n), .inl (0, 2 * n)] : List sh_Tg)).set 9 (sh_gt m.T.length (m.T.length + 1) (m.T.length + 2)))[9]? = some (sh_gt m.T.length (m.T.length + 1) (m.T.length + 2)) := by
    rw [List.getElem?_set_self (by rw [List.length_append]; omega)]
  have l0 : sh_ln (sh_gw (2 * n) m).T m.T.length = 2 * n := sh_ln_of (t := 1) (sh_set_app (by omega) (sh_app_at (j := 0) rfl))
  have l1 : sh_ln (sh_gw (2 * n) m).T (m.T.length + 1) = 2 * n := sh_ln_of (t := 0) (sh_set_app (by omega) (sh_app_at (j := 1) rfl))
  have l2 : sh_ln (sh_gw (2 * n) m).T (m.T.length + 2) = 2 * n := sh_ln_of (t := 0) (sh_set_app (by omega) (sh_app_at (j := 2) rfl))
  have r0 : sh_rf (sh_gw (2 * n) m).T 9 0 = m.T.length := sh_rf_of e9 rfl
  have len : (sh_gw (2 * n) m).T.length = m.T.length + 3 := by
    show (List.set _ _ _).length = _
    rw [List.length_set, List.length_append]
    rfl
  have hI : ∀ d, d < m.T.length → (sh_gw (2 * n) m).I d = m.I d := by
    intro d hd
    funext i
    show sh_cp (sh_cp (sh_cp m.I _ _ _) _ _ _) _ _ _ d i = _
    unfold sh_cp
    rw [if_neg (by omega), if_neg (by omega), if_neg (by omega)]
  have fa := h.fa
  have fb := h.fb
  have fc := h.fc
  have tT := h.tT
  have le := h.le
  refine ⟨?_, ?_⟩
  · refine sh_Gv.mk (ra := r0) (rb := sh_rf_of e9 rfl) (rc := sh_rf_of e9 rfl) (la := l0) (lb := l1) (lc := l2) (ab := by omega) (ac := by omega) (bc := by omega) (fa := ⟨by omega, by omega⟩) (fb := ⟨by omega, by omega⟩) (fc := ⟨by omega, by omega⟩) (nT := by omega) (n0 := by omega) (n1 := hn) (n5 := by have := h.n5; omega) (tT := by omega) (le := by omega) (w := ?_) (k := ?_) (l := ?_) (r := ?_) (wf := h.wf)
    · rw [hI 9 (by omega)]; exact h.w
    · intro i hi
      show sh_cp (sh_cp (sh_cp m.I _ _ _) _ _ _) _ _ _ m.T.length i = _
      unfold sh_cp
      rw [if_neg (by omega), if_neg (by omega), if_pos rfl, h.ra, h.la, if_pos (by omega), h.k i hi]
    · intro i hi
      show sh_cp (sh_cp (sh_cp m.I _ _ _) _ _ _) _ _ _ (m.T.length + 1) i = _
      unfold sh_cp
      rw [if_neg (by omega), if_pos rfl, h.rb, h.lb, if_pos (by omega), if_neg (by omega), h.l i hi]
    · intro i hi
      show sh_cp (sh_cp (sh_cp m.I _ _ _) _ _ _) _ _ _ (m.T.length + 2) i = _
      unfold sh_cp
      rw [if_pos rfl, h.rc, h.lc, if_pos (by omega), if_neg (by omega), if_neg (by omega), h.r i hi]
  · refine sh_Gf.mk (fun d h0 _ _ _ _ => hI d (by omega)) rfl (fun d t hd ht => sh_set_app hd (sh_app_l ht)) ?_ (by omega) ?_
    · rw [r0, l0, h.ra, h.la, len]
      omega
    · rw [r0, l0, h.ra, h.la]
      show m.s + 3 * (2 * n) + 6 * n = m.s + 6 * (2 * n)
      omega
/-- Gates.store -/
theorem sh_st_spec {gs : sh_gL} {a b c n k x y : Nat} {m : sh_X} (h : sh_Gv gs a b c n m) (hl : gs.length < 65536) (hk : k ≤ 2) (hxy : (k = 0 ∧ sh_gq (k, x, y) gs) ∨ (x < gs.length ∧ y < gs.length ∧ ¬ k = 0)) :
    ∃ a2 b2 c2 n2 m2, sf_19 (Int32.ofNat k) (Int32.ofNat x) (Int32.ofNat y) m = some (Int32.ofNat gs.length, m2) ∧ sh_Gv ((k, x, y) :: gs) a2 b2 c2 n2 m2 ∧ sh_Gf m m2 := by
  have n0 := h.n0
  have n1 := h.n1
  have le := h.le
  unfold sf_19
  rw [if_pos (show m.I 9 3 < 65536 by rw [h.w]; exact (sh_nIlt (b := 65536) (by omega) (by omega)).mpr hl)]
  by_cases hn : gs.length < n
  · rw [if_pos (by rw [h.w, h.ra, h.la, sh_nIlt (by omega) (by omega)]; exact hn)]
    obtain ⟨m2, e1, e2, e3⟩ := sh_gp_spec h hn hk hxy
    exact ⟨a, b, c, n, m2, e1, e2, e3⟩
  · have hle : gs.length = n := by omega
    have h2n : 2 * n ≤ 65536 := by have := h.n5; omega
    rw [if_neg (by rw [h.w, h.ra, h.la, sh_nIlt (by omega) (by omega)]; exact hn), if_pos]
    · obtain ⟨g1, g2⟩ := sh_gw_spec h h2n
      obtain ⟨m2, e1, e2, e3⟩ := sh_gp_spec g1 (by omega) hk hxy
      rw [h.ra, h.la]
      exact ⟨_, _, _, _, m2, e1, e2, g2.trans e3⟩
    · have tT := h.tT
      refine ⟨by rcases h.n5 with h5 | h5 | h5 | h5 | h5 <;> rw [h5] at tT <;> omega, by rw [h.ra, h.la]; exact n1, ?_, ?_, ?_, ?_, ?_⟩
      · rw [h.w]; exact (sh_nIlt (a := 0) (by omega) (by omega)).mpr (by omega)
      · rw [h.w, h.ra, h.la, hle]
      · rw [h.rb, h.lb, h.ra, h.la]
      · rw [h.rc, h.lc, h.ra, h.la]
      · rw [h.ra, h.la]
        unfold sh_byb
        rw [List.all_eq_true]
        intro i hi
        have hi2 : i < gs.length := by rw [hle]; exact List.mem_range.mp hi
        rw [h.k i hi2]
        have h2 := (sh_gw0_at h.wf hi2).1
        generalize (sh_ga gs i).1 = q at h2
        have h3 : q = 0 ∨ q = 1 ∨ q = 2 := by omega
        rcases h3 with rfl | rfl | rfl <;> decide
