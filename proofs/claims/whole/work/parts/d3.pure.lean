/-! EVALUATION: truths; rows are copied -/
/-- i longs of the model's memory, from S on, are copied to D -/
def se_cp (J : Nat → Nat → Int64) (D S i : Nat) : Nat → Nat → Int64 := fun c j => if c = 92 ∧ D ≤ j ∧ j < D + i then J 92 (S + (j - D)) else J c j
theorem se_cp_0 {J : Nat → Nat → Int64} {D S : Nat} : se_cp J D S 0 = J := by
  funext c j
  unfold se_cp
  rw [if_neg (by omega)]
theorem se_cp_in {J : Nat → Nat → Int64} {D S i k : Nat} (h : k < i) : se_cp J D S i 92 (D + k) = J 92 (S + k) := by
  unfold se_cp
  rw [if_pos (by omega)]
  congr 1
  omega
theorem se_cp_out {J : Nat → Nat → Int64} {D S i j : Nat} (h : j < D ∨ D + i ≤ j) : se_cp J D S i 92 j = J 92 j := by
  unfold se_cp
  rw [if_neg (by omega)]
theorem se_cp_c {J : Nat → Nat → Int64} {D S i c : Nat} (h : c ≠ 92) : se_cp J D S i c = J c := by
  funext j
  unfold se_cp
  rw [if_neg (by omega)]
theorem se_cp_1 {J : Nat → Nat → Int64} {D S i : Nat} (h : D ≤ S ∨ S + i < D) : sh_u2 (se_cp J D S i) 92 (D + i) (se_cp J D S i 92 (S + i)) = se_cp J D S (i + 1) := by
  rw [se_cp_out (by omega)]
  funext c j
  by_cases hc : c = 92
  · subst hc
    by_cases hj : j = D + i
    · subst hj
      rw [sh_u2_same]
      exact (se_cp_in (by omega)).symm
    · rw [sh_u2_idx hj]
      unfold se_cp
      by_cases hr : D ≤ j ∧ j < D + i
      · rw [if_pos ⟨rfl, hr⟩, if_pos (by omega)]
      · rw [if_neg (by omega), if_neg (by omega)]
  · rw [sh_u2_cell hc, se_cp_c hc, se_cp_c hc]
theorem se_cpG {tp q un li D S i : Nat} {m : sh_X} (h : tp ≤ D) : se_G tp q un li m (m.T, m.I, se_cp m.J D S i, m.s) :=
  se_G.mk rfl rfl (fun _ _ _ => rfl) (fun x _ a _ _ _ => se_cp_c a) (fun _ _ => rfl) (fun j hj => se_cp_out (by omega)) (fun j _ => ⟨rfl, rfl, rfl, rfl, rfl, by simp only [sh_X.J]; rw [se_cp_c (by omega)]⟩) (fun j _ => ⟨rfl, rfl, rfl, rfl, rfl, rfl, by simp only [sh_X.J]; rw [se_cp_c (by omega)]⟩) (fun j _ => ⟨rfl, rfl, rfl, rfl, by simp only [sh_X.J]; rw [se_cp_c (by omega)]⟩)
/-- a loop that copies: n steps -/
theorem se_cpl {ρ : Type} {f : Int32 × sh_X → Option ((Int32 × sh_X) ⊕ ρ)} {D S n : Nat} {m : sh_X} {r : Option ρ} (hs : ∀ i (J : Nat → Nat → Int64), i < n → f (Int32.ofNat i, (m.T, m.I, J, m.s)) = some (.inl (Int32.ofNat (i + 1), (m.T, m.I, sh_u2 J 92 (D + i) (J 92 (S + i)), m.s)))) (he : f (Int32.ofNat n, (m.T, m.I, se_cp m.J D S n, m.s)) = sh_up r) (h : D ≤ S ∨ S + n ≤ D) : sh_while f (Int32.ofNat 0, m) = r := by
  have main : ∀ d i, i + d = n → sh_while f (Int32.ofNat i, (m.T, m.I, se_cp m.J D S i, m.s)) = r := by
    intro d
    induction d with
    | zero =>
      intro i hi
      have : i = n := by omega
      subst this
      rw [sh_while_eq, he]
      cases r <;> rfl
    | succ d ih =>
      intro i hi
      rw [sh_while_eq, hs i _ (by omega), se_cp_1 (by omega)]
      exact ih (i + 1) (by omega)
  have := main n 0 (by omega)
  rw [se_cp_0] at this
  exact this
section
variable {N : Nat} {K : Nat → Int32} {P V : Nat → Nat} {A C : Nat → Nat → Int32} {p : Nat → Bool} {pf : Nat → Nat} {F c2 fm un e i n len d bb sg dq : Nat} {gs : sh_gL} {u z q B M fr cl sp cw ifs cd kn inn tp li : Nat} {ac : Bool} {mc mm : sh_X}
/-- the kind, bits and elements of the result are set -/
theorem se_res {m : sh_X} {k b n : Int32} {v : Int64} : se_G tp q un li m (m.T, sh_u2 (sh_u2 (sh_u2 m.I 66 43 k) 66 44 b) 66 45 n, sh_u2 m.J 66 46 v, m.s) :=
  (((se_G.wI (c := 66) (i := 43) (x := k) (by omega)).trans (se_G.wI (c := 66) (i := 44) (x := b) (by omega)) (Nat.le_refl _) (Nat.le_refl _) (Nat.le_refl _) (Nat.le_refl _)).trans (se_G.wI (c := 66) (i := 45) (x := n) (by omega)) (Nat.le_refl _) (Nat.le_refl _) (Nat.le_refl _) (Nat.le_refl _)).trans (se_G.wJ (c := 66) (i := 46) (x := v) (by omega)) (Nat.le_refl _) (Nat.le_refl _) (Nat.le_refl _) (Nat.le_refl _)
theorem se_resm {m : sh_X} {k b n : Int32} {v : Int64} (h : se_m N K P V A q B sp ifs cd kn inn tp li ac m) : se_m N K P V A q B sp ifs cd kn inn tp li ac (m.T, sh_u2 (sh_u2 (sh_u2 m.I 66 43 k) 66 44 b) 66 45 n, sh_u2 m.J 66 46 v, m.s) := by
  refine h.G (se_res (tp := 0) (q := 0) (un := 0) (li := 0)) ?_ ?_
  · rw [se_In (by omega), sh_u2_idx (by omega), sh_u2_idx (by omega)]; exact h.mtp
  · rw [se_In (by omega), sh_u2_idx (by omega), sh_u2_idx (by omega)]; exact h.msp
/-- 'true', 'false' -/
theorem se_tru {t : Nat} {b : Bool} (h : se_P N K P V A C p pf F c2 fm un e i n len d bb sg dq gs u z q B M fr cl sp cw ifs cd kn inn tp li ac mc mm) (hi : i < c2) (h73 : A 73 e = Int32.ofNat t) (ht : t ≤ N) (h72 : A 72 e = if b = true then 2 else 3) (h36 : C 36 i = 20) (h38 : C 38 i = Int32.ofNat (sh_bn1 b)) :
    se_X N K P V A C p (sq_279 dq) fm un e (i + 1) n len d bb gs u z q B fr cl sp cw ifs cd kn inn tp li ac mc mm := by
  obtain ⟨z1, q1, t1, n1⟩ := h.z1
  obtain ⟨dd, rfl⟩ := se_dq h
  have le := h.st.le
  have at1 := h.at hi h36 rfl h38
  have c1 := h.hc.nx (i := i + 1)
  obtain ⟨m2, b1, b2, b3, b4, b5, b6, b7⟩ := se_push c1 (by omega) 257 (Int32.ofNat (sh_bn1 b))
  have f1 : se_F u z q fr cl mc (se_nx (i + 1) mc) := se_F.wI (by omega) (by omega) (by omega) (by omega) (by omega) (by omega)
  have m1 := se_dnm (un := un) h.hm
  refine se_leaf (v := fun _ => if b = true then 1 else 0) (k := 0) (b := 1) (nn := 0) (tp2 := tp) (mc2 := m2) (mm2 := ((se_dn un mm).T, sh_u2 (sh_u2 (sh_u2 (se_dn un mm).I 66 43 0) 66 44 1) 66 45 0, sh_u2 (se_dn un mm).J 66 46 (if b = true then 1 else 0), (se_dn un mm).s)) h ?_ ?_ ?_ ?_ b2 (se_resm m1) (f1.trans b3 (Nat.le_refl _) (Nat.le_refl _) (Nat.le_refl _) (Nat.le_refl _) (Nat.le_refl _)) (se_dnG.trans se_res (Nat.le_refl _) (Nat.le_refl _) (Nat.le_refl _) (Nat.le_refl _)) (Or.inr ⟨⟨Or.inl ⟨rfl, rfl⟩, by omega⟩, b4, _, b5, se_truth b2.rs b⟩) h73 ht ?_ (Nat.le_refl _) (by have := h.bd.t16; omega) (fun q => absurd q (by omega))
  · rw [se_a20 at1, b1]
    rfl
  · rw [b7]; exact se_nxA
  · rw [se_294p h.st (k := if b = true then 2 else 3) (by rw [h.hm.aa 72 (by omega) (by omega)]; exact h72) (by cases b <;> decide)]
    have e1 : (sq_279 (dd + 1)).f313 (Int32.ofNat e) (se_dn un mm) = some (true, ((se_dn un mm).T, sh_u2 (sh_u2 (sh_u2 (se_dn un mm).I 66 43 0) 66 44 1) 66 45 0, sh_u2 (se_dn un mm).J 66 46 (if b = true then 1 else 0), (se_dn un mm).s)) := by
      show sf_313 (sq_279 dd) (Int32.ofNat e) (se_dn un mm) = _
      unfold sf_313 sf_313_93
      rw [if_pos (sh_okn' le (by omega)), sh_nIc (by omega), m1.aa 72 (by omega) (by omega), h72]
      cases b
      · rw [if_neg (by decide), if_pos (by decide), if_pos (sh_okn' le (by omega)), if_neg (by decide)]
        rfl
      · rw [if_neg (by decide), if_pos (by decide), if_pos (sh_okn' le (by omega)), if_pos (by decide)]
        rfl
    show se_ev _ _ ((sq_279 (dd + 1)).f313 (Int32.ofNat e) (se_dn un mm)) = _
    rw [e1]
    rfl
  · rw [se_In (by omega), sh_u2_idx (by omega), sh_u2_idx (by omega)]; exact se_dn7
  · exact ⟨by rw [se_In (by omega), sh_u2_idx (by omega), sh_u2_same]; rfl, fun _ => by rw [se_In (by omega), sh_u2_same]; rfl, se_Is, fun _ => se_Js, fun q => absurd q (by omega)⟩
end
