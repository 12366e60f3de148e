/-! EVALUATION: small methods of the class and of the model -/
theorem se_slot {m : sh_X} {s z : Nat} (hz : m.I 48 4 = Int32.ofNat z) (hs : s < z) (h2 : z ≤ 2048) : sf_108 (Int32.ofNat s) m = some (m.I 49 s) ∧ sf_110 (Int32.ofNat s) m = some (m.I 52 s) ∧ sf_111 (Int32.ofNat s) m = some (m.J 51 s) ∧ sf_117 (Int32.ofNat s) m = some (m.I 50 s) := by
  have e : sf_109 (Int32.ofNat s) m = some true := by
    unfold sf_109
    rw [if_neg (sh_nI0 (by omega)), hz, if_pos ((sh_nIlt (by omega) (by omega)).mpr hs)]
  have o : sh_okb (Int32.ofNat s) 2048 = true := sh_okn' (by omega) (by omega)
  unfold sf_108 sf_110 sf_111 sf_117
  rw [e, sh_bc_some, sh_bc_some, sh_bc_some, sh_bc_some, if_pos rfl, if_pos rfl, if_pos rfl, if_pos rfl, if_pos o, if_pos o, if_pos o, if_pos o, sh_nIc (by omega)]
  exact ⟨rfl, rfl, rfl, rfl⟩
section
variable {N : Nat} {K : Nat → Int32} {P V : Nat → Nat} {A C : Nat → Nat → Int32} {p : Nat → Bool} {gs : sh_gL} {u z q B fr cl sp cw ifs cd kn : Nat} {m : sh_X}
/-- spend -/
theorem se_90ok {x i : Nat} (h : se_c N K P V C gs u z q B fr cl sp cw ifs cd kn m) (hx : sp + x ≤ 3000) (w : Int32) : sf_90 (Int32.ofNat x) w m = some (some (), (m.T, sh_u2 m.I 41 14 (Int32.ofNat (sp + x)), m.J, m.s)) := by
  unfold sf_90
  rw [h.csp, sh_nIadd, if_neg (show ¬ 3000 < Int32.ofNat (sp + x) from fun r => by have := (sh_nIlt (a := 3000) (by omega) (by omega)).mp r; omega)]
theorem se_90no {x i : Nat} (hN : N ≤ 4000) (h : se_c N K P V C gs u z q B fr cl sp cw ifs cd kn m) (hx : 3000 < sp + x) (hb : sp + x < 2147483648) (hi : i ≤ N) : sf_90 (Int32.ofNat x) (Int32.ofNat i) m = some (none, sh_flt 6 (Int32.ofNat (P i)) (m.T, sh_u2 m.I 41 14 (Int32.ofNat (sp + x)), m.J, m.s)) := by
  have w := (h.wsp (sp2 := sp + x)).wc
  have tl := h.Tl
  unfold sf_90
  rw [h.csp, sh_nIadd, if_pos (show 3000 < Int32.ofNat (sp + x) from (sh_nIlt (a := 3000) (by omega) (by omega)).mpr hx), sh_50 w hN hi (by show m.T.length < _; omega)]
  rfl
theorem se_fail {k : Int32} {i : Nat} (hN : N ≤ 4000) (h : se_c N K P V C gs u z q B fr cl sp cw ifs cd kn m) (hi : i ≤ N) : sf_50 k (Int32.ofNat i) m = some (none, sh_flt k (Int32.ofNat (P i)) m) := sh_50 h.wc hN hi (by have := h.Tl; omega)
/-- drop, push, pushLoose, replace -/
theorem se_118 {k : Nat} (h : se_c N K P V C gs u z q B fr cl sp cw ifs cd kn m) (hk : k ≤ z) (hz : z ≤ 2048) : sf_118 (Int32.ofNat k) m = some ((), (m.T, sh_u2 m.I 48 4 (Int32.ofNat (z - k)), m.J, m.s)) := by
  unfold sf_118
  rw [h.cz, sh_nIsub hk, show (0 : Int32) = Int32.ofNat 0 from rfl, sh_max (by omega) (by omega), Nat.max_eq_right (Nat.zero_le _)]
theorem se_push (h : se_c N K P V C gs u z q B fr cl sp cw ifs cd kn m) (hz : z < 2048) (ty w : Int32) : ∃ m2, sf_163 ty w m = some ((), m2) ∧ se_c N K P V C gs u (z + 1) q B fr cl sp cw ifs cd kn m2 ∧ se_F u z q fr cl m m2 ∧ m2.I 49 z = ty ∧ m2.I 50 z = w ∧ m2.I 45 = m.I 45 ∧ m2.I 41 = m.I 41 := by
  have s1 := h.wz (z2 := z + 1)
  have f1 : se_F u z q fr cl m (m.T, sh_u2 m.I 48 4 (Int32.ofNat (z + 1)), m.J, m.s) := se_F.wI (by omega) (by omega) (by omega) (by omega) (by omega) (by omega)
  have s2 := (s1.wI (c := 49) (i := z) (x := ty) (by omega)).wI (c := 50) (i := z) (x := w) (by omega)
  have f2 := (f1.trans (se_F.wI (u := u) (z := z) (q := q) (fr := fr) (cl := cl) (c := 49) (i := z) (x := ty) (by omega) (by omega) (by omega) (by omega) (by omega) (by omega)) (Nat.le_refl _) (Nat.le_refl _) (Nat.le_refl _) (Nat.le_refl _) (Nat.le_refl _)).trans (se_F.wI (u := u) (z := z) (q := q) (fr := fr) (cl := cl) (c := 50) (i := z) (x := w) (by omega) (by omega) (by omega) (by omega) (by omega) (by omega)) (Nat.le_refl _) (Nat.le_refl _) (Nat.le_refl _) (Nat.le_refl _) (Nat.le_refl _)
  have e : sf_109 (Int32.ofNat z) (m.T, sh_u2 m.I 48 4 (Int32.ofNat (z + 1)), m.J, m.s) = some true := by
    unfold sf_109
    rw [if_neg (sh_nI0 (by omega)), s1.cz, if_pos ((sh_nIlt (by omega) (by omega)).mpr (by omega))]
  have o : sh_okb (Int32.ofNat z) 2048 = true := sh_okn' (by omega) (by omega)
  refine ⟨_, ?_, s2, f2, ?_, se_Is, ?_, ?_⟩
  · unfold sf_163
    rw [h.cz, if_pos (show Int32.ofNat z < 2048 from (sh_nIlt (b := 2048) (by omega) (by omega)).mpr hz), se_i1, sh_nI1]
    unfold sf_116
    rw [e, sh_bc_some, if_pos rfl, if_pos o, if_pos o, sh_nIc (by omega)]
    rfl
  · rw [se_In (by omega), se_Is]
  · rw [se_Ic (by omega), se_Ic (by omega), se_Ic (by omega)]
  · rw [se_Ic (by omega), se_Ic (by omega), se_Ic (by omega)]
theorem se_pushL (h : se_c N K P V C gs u z q B fr cl sp cw ifs cd kn m) (hz : z < 2048) {v : Int64} {t : Nat} (hv : sh_lo v) : ∃ m2, sf_162 v (Int32.ofNat t) m = some ((), m2) ∧ se_c N K P V C gs u (z + 1) q B fr cl sp cw ifs cd kn m2 ∧ se_F u z q fr cl m m2 ∧ se_L m2 z t v ∧ m2.I 41 = m.I 41 := by
  have s2 := (((h.wI (c := 49) (i := z) (x := 0) (by omega)).wI (c := 52) (i := z) (x := Int32.ofNat t) (by omega)).wz (z2 := z + 1)).wJ (c := 51) (i := z) (x := v) (by omega)
  have g : ∀ {c i : Nat} {x : Int32} {m : sh_X}, (c = 49 ∧ i = z) ∨ (c = 52 ∧ i = z) ∨ c = 48 → se_F u z q fr cl m (m.T, sh_u2 m.I c i x, m.J, m.s) := fun hh => se_F.wI (by omega) (by omega) (by omega) (by omega) (by omega) (by omega)
  have f2 := (((g (m := m) (c := 49) (i := z) (x := 0) (by omega)).trans (g (c := 52) (i := z) (x := Int32.ofNat t) (by omega)) (Nat.le_refl _) (Nat.le_refl _) (Nat.le_refl _) (Nat.le_refl _) (Nat.le_refl _)).trans (g (c := 48) (i := 4) (x := Int32.ofNat (z + 1)) (by omega)) (Nat.le_refl _) (Nat.le_refl _) (Nat.le_refl _) (Nat.le_refl _) (Nat.le_refl _)).trans (se_F.wJ (u := u) (z := z) (q := q) (fr := fr) (cl := cl) (c := 51) (i := z) (x := v) (by omega)) (Nat.le_refl _) (Nat.le_refl _) (Nat.le_refl _) (Nat.le_refl _) (Nat.le_refl _)
  have o : sh_okb (Int32.ofNat z) 2048 = true := sh_okn' (by omega) (by omega)
  refine ⟨_, ?_, s2, f2, ⟨?_, ?_, se_Js, hv⟩, ?_⟩
  · unfold sf_162
    rw [h.cz, if_pos (show Int32.ofNat z < 2048 from (sh_nIlt (b := 2048) (by omega) (by omega)).mpr hz), if_pos o, if_pos o, if_pos o, sh_nIc (by omega), sh_nI1]
  · simp only [sh_X.I]
    rw [sh_u2_cell (by omega), sh_u2_cell (by omega), sh_u2_same]
  · simp only [sh_X.I]
    rw [sh_u2_cell (by omega), sh_u2_same]
  · simp only [sh_X.I]
    rw [sh_u2_cell (by omega), sh_u2_cell (by omega), sh_u2_cell (by omega)]
theorem se_rep {k : Nat} (h : se_c N K P V C gs u z q B fr cl sp cw ifs cd kn m) (hk : 1 ≤ k ∧ k ≤ z) (hz : z ≤ 2048) (ty w : Int32) : ∃ m2, sf_167 (Int32.ofNat k) ty w m = some ((), m2) ∧ se_c N K P V C gs u (z - k + 1) q B fr cl sp cw ifs cd kn m2 ∧ se_F u (z - k) q fr cl m m2 ∧ m2.I 49 (z - k) = ty ∧ m2.I 50 (z - k) = w ∧ m2.I 45 = m.I 45 ∧ m2.I 41 = m.I 41 := by
  obtain ⟨m2, a1, a2, a3, a4, a5, a6, a7⟩ := se_push (h.wz (z2 := z - k)) (by omega) ty w
  refine ⟨m2, ?_, a2, (se_F.wI (by omega) (by omega) (by omega) (by omega) (by omega) (by omega)).trans a3 (Nat.le_refl _) (Nat.le_refl _) (Nat.le_refl _) (Nat.le_refl _) (Nat.le_refl _), a4, a5, a6.trans (se_Ic (by omega)), a7.trans (se_Ic (by omega))⟩
  unfold sf_167
  rw [se_118 h hk.2 hz, sh_bn_some, a1]
  rfl
/-- an operation of the Reckoner, then replace -/
theorem se_ropr {NN S n k : Nat} {F : Nat → (Nat → Bool) → Bool} {qq : Option (Int32 × sh_X)} (h : se_c N K P V C gs u z q B fr cl sp cw ifs cd kn m) (hk : 1 ≤ k ∧ k ≤ z) (hz : z ≤ 2048) (ty : Int32) (hr : sh_rop NN S n gs u m qq F) :
    ∃ e u2 w m5 m2, qq = some (Int32.ofNat w, m5) ∧ sf_167 (Int32.ofNat k) ty (Int32.ofNat w) m5 = some ((), m2) ∧ se_c N K P V C (e ++ gs) u2 (z - k + 1) q B fr cl sp cw ifs cd kn m2 ∧ se_F u (z - k) q fr cl m m2 ∧ m2.I 49 (z - k) = ty ∧ m2.I 50 (z - k) = Int32.ofNat w ∧ sh_val m2 (e ++ gs) u2 w n F ∧ u ≤ u2 ∧ u2 ≤ u + S ∧ e.length ≤ NN ∧ m2.I 41 = m.I 41 := by
  obtain ⟨e, w, u2, m5, r1, r2, r3, r4, r5, r6, r7, r8⟩ := hr
  have s5 := h.R r5 r6 r2
  obtain ⟨m2, a1, a2, a3, a4, a5, a6, a7⟩ := se_rep s5 hk hz ty (Int32.ofNat w)
  have k41 : m5.I 41 = m.I 41 := r5.I 41 (by omega) (by omega) (by omega) (by omega) (by omega) (by omega) (by omega) (by omega) (by omega)
  refine ⟨e, u2, w, m5, m2, r1, a1, a2, (se_F.R r5 r6).trans a3 r3 (Nat.le_refl _) (Nat.le_refl _) (Nat.le_refl _) (Nat.le_refl _), a4, a5, ?_, r3, r4, r7, a7.trans k41⟩
  have := r8.keep (m2 := m2) (e := []) (Nat.le_refl u2) (fun j _ => by rw [a6])
  exact this
end
section
variable {N : Nat} {K : Nat → Int32} {P V : Nat → Nat} {A : Nat → Nat → Int32} {q B sp ifs cd kn inn tp li : Nat} {ac : Bool} {m : sh_X}
/-- charge -/
theorem se_292ok {x : Nat} (h : m.I 66 42 = Int32.ofNat sp) (hx : sp + x ≤ 3000) (t : Int32) : sf_292 (Int32.ofNat x) t m = some (true, (m.T, sh_u2 m.I 66 42 (Int32.ofNat (sp + x)), m.J, m.s)) := by
  unfold sf_292 sf_292_35
  rw [h, sh_nIadd, if_neg (show ¬ 3000 < Int32.ofNat (sp + x) from fun r => by have := (sh_nIlt (a := 3000) (by omega) (by omega)).mp r; omega)]
theorem se_292no {x t : Nat} (hN : N ≤ 4000) (hw : sh_We N K P V m) (h : m.I 66 42 = Int32.ofNat sp) (hx : 3000 < sp + x) (hb : sp + x < 2147483648) (ht : t ≤ N) : sf_292 (Int32.ofNat x) (Int32.ofNat t) m = some (false, sh_mft 6 (Int32.ofNat (P t)) (m.T, sh_u2 m.I 66 42 (Int32.ofNat (sp + x)), m.J, m.s)) := by
  unfold sf_292 sf_292_35
  rw [h, sh_nIadd, if_pos (show 3000 < Int32.ofNat (sp + x) from (sh_nIlt (a := 3000) (by omega) (by omega)).mpr hx), if_pos (sh_okn' (by omega) (by omega)), sh_252, sh_bn_some, if_neg (by decide), sh_nIc (by omega), hw.at ht]
end
