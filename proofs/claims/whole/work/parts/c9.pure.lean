/-! EVALUATION: a loose number becomes of a type, on both sides -/
section
variable {N : Nat} {K : Nat → Int32} {P V : Nat → Nat} {A C : Nat → Nat → Int32} {p : Nat → Bool} {sp : Nat} {m : sh_X}
theorem se_0lt {n : Nat} (h : n < 2147483648) : (0 : Int32) < Int32.ofNat n ↔ 0 < n := sh_nIlt (a := 0) (by omega) h
theorem se_299n {e t k b n : Nat} {v : Int64} (hN : N ≤ 4000) (hw : sh_We N K P V m) (h46 : m.J 66 46 = v) (he : e < 9000) (h73 : m.I 73 e = Int32.ofNat t) (ht : t ≤ N) (hy : sh_typ k b n) (hh : ¬ (n = 0 ∧ sh_hs k b v)) : sf_299 (Int32.ofNat e) (Int32.ofNat k) (Int32.ofNat b) (Int32.ofNat n) m = some (false, sh_mft 5 (Int32.ofNat (P t)) m) := by
  have n2 := hy.n2
  have b1 := hy.b1
  have b2 := hy.b2
  have k2 := hy.k2
  have e27 : sf_299_27 (Int32.ofNat e) m = some (false, sh_mft 5 (Int32.ofNat (P t)) m) := by
    unfold sf_299_27
    rw [if_pos (sh_okn' he (by omega)), sh_nIc (by omega), h73, if_pos (sh_okn' (by omega) (by omega)), sh_nIc (by omega), hw.at ht, sh_252, sh_bn_some]
  unfold sf_299 sf_299_15
  rw [e27]
  by_cases hn : 0 < n
  · rw [if_pos ((se_0lt (by omega)).mpr hn)]
  · rw [if_neg (fun r => hn ((se_0lt (by omega)).mp r))]
    have nh : ¬ sh_hs k b v := fun r => hh ⟨by omega, r⟩
    by_cases h1 : k = 1
    · subst h1
      rw [if_pos (show Int32.ofNat 1 = 1 from rfl), h46, if_neg (fun r => nh ((sh_300 (Or.inl rfl) b1 b2).mp r))]
    · rw [if_neg (show ¬ Int32.ofNat k = 1 from fun r => h1 ((sh_kI k2 (c := 1) (by omega)).mp r))]
      by_cases h2 : k = 2
      · subst h2
        rw [if_pos (show Int32.ofNat 2 = 2 from rfl), h46, if_neg (fun r => nh ((sh_300 (Or.inr rfl) b1 b2).mp r))]
      · rw [if_neg (show ¬ Int32.ofNat k = 2 from fun r => h2 ((sh_kI k2 (c := 2) (by omega)).mp r))]
theorem se_299h {e t k b : Nat} {v : Int64} (h46 : m.J 66 46 = v) (he : e < 9000) (h73 : m.I 73 e = Int32.ofNat t) (hy : sh_typ k b 0) (hh : sh_hs k b v) : sf_299 (Int32.ofNat e) (Int32.ofNat k) (Int32.ofNat b) (Int32.ofNat 0) m = sh_bn (sf_292 (Int32.ofNat b) (Int32.ofNat t) (m.T, sh_u2 (sh_u2 (sh_u2 m.I 66 43 (Int32.ofNat k)) 66 44 (Int32.ofNat b)) 66 45 0, m.J, m.s)) fun r2 m12 => some (r2, m12) := by
  have b1 := hy.b1
  have b2 := hy.b2
  have kk : k = 1 ∨ k = 2 := by unfold sh_hs at hh; omega
  have go : sf_299_15 (Int32.ofNat e) (Int32.ofNat k) (Int32.ofNat b) m = sh_bn (sf_292 (Int32.ofNat b) (Int32.ofNat t) (m.T, sh_u2 (sh_u2 (sh_u2 m.I 66 43 (Int32.ofNat k)) 66 44 (Int32.ofNat b)) 66 45 0, m.J, m.s)) fun r2 m12 => some (r2, m12) := by
    unfold sf_299_15
    rw [h46, if_pos ((sh_300 kk b1 b2).mpr hh), if_pos (sh_okn' he (by omega)), sh_nIc (by omega), h73]
  unfold sf_299
  rw [go, if_neg (by decide)]
  rcases kk with rfl | rfl
  · rw [if_pos (show Int32.ofNat 1 = 1 from rfl)]
  · rw [if_neg (show ¬ Int32.ofNat 2 = 1 by decide), if_pos (show Int32.ofNat 2 = 2 from rfl)]
/-- the fields of a result are set -/
theorem se_r3 {k b : Int32} : sh_Rr m (m.T, sh_u2 (sh_u2 (sh_u2 m.I 66 43 k) 66 44 b) 66 45 0, m.J, m.s) := ((sh_Rr.wi (m := m) (f := 43) (x := k) (by omega)).trans (sh_Rr.wi (f := 44) (x := b) (by omega))).trans (sh_Rr.wi (f := 45) (x := 0) (by omega))
theorem sh_Rr.we {m2 : sh_X} (h : sh_Rr m m2) (w : sh_We N K P V m) : sh_We N K P V m2 := w.same (h.I 71 (by omega)) (h.I 68 (by omega)) (h.I 69 (by omega)) (h.I 70 (by omega))
theorem se_299x {e t k b : Nat} {v : Int64} (hN : N ≤ 4000) (hw : sh_We N K P V m) (h42 : m.I 66 42 = Int32.ofNat sp) (h46 : m.J 66 46 = v) (he : e < 9000) (h73 : m.I 73 e = Int32.ofNat t) (ht : t ≤ N) (hy : sh_typ k b 0) (hh : sh_hs k b v) (hx : 3000 < sp + b) (hsp : sp ≤ 3000) : ∃ m2, sf_299 (Int32.ofNat e) (Int32.ofNat k) (Int32.ofNat b) (Int32.ofNat 0) m = some (false, sh_mft 6 (Int32.ofNat (P t)) m2) ∧ sh_Rr m m2 := by
  have b2 := hy.b2
  rw [se_299h h46 he h73 hy hh, se_292no hN (se_r3.we hw) (sp := sp) (by rw [se_In (by omega), sh_u2_idx (by omega), sh_u2_idx (by omega)]; exact h42) hx (by omega) ht, sh_bn_some]
  exact ⟨_, rfl, se_r3.trans (sh_Rr.wi (by omega))⟩
theorem se_299o {e t k b : Nat} {v : Int64} (h42 : m.I 66 42 = Int32.ofNat sp) (h46 : m.J 66 46 = v) (he : e < 9000) (h73 : m.I 73 e = Int32.ofNat t) (hy : sh_typ k b 0) (hh : sh_hs k b v) (hx : sp + b ≤ 3000) : ∃ m2, sf_299 (Int32.ofNat e) (Int32.ofNat k) (Int32.ofNat b) (Int32.ofNat 0) m = some (true, m2) ∧ sh_Rr m m2 ∧ m2.I 66 43 = Int32.ofNat k ∧ m2.I 66 44 = Int32.ofNat b ∧ m2.I 66 45 = Int32.ofNat 0 ∧ m2.I 66 42 = Int32.ofNat (sp + b) ∧ m2.J = m.J := by
  rw [se_299h h46 he h73 hy hh, se_292ok (sp := sp) (by rw [se_In (by omega), sh_u2_idx (by omega), sh_u2_idx (by omega)]; exact h42) hx, sh_bn_some]
  refine ⟨_, rfl, se_r3.trans (sh_Rr.wi (by omega)), ?_, ?_, ?_, se_Is, rfl⟩
  · rw [se_In (by omega), se_In (by omega), sh_u2_idx (by omega), sh_u2_same]
  · rw [se_In (by omega), se_In (by omega), sh_u2_same]
  · rw [se_In (by omega), se_Is]; rfl
end
section
variable {N : Nat} {K : Nat → Int32} {P V : Nat → Nat} {A C : Nat → Nat → Int32} {p : Nat → Bool} {gs : sh_gL} {u z q B fr cl sp cw ifs cd kn : Nat} {mc mm : sh_X}
/-- settle and become, side by side -/
theorem se_set {s e t k b n : Nat} {v : Int64} (hN : N ≤ 4000) (h : se_c N K P V C gs u z q B fr cl sp cw ifs cd kn mc) (hs : s < z) (hz : z ≤ 2048) (hL : se_L mc s t v) (ht : t ≤ N) (hy : sh_typ k b n) (hsp : sp ≤ 3000) (hu : 4 * u + 5 * (3000 - sp) ≤ 32000)
    (hw : sh_We N K P V mm) (h42 : mm.I 66 42 = Int32.ofNat sp) (h46 : mm.J 66 46 = v) (he : e < 9000) (h73 : mm.I 73 e = Int32.ofNat t) :
    se_bad N P mc mm (sf_107 (Int32.ofNat s) (Int32.ofNat (sh_te k b n)) mc) (sf_299 (Int32.ofNat e) (Int32.ofNat k) (Int32.ofNat b) (Int32.ofNat n) mm) ∨
    (n = 0 ∧ sp + b ≤ 3000 ∧ ∃ e' u2 mc2 mm2, sf_107 (Int32.ofNat s) (Int32.ofNat (sh_te k b n)) mc = some (some (), mc2) ∧ se_c N K P V C (e' ++ gs) u2 z q B fr cl (sp + b) cw ifs cd kn mc2 ∧ se_F u s q fr cl mc mc2 ∧ (∀ j, j ≠ s → mc2.I 49 j = mc.I 49 j ∧ mc2.I 50 j = mc.I 50 j ∧ mc2.I 52 j = mc.I 52 j ∧ mc2.J 51 j = mc.J 51 j) ∧ se_T p mc2 (e' ++ gs) u2 s k b 0 (fun _ => v) ∧ u ≤ u2 ∧ u2 ≤ u + b ∧ e'.length ≤ 0 ∧ mc2.I 41 13 = mc.I 41 13 ∧
      sf_299 (Int32.ofNat e) (Int32.ofNat k) (Int32.ofNat b) (Int32.ofNat n) mm = some (true, mm2) ∧ sh_Rr mm mm2 ∧ mm2.I 66 43 = Int32.ofNat k ∧ mm2.I 66 44 = Int32.ofNat b ∧ mm2.I 66 45 = Int32.ofNat 0 ∧ mm2.I 66 42 = Int32.ofNat (sp + b) ∧ mm2.J = mm.J) := by
  by_cases hh : n = 0 ∧ sh_hs k b v
  · obtain ⟨rfl, hh⟩ := hh
    by_cases hx : sp + b ≤ 3000
    · right
      obtain ⟨e', u2, mc2, a1, a2, a3, a4, a5, a6, a7, a8, a9⟩ := se_107o (p := p) h hs hz hL hy hh hx (by omega)
      obtain ⟨mm2, b1, b2, b3, b4, b5, b6, b7⟩ := se_299o h42 h46 he h73 hy hh hx
      exact ⟨rfl, hx, e', u2, mc2, mm2, a1, a2, a3, a4, a5, a6, a7, a8, a9, b1, b2, b3, b4, b5, b6, b7⟩
    · left
      obtain ⟨mm2, b1, b2⟩ := se_299x hN hw h42 h46 he h73 ht hy hh (by omega) hsp
      exact ⟨6, t, _, mm2, ht, se_107x hN h hs hz hL ht hy hh (by omega) hsp, (se_F.wI (u := 0) (z := 0) (q := 0) (fr := 0) (cl := 0) (by omega) (by omega) (by omega) (by omega) (by omega) (by omega)).W (h.wsp (sp2 := sp + b)).rs, b1, b2.U⟩
  · left
    exact ⟨5, t, mc, mm, ht, se_107n hN h hs hz hL ht hy hh, (se_F.refl (u := 0) (z := 0) (q := 0) (fr := 0) (cl := 0) mc).W h.rs, se_299n hN hw h46 he h73 ht hy hh, se_U.refl mm⟩
/-- spend and charge, side by side -/
theorem se_pay {x i : Nat} (hN : N ≤ 4000) (h : se_c N K P V C gs u z q B fr cl sp cw ifs cd kn mc) (hw : sh_We N K P V mm) (h42 : mm.I 66 42 = Int32.ofNat sp) (hi : i ≤ N) (hx : x < 1000000) (hsp : sp ≤ 3000) :
    se_bad N P mc mm (sf_90 (Int32.ofNat x) (Int32.ofNat i) mc) (sf_292 (Int32.ofNat x) (Int32.ofNat i) mm) ∨
    (sp + x ≤ 3000 ∧ sf_90 (Int32.ofNat x) (Int32.ofNat i) mc = some (some (), (mc.T, sh_u2 mc.I 41 14 (Int32.ofNat (sp + x)), mc.J, mc.s)) ∧ sf_292 (Int32.ofNat x) (Int32.ofNat i) mm = some (true, (mm.T, sh_u2 mm.I 66 42 (Int32.ofNat (sp + x)), mm.J, mm.s))) := by
  by_cases hh : sp + x ≤ 3000
  · exact Or.inr ⟨hh, se_90ok (i := 0) h hh _, se_292ok h42 hh _⟩
  · left
    exact ⟨6, i, _, _, hi, se_90no hN h (by omega) (by omega) hi, (se_F.wI (u := 0) (z := 0) (q := 0) (fr := 0) (cl := 0) (by omega) (by omega) (by omega) (by omega) (by omega) (by omega)).W (h.wsp (sp2 := sp + x)).rs, se_292no hN hw h42 (by omega) (by omega) hi, (sh_Rr.wi (by omega)).U⟩
end
