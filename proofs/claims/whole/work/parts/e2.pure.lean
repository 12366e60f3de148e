/-! EVALUATION: signs between two values, loose or not -/
/-- what a sign between two values comes to -/
def se_Bo (N : Nat) (K : Nat → Int32) (P V : Nat → Nat) (C : Nat → Nat → Int32) (p : Nat → Bool) (gs : sh_gL) (u z q B fr cl sp cw ifs cd kn tp : Nat) (mc mm : sh_X) (rc : Option (Option Unit × sh_X)) (rm : Option (Bool × sh_X)) : Prop :=
  se_bad N P mc mm rc rm ∨
    ∃ e' u2 mc2 mm2 k3 b3 v3 sp2, rc = some (some (), mc2) ∧ rm = some (true, mm2) ∧ se_c N K P V C (e' ++ gs) u2 (z + 1) q B fr cl sp2 cw ifs cd kn mc2 ∧ se_F u z q fr cl mc mc2 ∧ se_T p mc2 (e' ++ gs) u2 z k3 b3 0 v3 ∧ mc2.I 41 13 = mc.I 41 13 ∧ sh_Rr mm mm2 ∧ se_R mm2 k3 b3 0 tp v3 ∧ mm2.I 66 42 = Int32.ofNat sp2 ∧ u ≤ u2 ∧ sp + 1 ≤ sp2 ∧ sp2 ≤ 3000 ∧ (e' ++ gs).length + 14 * (3000 - sp2) ≤ gs.length + 14 * (3000 - sp) ∧ 4 * u2 + 5 * (3000 - sp2) ≤ 4 * u + 5 * (3000 - sp)
section
variable {N : Nat} {K : Nat → Int32} {P V : Nat → Nat} {A C : Nat → Nat → Int32} {p : Nat → Bool} {gs : sh_gL} {u z q B fr cl sp cw ifs cd kn : Nat} {mc mm : sh_X}
theorem se_Bo.of {e1 : sh_gL} {u1 sp1 tp : Nat} {mc1 mm1 : sh_X} {rc : Option (Option Unit × sh_X)} {rm : Option (Bool × sh_X)} (h : se_Bo N K P V C p (e1 ++ gs) u1 z q B fr cl sp1 cw ifs cd kn tp mc1 mm1 rc rm) (f : se_F u z q fr cl mc mc1) (r : sh_Rr mm mm1) (hu : u ≤ u1) (hs : sp ≤ sp1) (ha : mc1.I 41 13 = mc.I 41 13) (hg : (e1 ++ gs).length + 14 * (3000 - sp1) ≤ gs.length + 14 * (3000 - sp)) (h5 : 4 * u1 + 5 * (3000 - sp1) ≤ 4 * u + 5 * (3000 - sp)) : se_Bo N K P V C p gs u z q B fr cl sp cw ifs cd kn tp mc mm rc rm := by
  rcases h with bad | ⟨e', u2, mc2, mm2, k3, b3, v3, sp2, a1, a2, a3, a4, a5, a6, a7, a8, a9, a10, a11, a12, a13, a14⟩
  · exact Or.inl (bad.of f r.U)
  · rw [← List.append_assoc] at a3 a5 a13
    exact Or.inr ⟨e' ++ e1, u2, mc2, mm2, k3, b3, v3, sp2, a1, a2, a3, f.trans a4 hu (Nat.le_refl _) (Nat.le_refl _) (Nat.le_refl _) (Nat.le_refl _), a5, a6.trans ha, r.trans a7, a8, a9, by omega, by omega, a12, by omega, by omega⟩
/-- a slot that settling leaves -/
theorem se_T.slot {s k b n u2 : Nat} {v : Nat → Int64} {e' : sh_gL} {m m2 : sh_X} (h : se_T p m gs u s k b n v) (hs : m2.I 49 s = m.I 49 s ∧ m2.I 50 s = m.I 50 s ∧ m2.I 52 s = m.I 52 s ∧ m2.J 51 s = m.J 51 s) (hu : u ≤ u2) (hp : ∀ j, j < u → m2.I 45 j = m.I 45 j) : se_T p m2 (e' ++ gs) u2 s k b n v := by
  obtain ⟨h1, h2, w, h3, h4⟩ := h
  exact ⟨h1, hs.1.trans h2, w, hs.2.1.trans h3, h4.keep hu hp⟩
theorem se_D.slot {s t k b n u2 : Nat} {v : Nat → Int64} {e' : sh_gL} {m m2 : sh_X} (h : se_D p m gs u s t k b n v) (hs : m2.I 49 s = m.I 49 s ∧ m2.I 50 s = m.I 50 s ∧ m2.I 52 s = m.I 52 s ∧ m2.J 51 s = m.J 51 s) (hu : u ≤ u2) (hp : ∀ j, j < u → m2.I 45 j = m.I 45 j) : se_D p m2 (e' ++ gs) u2 s t k b n v := by
  rcases h with ⟨h1, h2, h3⟩ | h
  · exact Or.inl ⟨h1, h2, hs.1.trans h3.1, hs.2.2.1.trans h3.2.1, hs.2.2.2.trans h3.2.2.1, h3.2.2.2⟩
  · exact Or.inr (h.slot hs hu hp)
/-- the left one has a type -/
theorem se_br {e b0 t0 t2 k1 b1 n1 k2 b2 n2 tp : Nat} {c : Int32} {v1 v2 : Nat → Int64} {x5 : Int64} (hN : N ≤ 4000) (hg : sh_sg c) (h : se_c N K P V C gs u (z + 2) q B fr cl sp cw ifs cd kn mc) (hz : z + 2 ≤ 2048) (h1 : se_T p mc gs u z k1 b1 n1 v1) (h2 : se_D p mc gs u (z + 1) t2 k2 b2 n2 v2) (hsp : sp ≤ 3000) (hgl : gs.length + 14 * (3000 - sp) ≤ 60000) (hu : 4 * u + 5 * (3000 - sp) ≤ 32000)
    (hw : sh_We N K P V mm) (h42 : mm.I 66 42 = Int32.ofNat sp) (hR : se_R mm k2 b2 n2 tp v2) (he : e < 9000) (hb0 : b0 < 9000) (h73 : mm.I 73 e = Int32.ofNat t0) (h75 : mm.I 75 e = Int32.ofNat b0) (h73b : mm.I 73 b0 = Int32.ofNat t2) (ht : t0 ≤ N) (ht2 : t2 ≤ N) (hx5 : n1 = 0 → x5 = v1 0) :
    se_Bo N K P V C p gs u z q B fr cl sp cw ifs cd kn tp mc mm (sh_bt (sf_107 (Int32.ofNat (z + 1)) (Int32.ofNat (sh_te k1 b1 n1)) mc) (fun m => (none, m)) fun _ m12 => se_tc t0 c z (Int32.ofNat (sh_te k1 b1 n1)) m12) (sf_303_190 (Int32.ofNat e) x5 c (Int32.ofNat k1) (Int32.ofNat b1) (Int32.ofNat n1) (sf_274 c) mm) := by
  rcases h2.lo with ⟨rfl, rfl, hL⟩ | ⟨hk, hT⟩
  · have md : sf_303_190 (Int32.ofNat e) x5 c (Int32.ofNat k1) (Int32.ofNat b1) (Int32.ofNat n1) (sf_274 c) mm = sh_bn (sf_299 (Int32.ofNat b0) (Int32.ofNat k1) (Int32.ofNat b1) (Int32.ofNat n1) mm) fun r1 m11 => if r1 = true then sf_303_219 (Int32.ofNat e) x5 c (Int32.ofNat k1) (Int32.ofNat b1) (Int32.ofNat n1) (sf_274 c) m11 else some (false, m11) := by
      unfold sf_303_190
      rw [hR.1, if_pos (by decide), if_pos (sh_okn' he (by omega)), sh_nIc (by omega), h75]
    rw [md]
    rcases se_set (p := p) hN h (by omega : z + 1 < z + 2) hz hL ht2 h1.1 hsp hu hw h42 (hR.2.2.2.1 rfl) hb0 h73b with bad | ⟨n0, hx, e', u2, mc2, mm2, a1, a2, a3, a4, a5, a6, a7, a8, a9, b1', b2', b3, b4, b5, b6, b7⟩
    · left
      obtain ⟨kk, tt, x, y, r1, r2, r3, r4, r5⟩ := bad
      exact ⟨kk, tt, x, y, r1, by rw [r2]; rfl, r3, by rw [r4]; rfl, r5⟩
    · subst n0
      have hl : (e' ++ gs).length ≤ gs.length := by rw [List.length_append]; omega
      have T1 : se_T p mc2 (e' ++ gs) u2 z k1 b1 0 v1 := h1.slot (a4 z (by omega)) a6 a3.po
      have vz : se_T p mc2 (e' ++ gs) u2 (z + 1) k1 b1 0 v2 := by
        obtain ⟨x1, x2, w, x3, x4⟩ := a5
        exact ⟨x1, x2, w, x3, x4.cong (fun i hi => by have e : sh_mx 0 = 1 := rfl; rw [show i = 0 by omega])⟩
      have R2 : se_R mm2 k1 b1 0 tp v2 := ⟨b3, fun _ => b4, b5, fun _ => by rw [b7]; exact hR.2.2.2.1 rfl, fun q => absurd q (by omega)⟩
      have := se_b2 (e := e) (t0 := t0) (x5 := x5) (tp := tp) hN hg a2 hz T1 vz (by omega) (by omega) (by omega) (b2'.we hw) b6 R2 he (by rw [b2'.I 73 (by omega)]; exact h73) ht hx5
      refine se_Bo.of (e1 := e') (u1 := u2) (sp1 := sp + b1) (mc1 := mc2) (mm1 := mm2) ?_ (a3.less (Nat.le_refl _) (by omega) (Nat.le_refl _) (Nat.le_refl _) (Nat.le_refl _)) b2' a6 (by omega) a9 (by omega) (by omega)
      rw [a1, b1']
      exact this
  · have md : sf_303_190 (Int32.ofNat e) x5 c (Int32.ofNat k1) (Int32.ofNat b1) (Int32.ofNat n1) (sf_274 c) mm = sf_303_219 (Int32.ofNat e) x5 c (Int32.ofNat k1) (Int32.ofNat b1) (Int32.ofNat n1) (sf_274 c) mm := by
      unfold sf_303_190
      rw [hR.1, if_neg (show ¬ Int32.ofNat k2 = 3 from fun r => by have := (sh_kI hk (c := 3) (by omega)).mp r; omega)]
    rw [md, se_107T h (by omega) hz (by rw [hT.2.1]; exact sh_te_0 hT.1)]
    exact se_b2 (e := e) (t0 := t0) (x5 := x5) (tp := tp) hN hg h hz h1 hT hsp hgl hu hw h42 hR he h73 ht hx5
/-- the signs but the shifts -/
theorem se_both {e a b0 t0 t1 t2 k1 b1 n1 k2 b2 n2 tp : Nat} {c : Int32} {v1 v2 : Nat → Int64} {x3 : Int32} {x5 : Int64} (hN : N ≤ 4000) (hg : sh_sg c) (hK : K t0 = c) (h : se_c N K P V C gs u (z + 2) q B fr cl sp cw ifs cd kn mc) (hz : z + 2 ≤ 2048) (h1 : se_D p mc gs u z t1 k1 b1 n1 v1) (h2 : se_D p mc gs u (z + 1) t2 k2 b2 n2 v2) (hsp : sp ≤ 3000) (hgl : gs.length + 14 * (3000 - sp) ≤ 60000) (hu : 4 * u + 5 * (3000 - sp) ≤ 32000)
    (hw : sh_We N K P V mm) (h42 : mm.I 66 42 = Int32.ofNat sp) (hR : se_R mm k2 b2 n2 tp v2) (he : e < 9000) (hae : a < 9000) (hb0 : b0 < 9000) (h73 : mm.I 73 e = Int32.ofNat t0) (h74 : mm.I 74 e = Int32.ofNat a) (h73a : mm.I 73 a = Int32.ofNat t1) (h75 : mm.I 75 e = Int32.ofNat b0) (h73b : mm.I 73 b0 = Int32.ofNat t2) (ht : t0 ≤ N) (ht1 : t1 ≤ N) (ht2 : t2 ≤ N) (h68 : mm.I 68 t0 = c) (hx3 : k1 ≠ 3 → x3 = Int32.ofNat b1) (hx5 : n1 = 0 → x5 = v1 0) :
    se_Bo N K P V C p gs u z q B fr cl sp cw ifs cd kn tp mc mm (sf_171 (Int32.ofNat t0) mc) (sf_303 (Int32.ofNat e) (Int32.ofNat k1) x3 (Int32.ofNat n1) x5 mm) := by
  obtain ⟨lv8, _⟩ := se_lev hg
  have ns : ¬ c = 15420 ∧ ¬ c = 15934 := by
    rcases hg with rfl | rfl | rfl | rfl | rfl | rfl | rfl | rfl | rfl | rfl | rfl | rfl | rfl | rfl | rfl | rfl
    all_goals decide
  have z2 : Int32.ofNat (z + 2) - 2 = Int32.ofNat z := sh_nIsub (b := 2) (by omega)
  have z1 : Int32.ofNat (z + 2) - 1 = Int32.ofNat (z + 1) := sh_nIsub (b := 1) (by omega)
  have s1 := (se_slot h.cz (by omega : z < z + 2) hz).1
  have s2 := (se_slot h.cz (by omega : z + 1 < z + 2) hz).1
  have c46 := sh_46 h.wc hN ht
  have e11 : ∀ y0, sf_171_111 (Int32.ofNat t0) c (Int32.ofNat z) (Int32.ofNat (z + 1)) y0 mc = sh_bt (sf_107 (Int32.ofNat z) y0 mc) (fun m => (none, m)) fun _ m11 => sh_bt (sf_107 (Int32.ofNat (z + 1)) y0 m11) (fun m => (none, m)) fun _ m12 => se_tc t0 c z y0 m12 := fun y0 => rfl
  have cls : sf_171 (Int32.ofNat t0) mc = if mc.I 49 z = 0 then if mc.I 49 (z + 1) = 0 then sf_171_111 (Int32.ofNat t0) c (Int32.ofNat z) (Int32.ofNat (z + 1)) 160 mc else sf_171_111 (Int32.ofNat t0) c (Int32.ofNat z) (Int32.ofNat (z + 1)) (mc.I 49 (z + 1)) mc else sf_171_111 (Int32.ofNat t0) c (Int32.ofNat z) (Int32.ofNat (z + 1)) (mc.I 49 z) mc := by
    unfold sf_171
    rw [c46, sh_bc_some, hK, if_neg ns.1, if_neg ns.2, h.cz, z2, z1, s1, sh_bc_some, sh_bc_some, s2, sh_bc_some, sh_bc_some]
  have md0 : sf_303 (Int32.ofNat e) (Int32.ofNat k1) x3 (Int32.ofNat n1) x5 mm = if Int32.ofNat k1 = 3 then if mm.I 66 43 = 3 then sf_303_70 (Int32.ofNat e) x5 c (sf_274 c) false mm else sf_303_70 (Int32.ofNat e) x5 c (sf_274 c) true mm else sf_303_190 (Int32.ofNat e) x5 c (Int32.ofNat k1) x3 (Int32.ofNat n1) (sf_274 c) mm := by
    unfold sf_303
    rw [if_pos (sh_okn' he (by omega)), sh_nIc (by omega), h73, if_pos (sh_okn' (by omega) (by omega)), sh_nIc (by omega), h68, if_neg lv8]
  rcases h1.lo with ⟨rfl, rfl, hL⟩ | ⟨hk, hT⟩
  · -- the left one is loose: it becomes what the other one is, or i32
    rw [if_pos hL.1] at cls
    rw [if_pos (show Int32.ofNat 3 = 3 from rfl)] at md0
    have x5' := hx5 rfl
    obtain ⟨ky, bY, ny, ty, ecl, emd⟩ : ∃ ky bY ny, sh_typ ky bY ny ∧ sf_171 (Int32.ofNat t0) mc = sf_171_111 (Int32.ofNat t0) c (Int32.ofNat z) (Int32.ofNat (z + 1)) (Int32.ofNat (sh_te ky bY ny)) mc ∧ sf_303 (Int32.ofNat e) (Int32.ofNat 3) x3 (Int32.ofNat 0) x5 mm = sf_303_143 (Int32.ofNat e) x5 c (sf_274 c) (mm.I 66 43) (mm.I 66 44) (mm.I 66 45) (mm.J 66 46) (Int32.ofNat a) (Int32.ofNat ky) (Int32.ofNat bY) (Int32.ofNat ny) (mm.T, mm.I, sh_u2 mm.J 66 46 x5, mm.s) := by
      rcases h2.lo with ⟨rfl, rfl, hL2⟩ | ⟨hk2, hT2⟩
      · refine ⟨2, 32, 0, ⟨Or.inr (Or.inr ⟨rfl, by omega, by omega⟩), by omega⟩, ?_, ?_⟩
        · rw [cls, if_pos hL2.1]
          rfl
        · rw [md0, if_pos (by rw [hR.1]; decide)]
          unfold sf_303_70 sf_303_120 sf_303_132
          rw [if_pos (sh_okn' he (by omega)), sh_nIc (by omega), h74, if_neg (by decide), if_neg (by decide), if_neg (by decide)]
          rfl
      · refine ⟨k2, b2, n2, hT2.1, ?_, ?_⟩
        · rw [cls, hT2.2.1, if_neg (sh_te_0 hT2.1)]
        · rw [md0, hR.1, if_neg (show ¬ Int32.ofNat k2 = 3 from fun r => by have := (sh_kI hk2 (c := 3) (by omega)).mp r; omega)]
          unfold sf_303_70 sf_303_120 sf_303_132
          rw [if_pos (sh_okn' he (by omega)), sh_nIc (by omega), h74, if_pos rfl, if_pos rfl, if_pos rfl, hR.1, hR.2.1 (by omega), hR.2.2.1]
    have wA : sh_Rr mm (mm.T, mm.I, sh_u2 mm.J 66 46 x5, mm.s) := sh_Rr.wj
    rw [ecl, emd, e11]
    unfold sf_303_143
    rcases se_set (p := p) hN h (by omega : z < z + 2) hz hL ht1 ty hsp hu (wA.we hw) (by exact h42) (by rw [← x5']; exact se_Js) hae (by exact h73a) with bad | ⟨n0, hx, e', u2, mc2, mm2, a1, a2, a3, a4, a5, a6, a7, a8, a9, b1', b2', b3, b4, b5, b6, b7⟩
    · left
      obtain ⟨kk, tt, x, y, r1, r2, r3, r4, r5⟩ := bad
      exact ⟨kk, tt, x, y, r1, by rw [r2]; rfl, r3, by rw [r4]; rfl, wA.U.trans r5⟩
    · subst n0
      have hl : (e' ++ gs).length ≤ gs.length := by rw [List.length_append]; omega
      rw [a1, b1']
      have wB : sh_Rr mm2 (mm2.T, sh_u2 (sh_u2 (sh_u2 mm2.I 66 43 (mm.I 66 43)) 66 44 (mm.I 66 44)) 66 45 (mm.I 66 45), sh_u2 mm2.J 66 46 (mm.J 66 46), mm2.s) := (((sh_Rr.wi (m := mm2) (f := 43) (x := mm.I 66 43) (by omega)).trans (sh_Rr.wi (f := 44) (x := mm.I 66 44) (by omega))).trans (sh_Rr.wi (f := 45) (x := mm.I 66 45) (by omega))).trans (sh_Rr.wj (i := 46) (x := mm.J 66 46))
      have wC := wA.trans (b2'.trans wB)
      have R4 : se_R (mm2.T, sh_u2 (sh_u2 (sh_u2 mm2.I 66 43 (mm.I 66 43)) 66 44 (mm.I 66 44)) 66 45 (mm.I 66 45), sh_u2 mm2.J 66 46 (mm.J 66 46), mm2.s) k2 b2 n2 tp v2 := hR.keep (by rw [se_In (by omega), sh_u2_idx (by omega), sh_u2_same]) (by rw [se_In (by omega), sh_u2_same]) se_Is se_Js (wC.J 92 (by omega))
      have D2 : se_D p mc2 (e' ++ gs) u2 (z + 1) t2 k2 b2 n2 v2 := h2.slot (a4 (z + 1) (by omega)) a6 a3.po
      have h42' : sh_X.I (mm2.T, sh_u2 (sh_u2 (sh_u2 mm2.I 66 43 (mm.I 66 43)) 66 44 (mm.I 66 44)) 66 45 (mm.I 66 45), sh_u2 mm2.J 66 46 (mm.J 66 46), mm2.s) 66 42 = Int32.ofNat (sp + bY) := by rw [se_In (by omega), sh_u2_idx (by omega), sh_u2_idx (by omega)]; exact b6
      have := se_br (e := e) (b0 := b0) (t0 := t0) (x5 := x5) (tp := tp) (v1 := fun _ => v1 0) hN hg a2 hz a5 D2 (by omega) (by omega) (by omega) (wC.we hw) h42' R4 he hb0 (by rw [wC.I 73 (by omega)]; exact h73) (by rw [wC.I 75 (by omega)]; exact h75) (by rw [wC.I 73 (by omega)]; exact h73b) ht ht2 (fun _ => x5')
      refine se_Bo.of (e1 := e') (u1 := u2) (sp1 := sp + bY) (mc1 := mc2) (mm1 := _) ?_ a3 wC a6 (by omega) a9 (by omega) (by omega)
      show se_Bo _ _ _ _ _ _ _ _ _ _ _ _ _ _ _ _ _ _ _ _ _ (sh_bt (sf_107 (Int32.ofNat (z + 1)) (Int32.ofNat (sh_te ky bY 0)) mc2) (fun m => (none, m)) fun _ m12 => se_tc t0 c z (Int32.ofNat (sh_te ky bY 0)) m12) (sf_303_190 (Int32.ofNat e) x5 c (mm2.I 66 43) (mm2.I 66 44) 0 (sf_274 c) _)
      rw [b3, b4]
      exact this
  · rw [hT.2.1, if_neg (sh_te_0 hT.1), e11, se_107T h (by omega) hz (by rw [hT.2.1]; exact sh_te_0 hT.1)] at cls
    rw [if_neg (show ¬ Int32.ofNat k1 = 3 from fun r => by have := (sh_kI hk (c := 3) (by omega)).mp r; omega), hx3 (by omega)] at md0
    rw [cls, hx3 (by omega), md0]
    exact se_br (e := e) (b0 := b0) (t0 := t0) (x5 := x5) (tp := tp) hN hg h hz hT h2 hsp hgl hu hw h42 hR he hb0 h73 h75 h73b ht ht2 hx5
end
