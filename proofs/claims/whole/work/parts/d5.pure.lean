/-! EVALUATION: settled values, wanted types -/
/-- the expression e, its code from i to j, comes to the same on both sides, from every state -/
def se_OK (N : Nat) (K : Nat → Int32) (P V : Nat → Nat) (A C : Nat → Nat → Int32) (p : Nat → Bool) (pf : Nat → Nat) (F c2 kn e i j d len : Nat) : Prop :=
  ∀ (fm un n bb sg dq : Nat) (gs : sh_gL) (u z q B M fr cl sp cw ifs cd inn tp li : Nat) (ac : Bool) (mc mm : sh_X), se_P N K P V A C p pf F c2 fm un e i n len d bb sg dq gs u z q B M fr cl sp cw ifs cd kn inn tp li ac mc mm → se_X N K P V A C p (sq_279 dq) fm un e j n len d bb gs u z q B fr cl sp cw ifs cd kn inn tp li ac mc mm
/-- the model's state, as far as the cost and the text go -/
theorem se_R.keep {k b n tp : Nat} {v : Nat → Int64} {m m2 : sh_X} (h : se_R m k b n tp v) (e3 : m2.I 66 43 = m.I 66 43) (e4 : m2.I 66 44 = m.I 66 44) (e5 : m2.I 66 45 = m.I 66 45) (e6 : m2.J 66 46 = m.J 66 46) (e9 : m2.J 92 = m.J 92) : se_R m2 k b n tp v :=
  ⟨e3.trans h.1, fun q => e4.trans (h.2.1 q), e5.trans h.2.2.1, fun q => e6.trans (h.2.2.2.1 q), fun q => by
    obtain ⟨f, f1, f2, f3⟩ := h.2.2.2.2 q
    exact ⟨f, e6.trans f1, f2, fun i hi => by rw [e9]; exact f3 i hi⟩⟩
section
variable {N : Nat} {K : Nat → Int32} {P V : Nat → Nat} {A C : Nat → Nat → Int32} {p : Nat → Bool} {gs : sh_gL} {u z q B fr cl sp cw ifs cd kn : Nat} {mc mm : sh_X}
/-- what a settled value is, on both sides: at the slot z, and in the model's result; nothing above it is left -/
def se_Z (N : Nat) (K : Nat → Int32) (P V : Nat → Nat) (C : Nat → Nat → Int32) (p : Nat → Bool) (gs : sh_gL) (u z q B fr cl sp cw ifs cd kn tp k b n : Nat) (v : Nat → Int64) (mc mm mc2 mm2 : sh_X) : Prop :=
  ∃ e' u2 sp2, se_c N K P V C (e' ++ gs) u2 (z + 1) q B fr cl sp2 cw ifs cd kn mc2 ∧ se_F u z q fr cl mc mc2 ∧ se_T p mc2 (e' ++ gs) u2 z k b n v ∧ sh_Rr mm mm2 ∧ se_R mm2 k b n tp v ∧ mm2.I 66 42 = Int32.ofNat sp2 ∧ mc2.I 41 13 = mc.I 41 13 ∧ u ≤ u2 ∧ sp ≤ sp2 ∧ sp2 ≤ 3000 ∧ (e' ++ gs).length + 14 * (3000 - sp2) ≤ gs.length + 14 * (3000 - sp) ∧ 4 * u2 + 5 * (3000 - sp2) ≤ 4 * u + 5 * (3000 - sp)
theorem se_Z_id {tp k b n : Nat} {v : Nat → Int64} (hc : se_c N K P V C gs u (z + 1) q B fr cl sp cw ifs cd kn mc) (hT : se_T p mc gs u z k b n v) (hR : se_R mm k b n tp v) (h42 : mm.I 66 42 = Int32.ofNat sp) (hsp : sp ≤ 3000) : se_Z N K P V C p gs u z q B fr cl sp cw ifs cd kn tp k b n v mc mm mc mm :=
  ⟨[], u, sp, hc, se_F.refl mc, hT, sh_Rr.refl mm, hR, h42, rfl, Nat.le_refl _, Nat.le_refl _, hsp, Nat.le_refl _, Nat.le_refl _⟩
theorem se_D.lo {s t k b n : Nat} {v : Nat → Int64} (h : se_D p mc gs u s t k b n v) : (k = 3 ∧ n = 0 ∧ se_L mc s t (v 0)) ∨ (k ≤ 2 ∧ se_T p mc gs u s k b n v) := by
  rcases h with h | h
  · exact Or.inl h
  · exact Or.inr ⟨h.1.k2, h⟩
/-- a loose number of the top becomes of the type (k, b, n) -/
theorem se_setZ {e t k b n tp : Nat} {v : Nat → Int64} (hN : N ≤ 4000) (h : se_c N K P V C gs u (z + 1) q B fr cl sp cw ifs cd kn mc) (hz : z < 2048) (hL : se_L mc z t (v 0)) (ht : t ≤ N) (hy : sh_typ k b n) (hsp : sp ≤ 3000) (hu : 4 * u + 5 * (3000 - sp) ≤ 32000)
    (hw : sh_We N K P V mm) (h42 : mm.I 66 42 = Int32.ofNat sp) (hR : se_R mm 3 0 0 tp v) (he : e < 9000) (h73 : mm.I 73 e = Int32.ofNat t) :
    se_bad N P mc mm (sf_107 (Int32.ofNat z) (Int32.ofNat (sh_te k b n)) mc) (sf_299 (Int32.ofNat e) (Int32.ofNat k) (Int32.ofNat b) (Int32.ofNat n) mm) ∨
    (n = 0 ∧ ∃ mc2 mm2, sf_107 (Int32.ofNat z) (Int32.ofNat (sh_te k b n)) mc = some (some (), mc2) ∧ sf_299 (Int32.ofNat e) (Int32.ofNat k) (Int32.ofNat b) (Int32.ofNat n) mm = some (true, mm2) ∧ se_Z N K P V C p gs u z q B fr cl sp cw ifs cd kn tp k b 0 v mc mm mc2 mm2) := by
  rcases se_set (p := p) hN h (by omega : z < z + 1) (by omega) hL ht hy hsp hu hw h42 (hR.2.2.2.1 rfl) he h73 with bad | ⟨n0, hx, e', u2, mc2, mm2, a1, a2, a3, a4, a5, a6, a7, a8, a9, b1, b2, b3, b4, b5, b6, b7⟩
  · exact Or.inl bad
  · right
    have vz : se_T p mc2 (e' ++ gs) u2 z k b 0 v := by
      obtain ⟨x1, x2, w, x3, x4⟩ := a5
      exact ⟨x1, x2, w, x3, x4.cong (fun i hi => by have e : sh_mx 0 = 1 := rfl; rw [show i = 0 by omega])⟩
    refine ⟨n0, mc2, mm2, a1, b1, e', u2, sp + b, a2, a3, vz, b2, ⟨b3, fun _ => b4, b5, fun _ => by rw [b7]; exact hR.2.2.2.1 rfl, fun q => absurd q (by omega)⟩, b6, a9, a6, by omega, by omega, ?_, by omega⟩
    rw [List.length_append]
    omega
/-- settled as i32, if it is loose -/
theorem se_set32 {e t k b n tp : Nat} {v : Nat → Int64} (hN : N ≤ 4000) (h : se_c N K P V C gs u (z + 1) q B fr cl sp cw ifs cd kn mc) (hz : z < 2048) (hD : se_D p mc gs u z t k b n v) (ht : t ≤ N) (hsp : sp ≤ 3000) (hu : 4 * u + 5 * (3000 - sp) ≤ 32000)
    (hw : sh_We N K P V mm) (h42 : mm.I 66 42 = Int32.ofNat sp) (hR : se_R mm k b n tp v) (he : e < 9000) (h73 : mm.I 73 e = Int32.ofNat t) :
    se_bad N P mc mm (sf_107 (Int32.ofNat z) 160 mc) (sf_298 (Int32.ofNat e) mm) ∨
    ∃ mc2 mm2 k2 b2, sf_107 (Int32.ofNat z) 160 mc = some (some (), mc2) ∧ sf_298 (Int32.ofNat e) mm = some (true, mm2) ∧ se_Z N K P V C p gs u z q B fr cl sp cw ifs cd kn tp k2 b2 n v mc mm mc2 mm2 := by
  rcases hD.lo with ⟨rfl, rfl, hL⟩ | ⟨hk, hT⟩
  · have e98 : sf_298 (Int32.ofNat e) mm = sh_bn (sf_299 (Int32.ofNat e) (Int32.ofNat 2) (Int32.ofNat 32) (Int32.ofNat 0) mm) fun r1 m11 => if r1 = true then sf_298_20 m11 else some (false, m11) := by
      unfold sf_298
      rw [hR.1, if_pos (by decide)]
      rfl
    have R3 : se_R mm 3 0 0 tp v := ⟨hR.1, fun q => absurd rfl q, hR.2.2.1, hR.2.2.2.1, hR.2.2.2.2⟩
    rw [e98, show (160 : Int32) = Int32.ofNat (sh_te 2 32 0) from rfl]
    rcases se_setZ (p := p) (k := 2) (b := 32) (n := 0) hN h hz hL ht ⟨Or.inr (Or.inr ⟨rfl, by omega, by omega⟩), by omega⟩ hsp hu hw h42 R3 he h73 with bad | ⟨_, mc2, mm2, a1, a2, a3⟩
    · left
      obtain ⟨kk, tt, x, y, b1, b2, b3, b4, b5⟩ := bad
      exact ⟨kk, tt, x, y, b1, b2, b3, by rw [b4]; rfl, b5⟩
    · right
      exact ⟨mc2, mm2, 2, 32, a1, by rw [a2]; rfl, a3⟩
  · right
    refine ⟨mc, mm, k, b, se_107T h (by omega) (by omega) (by rw [hT.2.1]; exact sh_te_0 hT.1) 160, ?_, se_Z_id h hT hR h42 hsp⟩
    unfold sf_298 sf_298_20
    rw [hR.1, if_neg (show ¬ Int32.ofNat k = 3 from fun r => by have := (sh_kI hk (c := 3) (by omega)).mp r; omega)]
/-- the value of the top must be of the type (k2, b2, n2) -/
theorem se_dem {e t k b n k2 b2 n2 w tp : Nat} {v : Nat → Int64} (hN : N ≤ 4000) (h : se_c N K P V C gs u (z + 1) q B fr cl sp cw ifs cd kn mc) (hz : z < 2048) (hD : se_D p mc gs u z t k b n v) (ht : t ≤ N) (hsp : sp ≤ 3000) (hu : 4 * u + 5 * (3000 - sp) ≤ 32000)
    (hw : sh_We N K P V mm) (h42 : mm.I 66 42 = Int32.ofNat sp) (hR : se_R mm k b n tp v) (he : e < 9000) (h73 : mm.I 73 e = Int32.ofNat t) (h78 : mm.I 78 e = Int32.ofNat w) (hwN : w ≤ N) (hy : sh_typ k2 b2 n2) :
    se_bad N P mc mm (sf_125 (Int32.ofNat (sh_te k2 b2 n2)) (Int32.ofNat w) mc) (sf_317 (Int32.ofNat e) (Int32.ofNat k2) (Int32.ofNat b2) (Int32.ofNat n2) mm) ∨
    ∃ mc2 mm2, sf_125 (Int32.ofNat (sh_te k2 b2 n2)) (Int32.ofNat w) mc = some (some (), mc2) ∧ sf_317 (Int32.ofNat e) (Int32.ofNat k2) (Int32.ofNat b2) (Int32.ofNat n2) mm = some (true, mm2) ∧ se_Z N K P V C p gs u z q B fr cl sp cw ifs cd kn tp k2 b2 n2 v mc mm mc2 mm2 := by
  have z1 : Int32.ofNat (z + 1) - 1 = Int32.ofNat z := se_um1
  rcases hD.lo with ⟨rfl, rfl, hL⟩ | ⟨hk, hT⟩
  · have e17 : sf_317 (Int32.ofNat e) (Int32.ofNat k2) (Int32.ofNat b2) (Int32.ofNat n2) mm = sh_bn (sf_299 (Int32.ofNat e) (Int32.ofNat k2) (Int32.ofNat b2) (Int32.ofNat n2) mm) fun r1 m11 => some (r1, m11) := by
      unfold sf_317
      rw [hR.1, if_pos (by decide)]
    have R3 : se_R mm 3 0 0 tp v := ⟨hR.1, fun q => absurd rfl q, hR.2.2.1, hR.2.2.2.1, hR.2.2.2.2⟩
    have e25 : sf_125 (Int32.ofNat (sh_te k2 b2 n2)) (Int32.ofNat w) mc = sh_bt (sf_107 (Int32.ofNat z) (Int32.ofNat (sh_te k2 b2 n2)) mc) (fun m => (none, m)) fun _ m11 => sh_bc (sf_108 (m11.I 48 4 - 1) m11) fun r2 => if r2 = Int32.ofNat (sh_te k2 b2 n2) then some (some (), m11) else sh_bt (sf_50 4 (Int32.ofNat w) m11) (fun m => (none, m)) fun _ m13 => some (some (), m13) := by
      unfold sf_125
      rw [h.cz, z1]
    rw [e17, e25]
    rcases se_setZ (p := p) hN h hz hL ht hy hsp hu hw h42 R3 he h73 with bad | ⟨n0, mc2, mm2, a1, a2, a3⟩
    · left
      obtain ⟨kk, tt, x, y, b1, b2, b3, b4, b5⟩ := bad
      exact ⟨kk, tt, x, y, b1, by rw [b2]; rfl, b3, by rw [b4]; rfl, b5⟩
    · right
      subst n0
      refine ⟨mc2, mm2, ?_, by rw [a2]; rfl, a3⟩
      obtain ⟨e', u2, sp2, c1, c2, c3, _⟩ := a3
      rw [a1]
      show (sh_bc (sf_108 (mc2.I 48 4 - 1) mc2) fun r2 => if r2 = Int32.ofNat (sh_te k2 b2 0) then some (some (), mc2) else _) = _
      rw [c1.cz, z1, (se_slot c1.cz (by omega) (by omega)).1, sh_bc_some, if_pos c3.2.1]
  · have k3 : ¬ Int32.ofNat k = 3 := fun r => by have := (sh_kI hk (c := 3) (by omega)).mp r; omega
    have n2' := hy.n2
    have nn := hT.1.n2
    have bb := hT.1.b2
    have bb2 := hy.b2
    have cls : sf_125 (Int32.ofNat (sh_te k2 b2 n2)) (Int32.ofNat w) mc = if Int32.ofNat (sh_te k b n) = Int32.ofNat (sh_te k2 b2 n2) then some (some (), mc) else sh_bt (sf_50 4 (Int32.ofNat w) mc) (fun m => (none, m)) fun _ m13 => some (some (), m13) := by
      unfold sf_125
      rw [h.cz, z1, se_107T h (by omega) (by omega) (by rw [hT.2.1]; exact sh_te_0 hT.1)]
      show (sh_bc (sf_108 (mc.I 48 4 - 1) mc) _) = _
      rw [h.cz, z1, (se_slot h.cz (by omega) (by omega)).1, sh_bc_some, hT.2.1]
    have e43 : sf_317_43 (Int32.ofNat e) mm = some (false, sh_mft 4 (Int32.ofNat (P w)) mm) := by
      unfold sf_317_43
      rw [if_pos (sh_okn' he (by omega)), sh_nIc (by omega), h78, if_pos (sh_okn' (by omega) (by omega)), sh_nIc (by omega), hw.at hwN, sh_252]
      rfl
    have mdl : sf_317 (Int32.ofNat e) (Int32.ofNat k2) (Int32.ofNat b2) (Int32.ofNat n2) mm = if k = k2 ∧ b = b2 ∧ n = n2 then some (true, mm) else some (false, sh_mft 4 (Int32.ofNat (P w)) mm) := by
      unfold sf_317 sf_317_62
      rw [e43, hR.1, hR.2.1 (by omega), hR.2.2.1, if_neg k3]
      by_cases q1 : k = k2
      · rw [if_pos (by rw [q1])]
        by_cases q2 : b = b2
        · rw [if_pos (by rw [q2])]
          by_cases q3 : n = n2
          · rw [if_pos (by rw [q3]), if_pos ⟨q1, q2, q3⟩]
          · rw [if_neg (fun r => q3 ((sh_nIeq (by omega) (by omega)).mp r)), if_neg (fun r => q3 r.2.2)]
        · rw [if_neg (fun r => q2 ((sh_nIeq (by omega) (by omega)).mp r)), if_neg (fun r => q2 r.2.1)]
      · rw [if_neg (fun r => q1 ((sh_nIeq (by omega) (by have := hy.k2; omega)).mp r)), if_neg (fun r => q1 r.1)]
    rw [cls, mdl]
    by_cases hq : k = k2 ∧ b = b2 ∧ n = n2
    · right
      obtain ⟨rfl, rfl, rfl⟩ := hq
      exact ⟨mc, mm, by rw [if_pos rfl], by rw [if_pos ⟨rfl, rfl, rfl⟩], se_Z_id h hT hR h42 hsp⟩
    · left
      refine ⟨4, w, mc, mm, hwN, ?_, (se_F.refl (u := 0) (z := 0) (q := 0) (fr := 0) (cl := 0) mc).W h.rs, by rw [if_neg hq], se_U.refl mm⟩
      rw [if_neg (fun r => hq ((sh_te_I hT.1 hy).mp r)), se_fail hN h hwN]
      rfl
end
