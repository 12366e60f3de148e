/-! EVALUATION: an element of a row -/
/-- an element of a row of wires -/
theorem se_val_el {m : sh_X} {gs : sh_gL} {u w b n x : Nat} {F : Nat → (Nat → Bool) → Bool} (h : sh_val m gs u w (b * n) F) (hx : x < n) : sh_val m gs u (w + x * b) b (fun j => F (x * b + j)) := by
  have e : (x + 1) * b ≤ n * b := Nat.mul_le_mul_right b hx
  have e2 : (x + 1) * b = x * b + b := Nat.succ_mul x b
  have e3 : n * b = b * n := Nat.mul_comm n b
  have h1 := h.1
  refine ⟨by omega, fun j hj => ?_⟩
  have := h.2 (x * b + j) (by omega)
  rw [← Nat.add_assoc] at this
  exact this
theorem se_Ft0 {s : Bool} {b : Nat} : sh_Ft s b (fun _ => false) 0 := fun j _ => by
  rw [sh_b0_]
  unfold sh_ct
  split
  · rfl
  · split <;> rfl
section
variable {N : Nat} {K : Nat → Int32} {P V : Nat → Nat} {A C : Nat → Nat → Int32} {p : Nat → Bool} {gs : sh_gL} {u z q B fr cl sp cw ifs cd kn : Nat} {mc mm : sh_X}
/-- the index is looked at: on both sides it is a number, or both fail -/
theorem se_look {b0 t2 w k2 b2 n2 tp : Nat} {v2 : Nat → Int64} (hN : N ≤ 4000) (h : se_c N K P V C gs u (z + 1) q B fr cl sp cw ifs cd kn mc) (hz : z + 1 ≤ 2048) (h2 : se_D p mc gs u z t2 k2 b2 n2 v2) (hw : sh_We N K P V mm) (hR : se_R mm k2 b2 n2 tp v2) (hb0 : b0 < 9000) (h73b : mm.I 73 b0 = Int32.ofNat t2) (h78 : mm.I 78 b0 = Int32.ofNat w) (ht2 : t2 ≤ N) (hwN : w ≤ N) :
    se_bad N P mc mm (sf_196 (Int32.ofNat w) mc) (sf_310 (Int32.ofNat b0) mm) ∨
    (sf_196 (Int32.ofNat w) mc = some (some (), mc) ∧ n2 = 0 ∧ ((k2 = 3 ∧ sh_hs 2 32 (v2 0) ∧ sf_310 (Int32.ofNat b0) mm = some (true, (mm.T, sh_u2 (sh_u2 mm.I 66 43 2) 66 44 32, mm.J, mm.s))) ∨ ((k2 = 1 ∨ k2 = 2) ∧ sf_310 (Int32.ofNat b0) mm = some (true, mm)))) := by
  have z1 : Int32.ofNat (z + 1) - 1 = Int32.ofNat z := se_um1
  obtain ⟨s1, s2, s3, s4⟩ := se_slot h.cz (by omega : z < z + 1) hz
  have F0 : se_W mc mc := (se_F.refl (u := 0) (z := 0) (q := 0) (fr := 0) (cl := 0) mc).W h.rs
  have i32 : sh_typ 2 32 0 := ⟨Or.inr (Or.inr ⟨rfl, by omega, by omega⟩), by omega⟩
  rcases h2.lo with ⟨rfl, rfl, hL⟩ | ⟨hk, hT⟩
  · have cls : sf_196 (Int32.ofNat w) mc = if sf_112 160 (v2 0) = true then some (some (), mc) else some (none, sh_flt 5 (Int32.ofNat (P t2)) mc) := by
      unfold sf_196 sf_196_56
      rw [h.cz, z1, s1, sh_bc_some, hL.1, if_pos rfl, s3, sh_bc_some, hL.2.2.1, s2, sh_bc_some, hL.2.1, se_fail hN h ht2]
      by_cases q : sf_112 160 (v2 0) = true
      · rw [if_pos q, if_pos q, if_pos rfl]
      · rw [if_neg q, if_neg q]
        rfl
    have e12 : sf_112 160 (v2 0) = true ↔ sh_hs 2 32 (v2 0) := by
      have := sh_112 i32 hL.2.2.2
      exact ⟨fun r => (this.mp r).2, fun r => this.mpr ⟨rfl, r⟩⟩
    have e30 : sf_300 2 32 (mm.J 66 46) = true ↔ sh_hs 2 32 (v2 0) := by
      rw [hR.2.2.2.1 rfl]
      exact sh_300 (k := 2) (b := 32) (Or.inr rfl) (by omega) (by omega)
    by_cases q : sh_hs 2 32 (v2 0)
    · right
      refine ⟨by rw [cls, if_pos (e12.mpr q)], rfl, Or.inl ⟨rfl, q, ?_⟩⟩
      unfold sf_310 sf_310_51
      rw [hR.1, if_pos (by decide), if_pos (e30.mpr q)]
    · left
      have w0 : sh_Rr mm (mm.T, sh_u2 (sh_u2 mm.I 66 43 2) 66 44 32, mm.J, mm.s) := (sh_Rr.wi (m := mm) (f := 43) (x := 2) (by omega)).trans (sh_Rr.wi (f := 44) (x := 32) (by omega))
      refine ⟨5, t2, mc, _, ht2, by rw [cls, if_neg (fun r => q (e12.mp r))], F0, ?_, w0.U⟩
      unfold sf_310
      rw [hR.1, if_pos (by decide), if_neg (fun r => q (e30.mp r)), if_pos (sh_okn' hb0 (by omega)), sh_nIc (by omega), h73b, if_pos (sh_okn' (by omega) (by omega)), sh_nIc (by omega), hw.at ht2, sh_252]
      rfl
  · have k3 : ¬ Int32.ofNat k2 = 3 := fun r => by have := (sh_kI hk (c := 3) (by omega)).mp r; omega
    have k0 : Int32.ofNat k2 = 0 ↔ k2 = 0 := sh_kI hk (c := 0) (by omega)
    have n32 := hT.1.n2
    have n0 : Int32.ofNat n2 = 0 ↔ n2 = 0 := sh_nIeq (b := 0) (by omega) (by omega)
    have cls : sf_196 (Int32.ofNat w) mc = if ¬ k2 = 0 ∧ n2 = 0 then some (some (), mc) else some (none, sh_flt 4 (Int32.ofNat (P w)) mc) := by
      unfold sf_196 sf_196_56
      rw [h.cz, z1, s1, sh_bc_some, hT.2.1, if_neg (sh_te_0 hT.1), if_neg (sh_te_0 hT.1), sh_113 hT.1, se_fail hN h hwN]
      by_cases q : ¬ k2 = 0 ∧ n2 = 0
      · rw [if_pos (decide_eq_true q), if_pos q]
      · rw [if_neg (by rw [decide_eq_false q]; decide), if_neg q]
        rfl
    have e71 : sf_310_71 (Int32.ofNat b0) mm = some (false, sh_mft 4 (Int32.ofNat (P w)) mm) := by
      unfold sf_310_71
      rw [if_pos (sh_okn' hb0 (by omega)), sh_nIc (by omega), h78, if_pos (sh_okn' (by omega) (by omega)), sh_nIc (by omega), hw.at hwN, sh_252]
      rfl
    have mdl : sf_310 (Int32.ofNat b0) mm = if ¬ k2 = 0 ∧ n2 = 0 then some (true, mm) else some (false, sh_mft 4 (Int32.ofNat (P w)) mm) := by
      unfold sf_310 sf_310_90
      rw [e71, hR.1, hR.2.2.1, if_neg k3]
      by_cases q : k2 = 0
      · rw [if_pos (k0.mpr q), if_neg (fun r => r.1 q)]
      · rw [if_neg (fun r => q (k0.mp r))]
        by_cases q2 : n2 = 0
        · rw [if_pos (n0.mpr q2), if_pos ⟨q, q2⟩]
        · rw [if_neg (fun r => q2 (n0.mp r)), if_neg (fun r => q2 r.2)]
    rw [cls, mdl]
    by_cases q : ¬ k2 = 0 ∧ n2 = 0
    · right
      refine ⟨by rw [if_pos q], q.2, Or.inr ⟨by omega, by rw [if_pos q]⟩⟩
    · left
      exact ⟨4, w, mc, mm, hwN, by rw [if_neg q], F0, by rw [if_neg q], se_U.refl mm⟩
/-- the element itself, the index having been looked at -/
theorem se_elem {e t0 t2 k1 b1 n1 k2 b2 tp f : Nat} {v1 v2 : Nat → Int64} (hN : N ≤ 4000) (h : se_c N K P V C gs u (z + 2) q B fr cl sp cw ifs cd kn mc) (hz : z + 2 ≤ 2048) (h1 : se_T p mc gs u z k1 b1 n1 v1) (hn1 : 0 < n1) (h2 : se_D p mc gs u (z + 1) t2 k2 b2 0 v2) (hk2 : k2 = 3 ∧ sh_hs 2 32 (v2 0) ∨ (k2 = 1 ∨ k2 = 2)) (hsp : sp ≤ 3000) (hgl : gs.length + 14 * (3000 - sp) ≤ 60000) (hu : 4 * u + 5 * (3000 - sp) ≤ 32000)
    (hw : sh_We N K P V mm) (h42 : mm.I 66 42 = Int32.ofNat sp) (h44 : ¬ k2 = 3 → mm.I 66 44 = Int32.ofNat b2) (h46 : mm.J 66 46 = v2 0) (hf : f + n1 ≤ tp) (htp : tp ≤ 80000) (hmem : ∀ x, x < n1 → mm.J 92 (f + x) = v1 x) (he : e < 9000) (h73 : mm.I 73 e = Int32.ofNat t0) (ht : t0 ≤ N) :
    se_Bo N K P V C p gs u z q B fr cl sp cw ifs cd kn tp mc mm (sf_197 (Int32.ofNat t0) mc) (sf_309_49 (Int32.ofNat e) (Int32.ofNat k1) (Int32.ofNat b1) (Int32.ofNat n1) (Int32.ofNat f) (if k2 = 3 then Int32.ofNat b1 else Int32.ofNat n1 * (Int32.ofNat b1 + mm.I 66 44)) mm) := by
  have b1l := h1.1.b2
  have b11 := h1.1.b1
  have n1l := h1.1.n2
  have z2 : Int32.ofNat (z + 2) - 1 - 1 = Int32.ofNat z := by
    rw [show Int32.ofNat (z + 2) - 1 = Int32.ofNat (z + 1) from sh_nIsub (b := 1) (by omega)]
    exact se_um1
  have z1 : Int32.ofNat (z + 2) - 1 = Int32.ofNat (z + 1) := sh_nIsub (b := 1) (by omega)
  have s1 := (se_slot h.cz (by omega : z < z + 2) hz)
  have s2 := (se_slot h.cz (by omega : z + 1 < z + 2) hz)
  obtain ⟨y1, y2, w1, y3, y4⟩ := h1
  obtain ⟨F1, f1, g1⟩ := y4
  rw [sh_mx_pos hn1] at f1 g1
  -- the cost
  obtain ⟨cost, ec, ec2, hc1, hc2⟩ : ∃ cost, (if k2 = 3 then Int32.ofNat b1 else Int32.ofNat n1 * (Int32.ofNat b1 + mm.I 66 44)) = Int32.ofNat cost ∧ cost = (if k2 = 3 then b1 else n1 * (b1 + b2)) ∧ b1 ≤ cost ∧ cost ≤ 10000 := by
    rcases h2.lo with ⟨rfl, _, hL⟩ | ⟨hk, hT⟩
    · exact ⟨b1, by rw [if_pos rfl], by rw [if_pos rfl], Nat.le_refl _, by omega⟩
    · have b2l := hT.1.b2
      refine ⟨n1 * (b1 + b2), by rw [if_neg (by omega), h44 (by omega), sh_nIadd, sh_nImul], by rw [if_neg (by omega)], ?_, ?_⟩
      · have : 1 * (b1 + b2) ≤ n1 * (b1 + b2) := Nat.mul_le_mul_right _ hn1
        omega
      · have : n1 * (b1 + b2) ≤ 32 * 128 := Nat.mul_le_mul n1l (by omega)
        omega
  rw [ec]
  -- the model's element
  obtain ⟨x, hx⟩ : ∃ x : Int, x = (v2 0).toInt := ⟨_, rfl⟩
  obtain ⟨ev, hev⟩ : ∃ ev : Int64, ev = if 0 ≤ x ∧ x < (n1 : Int) then v1 x.toNat else 0 := ⟨_, rfl⟩
  have cz0 : mm.J 66 46 < 0 ↔ x < 0 := by rw [h46, hx]; exact sh_lt0
  have czn : mm.J 66 46 < Int32.toInt64 (Int32.ofNat n1) ↔ x < (n1 : Int) := by rw [h46, hx, Int64.lt_iff_toInt_lt, Int32.toInt_toInt64, sh_nI (by omega)]
  have mdl : ∀ sp2, sf_292 (Int32.ofNat cost) (Int32.ofNat t0) mm = some (true, (mm.T, sh_u2 mm.I 66 42 (Int32.ofNat sp2), mm.J, mm.s)) → sf_309_49 (Int32.ofNat e) (Int32.ofNat k1) (Int32.ofNat b1) (Int32.ofNat n1) (Int32.ofNat f) (Int32.ofNat cost) mm = some (true, (mm.T, sh_u2 (sh_u2 (sh_u2 (sh_u2 mm.I 66 42 (Int32.ofNat sp2)) 66 43 (Int32.ofNat k1)) 66 44 (Int32.ofNat b1)) 66 45 0, sh_u2 mm.J 66 46 ev, mm.s)) := by
    intro sp2 hq
    unfold sf_309_49 sf_309_100 sf_309_101
    rw [if_pos (sh_okn' he (by omega)), sh_nIc (by omega), h73, hq, sh_bn_some, if_pos rfl]
    show (if mm.J 66 46 < 0 then _ else if mm.J 66 46 < Int32.toInt64 (Int32.ofNat n1) then if sh_okb (Int32.ofNat f + Int64.toInt32 (mm.J 66 46)) 80000 = true then _ else _ else _) = _
    by_cases q0 : x < 0
    · rw [if_pos (cz0.mpr q0), hev, if_neg (by omega)]
    · rw [if_neg (fun r => q0 (cz0.mp r))]
      by_cases qn : x < (n1 : Int)
      · have tn : (v2 0).toBitVec.toNat = x.toNat := by
          have := sh_pos_nat (x := v2 0) (fun r => q0 (by rw [hx]; exact sh_lt0.mp r))
          omega
        have t32 : Int64.toInt32 (mm.J 66 46) = Int32.ofNat x.toNat := by rw [h46]; exact sh_to32 (fun r => q0 (by rw [hx]; exact sh_lt0.mp r)) tn (by omega)
        rw [if_pos (czn.mpr qn), t32, sh_nIadd, if_pos (sh_okn' (by omega) (by omega)), sh_nIc (by omega), hev, if_pos ⟨by omega, qn⟩, ← hmem x.toNat (by omega)]
      · rw [if_neg (fun r => qn (czn.mp r)), hev, if_neg (fun r => qn r.2)]
  have mdn : ∀ kk pl y, sf_292 (Int32.ofNat cost) (Int32.ofNat t0) mm = some (false, sh_mft kk pl y) → sf_309_49 (Int32.ofNat e) (Int32.ofNat k1) (Int32.ofNat b1) (Int32.ofNat n1) (Int32.ofNat f) (Int32.ofNat cost) mm = some (false, sh_mft kk pl y) := by
    intro kk pl y hq
    unfold sf_309_49
    rw [if_pos (sh_okn' he (by omega)), sh_nIc (by omega), h73, hq]
    rfl
  -- the class
  have cls : sf_197 (Int32.ofNat t0) mc = if mc.I 49 (z + 1) = 0 then sh_bt (sf_90 (Int32.ofNat b1) (Int32.ofNat t0) mc) (fun m => (none, m)) fun _ m16 => if v2 0 < 0 then sf_197_91 (Int32.ofNat w1) (Int32.ofNat (sh_te k1 b1 n1)) (Int32.ofNat b1) (v2 0) m16 else if v2 0 < Int32.toInt64 (Int32.ofNat n1) then sf_197_92 (Int32.ofNat w1) (Int32.ofNat (sh_te k1 b1 n1)) (Int32.ofNat b1) (v2 0) true m16 else sf_197_91 (Int32.ofNat w1) (Int32.ofNat (sh_te k1 b1 n1)) (Int32.ofNat b1) (v2 0) m16 else sh_bt (sf_90 (sf_138 (Int32.ofNat (sh_te k1 b1 n1)) (mc.I 49 (z + 1))) (Int32.ofNat t0) mc) (fun m => (none, m)) fun _ m20 => sh_bc (sf_117 (Int32.ofNat (z + 1)) m20) fun r11 => sh_bc (sf_108 (Int32.ofNat (z + 1)) m20) fun r12 => sh_bn (sf_198 (Int32.ofNat w1) (Int32.ofNat (sh_te k1 b1 n1)) r11 r12 m20) fun r13 m23 => sf_197_171 (Int32.ofNat (sh_te k1 b1 n1)) r13 m23 := by
    unfold sf_197
    rw [h.cz, z2, z1, s1.2.2.2, sh_bc_some, s1.1, sh_bc_some, s2.1, sh_bc_some, sh_bc_some, y3, y2, sh_94 y1, sh_93 y1]
    by_cases q : mc.I 49 (z + 1) = 0
    · rw [if_pos q, if_pos q]
      have vv : sf_111 (Int32.ofNat (z + 1)) mc = some (v2 0) := by
        rcases h2.lo with ⟨_, _, hL⟩ | ⟨hk, hT⟩
        · rw [s2.2.2.1, hL.2.2.1]
        · exact absurd q (by rw [hT.2.1]; exact sh_te_0 hT.1)
      rw [vv, sh_bc_some]
    · rw [if_neg q, if_neg q]
  have ty0 : sh_typ k1 b1 0 := y1.el
  -- where the element's wires are
  have fin : ∀ {NN : Nat} {G : Nat → (Nat → Bool) → Bool} {qq : Option (Int32 × sh_X)} {S : Nat}, sp + cost ≤ 3000 → sh_rop NN S b1 gs u (mc.T, sh_u2 mc.I 41 14 (Int32.ofNat (sp + cost)), mc.J, mc.s) qq G → NN ≤ 14 * cost → 4 * S ≤ 5 * cost → sh_Ft (decide (k1 = 2)) b1 (fun j => G j p) ev → sf_292 (Int32.ofNat cost) (Int32.ofNat t0) mm = some (true, (mm.T, sh_u2 mm.I 66 42 (Int32.ofNat (sp + cost)), mm.J, mm.s)) → sf_197 (Int32.ofNat t0) mc = (sh_bn qq fun r m => sf_197_171 (Int32.ofNat (sh_te k1 b1 n1)) r m) →
      se_Bo N K P V C p gs u z q B fr cl sp cw ifs cd kn tp mc mm (sf_197 (Int32.ofNat t0) mc) (sf_309_49 (Int32.ofNat e) (Int32.ofNat k1) (Int32.ofNat b1) (Int32.ofNat n1) (Int32.ofNat f) (Int32.ofNat cost) mm) := by
    intro NN G qq S hx3 rr hNN hS ft hq hcl
    right
    have c3 := h.wsp (sp2 := sp + cost)
    have f3 : se_F u (z + 2) q fr cl mc (mc.T, sh_u2 mc.I 41 14 (Int32.ofNat (sp + cost)), mc.J, mc.s) := se_F.wI (by omega) (by omega) (by omega) (by omega) (by omega) (by omega)
    obtain ⟨e4, u4, w4, m5, m3, t1, t2', t3, t4, t5, t6, t7, t8, t9, t10, t11⟩ := se_ropr (k := 2) c3 (by omega) hz (Int32.ofNat (sh_te k1 b1 0)) rr
    have z21 : z + 2 - 2 = z := by omega
    rw [z21] at t3 t4 t5 t6
    have f30 : se_F u z q fr cl mc (mc.T, sh_u2 mc.I 41 14 (Int32.ofNat (sp + cost)), mc.J, mc.s) := f3.less (Nat.le_refl _) (by omega) (Nat.le_refl _) (Nat.le_refl _) (Nat.le_refl _)
    have w0 : sh_Rr mm (mm.T, sh_u2 (sh_u2 (sh_u2 (sh_u2 mm.I 66 42 (Int32.ofNat (sp + cost))) 66 43 (Int32.ofNat k1)) 66 44 (Int32.ofNat b1)) 66 45 0, sh_u2 mm.J 66 46 ev, mm.s) := ((((sh_Rr.wi (m := mm) (f := 42) (x := Int32.ofNat (sp + cost)) (by omega)).trans (sh_Rr.wi (f := 43) (x := Int32.ofNat k1) (by omega))).trans (sh_Rr.wi (f := 44) (x := Int32.ofNat b1) (by omega))).trans (sh_Rr.wi (f := 45) (x := 0) (by omega))).trans (sh_Rr.wj (i := 46) (x := ev))
    refine ⟨e4, u4, m3, _, k1, b1, fun _ => ev, sp + cost, ?_, mdl _ hq, t3, f30.trans t4 (Nat.le_refl _) (Nat.le_refl _) (Nat.le_refl _) (Nat.le_refl _) (Nat.le_refl _), ⟨ty0, t5, w4, t6, se_V.of1 t7 ft⟩, ?_, w0, ⟨by rw [se_In (by omega), sh_u2_idx (by omega), sh_u2_same], fun _ => by rw [se_In (by omega), sh_u2_same], se_Is, fun _ => se_Js, fun q => absurd q (by omega)⟩, by rw [se_In (by omega), sh_u2_idx (by omega), sh_u2_idx (by omega), sh_u2_same], t8, by omega, hx3, by rw [List.length_append]; omega, by omega⟩
    · rw [hcl, t1, sh_bn_some]
      unfold sf_197_171
      rw [sh_135 y1, show (2 : Int32) = Int32.ofNat 2 from rfl, t2']
      rfl
    · rw [t11, se_In (by omega)]
  rcases se_pay (x := cost) (i := t0) hN h hw h42 ht (by omega) hsp with bad | ⟨p1, p2, p3⟩
  · left
    obtain ⟨kk, ttt, x', y, x1, x2, x3, x4, x5⟩ := bad
    refine ⟨kk, ttt, x', y, x1, ?_, x3, mdn _ _ _ x4, x5⟩
    rw [cls]
    rcases h2.lo with ⟨k3, _, hL⟩ | ⟨hk, hT⟩
    · rw [if_pos k3] at ec2
      rw [ec2] at x2
      rw [if_pos hL.1, x2]
      rfl
    · rw [if_neg (by omega)] at ec2
      rw [hT.2.1, if_neg (sh_te_0 hT.1), sh_138 y1 hT.1, ← ec2, x2]
      rfl
  · have c3 := h.wsp (sp2 := sp + cost)
    have f3 : se_F u (z + 2) q fr cl mc (mc.T, sh_u2 mc.I 41 14 (Int32.ofNat (sp + cost)), mc.J, mc.s) := se_F.wI (by omega) (by omega) (by omega) (by omega) (by omega) (by omega)
    have f1' : sh_val (mc.T, sh_u2 mc.I 41 14 (Int32.ofNat (sp + cost)), mc.J, mc.s) gs u w1 (b1 * n1) F1 := f1.keep (e := []) (Nat.le_refl _) f3.po
    have u8 := h.rs.2.2.2.1
    rcases h2.lo with ⟨k3, _, hL⟩ | ⟨hk, hT⟩
    · rw [if_pos k3] at ec2
      have c5 : sf_197 (Int32.ofNat t0) mc = if v2 0 < 0 then sf_197_91 (Int32.ofNat w1) (Int32.ofNat (sh_te k1 b1 n1)) (Int32.ofNat b1) (v2 0) (mc.T, sh_u2 mc.I 41 14 (Int32.ofNat (sp + cost)), mc.J, mc.s) else if v2 0 < Int32.toInt64 (Int32.ofNat n1) then sf_197_92 (Int32.ofNat w1) (Int32.ofNat (sh_te k1 b1 n1)) (Int32.ofNat b1) (v2 0) true (mc.T, sh_u2 mc.I 41 14 (Int32.ofNat (sp + cost)), mc.J, mc.s) else sf_197_91 (Int32.ofNat w1) (Int32.ofNat (sh_te k1 b1 n1)) (Int32.ofNat b1) (v2 0) (mc.T, sh_u2 mc.I 41 14 (Int32.ofNat (sp + cost)), mc.J, mc.s) := by
        rw [cls, if_pos hL.1, ← ec2, p2]
        rfl
      have z0 : v2 0 < 0 ↔ x < 0 := by rw [hx]; exact sh_lt0
      have zn : v2 0 < Int32.toInt64 (Int32.ofNat n1) ↔ x < (n1 : Int) := by rw [hx, Int64.lt_iff_toInt_lt, Int32.toInt_toInt64, sh_nI (by omega)]
      by_cases q : 0 ≤ x ∧ x < (n1 : Int)
      · have tn : (v2 0).toBitVec.toNat = x.toNat := by
          have := sh_pos_nat (x := v2 0) (fun r => by have := z0.mp r; omega)
          omega
        have t32 : Int64.toInt32 (v2 0) = Int32.ofNat x.toNat := sh_to32 (fun r => by have := z0.mp r; omega) tn (by omega)
        have el := se_val_el f1' (x := x.toNat) (by omega)
        refine fin (NN := 0) (S := 0) (G := fun j => F1 (x.toNat * b1 + j)) (qq := some (Int32.ofNat (w1 + x.toNat * b1), (mc.T, sh_u2 mc.I 41 14 (Int32.ofNat (sp + cost)), mc.J, mc.s))) p1 ⟨[], _, u, _, rfl, c3.rs, Nat.le_refl _, Nat.le_refl _, sh_Rf.refl _, fun _ _ => rfl, Nat.le_refl _, el⟩ (Nat.zero_le _) (Nat.zero_le _) ?_ p3 ?_
        · rw [hev, if_pos q]
          exact g1 x.toNat (by omega)
        · rw [c5, if_neg (fun r => by have := z0.mp r; omega), if_pos (zn.mpr q.2)]
          unfold sf_197_92 sf_197_120
          rw [if_pos rfl, t32, sh_nImul, sh_nIadd]
          rfl
      · have rr := sh_115 (x := 0) c3.rs b1l (show u + b1 ≤ 8192 by omega)
        refine fin (NN := 0 * b1) (S := b1) (G := fun j _ => (0 : Int64).toBitVec.getLsbD j) p1 rr (by omega) (by omega) ?_ p3 ?_
        · rw [hev, if_neg q]
          have : (fun j => (0 : Int64).toBitVec.getLsbD j) = fun _ => false := funext (fun j => sh_b0_)
          rw [this]
          exact se_Ft0
        · rw [c5]
          unfold sf_197_91 sf_197_92 sf_197_120
          by_cases q0 : x < 0
          · rw [if_pos (z0.mpr q0), if_neg (by decide)]
          · rw [if_neg (fun r => q0 (z0.mp r)), if_neg (fun r => q ⟨by omega, zn.mp r⟩), if_neg (by decide)]
    · rw [if_neg (by omega)] at ec2
      have b2l := hT.1.b2
      have kk : k2 = 1 ∨ k2 = 2 := by
        rcases hk2 with r | r
        · have := r.1; omega
        · exact r
      obtain ⟨x1, x2, w2, x3, x4⟩ := hT
      obtain ⟨F2, f2, g2⟩ := x4.one
      have f2' : sh_val (mc.T, sh_u2 mc.I 41 14 (Int32.ofNat (sp + cost)), mc.J, mc.s) gs u w2 b2 F2 := f2.keep (e := []) (Nat.le_refl _) f3.po
      have s3 := (se_slot c3.cz (by omega : z + 1 < z + 2) hz)
      have e1 : (2 * b2 + 2 * b1) * n1 = 2 * (n1 * (b1 + b2)) := by
        rw [← Nat.mul_add, Nat.mul_assoc, Nat.add_comm b2 b1, Nat.mul_comm (b1 + b2) n1]
      have rr := sh_198 c3.rs f1' f2' (sh_94 y1) (sh_93 y1) (sh_94 x1) n1l b1l b2l (show u + b1 ≤ 8192 by omega) (show gs.length + (2 * b2 + 2 * b1) * n1 ≤ 65536 by omega)
      refine fin (NN := (2 * b2 + 2 * b1) * n1) (S := b1) p1 rr (by omega) (by omega) ?_ p3 ?_
      · have hit : ∀ k, k < n1 → sh_hit (Int32.ofNat (sh_te k2 b2 0)) (fun j => F2 j p) b2 k = decide (x = (k : Int)) := fun k hk => by
          rw [sh_hit_iff x1 kk (by omega) g2, hx]
        have : (fun j => sh_ea (fun k => sh_hit (Int32.ofNat (sh_te k2 b2 0)) (fun j => F2 j p) b2 k) (fun j => F1 j p) b1 n1 j) = fun j => if 0 ≤ x ∧ x < (n1 : Int) then F1 (x.toNat * b1 + j) p else false := funext (fun j => sh_ea_hit n1 hit)
        rw [this, hev]
        by_cases q : 0 ≤ x ∧ x < (n1 : Int)
        · simp only [if_pos q]
          exact g1 x.toNat (by omega)
        · simp only [if_neg q]
          exact se_Ft0
      · rw [cls, x2, if_neg (sh_te_0 x1), sh_138 y1 x1, ← ec2, p2]
        show (sh_bc (sf_117 (Int32.ofNat (z + 1)) _) _) = _
        rw [s3.2.2.2, sh_bc_some, s3.1, sh_bc_some, se_Ic (by omega), se_Ic (by omega), x3, x2]
end
