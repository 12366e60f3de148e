/-! EVALUATION: statements: an element goes into a row -/
theorem se_137e {gs : sh_gL} {u v n b x : Nat} {m0 m : sh_X} {F E : Nat → (Nat → Bool) → Bool} (hu : 2 ≤ u) (h : sh_RI 0 F gs u (b * n) m0 (b * n) [] m) (hy : sh_val m0 gs u v b E) (hx : x < n) (hub : u ≤ 8192) (hb : b ≤ 64) (hn : n ≤ 32) :
    ∃ m2, sf_137 (Int32.ofNat v) (Int32.ofNat (u + x * b)) (Int32.ofNat b) m = some ((), m2) ∧ sh_RI 0 (fun j p => sh_we (fun k => decide (k = x)) (fun j => F j p) (fun j => E j p) b j) gs u (b * n) m0 (b * n) [] m2 := by
  have xb : x * b + b ≤ b * n := by rw [← Nat.succ_mul, Nat.mul_comm b n]; exact Nat.mul_le_mul_right b hx
  have hw := hy.1
  unfold sf_137 sf_137_3
  obtain ⟨⟨c, m2⟩, ⟨q1, q2⟩, q3⟩ := sh_loop (f := fun q => sf_137_3s (Int32.ofNat v) (Int32.ofNat (u + x * b)) (Int32.ofNat b) q.1 q.2) (n := b) (i := 0) (s := (0, m))
    (fun i s => s.1 = Int32.ofNat i ∧ sh_RI 0 (fun j p => if x * b ≤ j ∧ j < x * b + i then E (j - x * b) p else F j p) gs u (b * n) m0 (b * n) [] s.2) (by
      rintro i ⟨c, m2⟩ hi ⟨r1, hR⟩
      have r1 : c = Int32.ofNat i := r1
      subst r1
      have hlt := (sh_nIlt (a := i) (b := b) (by omega) (by omega)).mpr hi
      obtain ⟨y, b1, b2, b3⟩ := hR.bit (hy.2 i hi) (by omega)
      obtain ⟨m4, s1, s2⟩ := hR.upd (i := x * b + i) (f := E i) hu (by omega) b2 b3
      refine ⟨(Int32.ofNat i + 1, m4), ?_, sh_nI1, s2.cong (fun j hj p => ?_)⟩
      · show sf_137_3s _ _ _ (Int32.ofNat i) m2 = _
        unfold sf_137_3s
        rw [if_pos hlt, sh_nIadd, b1]
        show sh_bn (sf_100 (Int32.ofNat (u + x * b) + Int32.ofNat i) (Int32.ofNat y) m2) _ = _
        rw [sh_nIadd, Nat.add_assoc, s1]
        rfl
      · unfold sh_fu
        by_cases e : j = x * b + i
        · rw [if_pos e, if_pos (by omega), e, Nat.add_sub_cancel_left]
        · rw [if_neg e]
          show (if x * b ≤ j ∧ j < x * b + i then E (j - x * b) p else F j p) = _
          by_cases g : x * b ≤ j ∧ j < x * b + i
          · rw [if_pos g, if_pos (by omega)]
          · rw [if_neg g, if_neg (by omega)]) (Nat.zero_le _) ⟨rfl, h.cong (fun j hj p => by rw [if_neg (by omega)])⟩
  have q1 : c = Int32.ofNat b := q1
  subst q1
  refine ⟨m2, q3 _ ?_, q2.cong (fun j hj p => ?_)⟩
  · show sf_137_3s _ _ _ (Int32.ofNat b) m2 = _
    unfold sf_137_3s
    rw [if_neg (sh_nlt0 b)]
  · have b0 : 0 < b := by
      rcases Nat.eq_zero_or_pos b with r | r
      · rw [r, Nat.zero_mul] at hj; omega
      · exact r
    unfold sh_we
    by_cases g : x * b ≤ j ∧ j < x * b + b
    · have dm := sh_divmod (k := x) (n := b) (i := j - x * b) (by omega)
      rw [show x * b + (j - x * b) = j by omega] at dm
      rw [if_pos g, dm.1, dm.2, if_pos (decide_eq_true rfl)]
    · rw [if_neg g, if_neg]
      intro r
      have r := of_decide_eq_true r
      have d1 := Nat.div_add_mod j b
      have d2 := Nat.mod_lt j b0
      rw [r, Nat.mul_comm] at d1
      omega
/-- Reckoner.withElement, the index known -/
theorem se_136 {gs : sh_gL} {u v w k b n : Nat} {m : sh_X} {F E : Nat → (Nat → Bool) → Bool} {xv : Int64} (h : sh_RS gs u m) (hx : sh_val m gs u v (b * n) F) (hy : sh_val m gs u w b E) (ht : sh_typ k b n) (hn : 0 < n) (hr : u + b * n ≤ 8192) :
    sh_rop 0 (b * n) (b * n) gs u m (sf_136 (Int32.ofNat v) (Int32.ofNat (sh_te k b n)) xv (Int32.ofNat w) m) (fun j p => sh_we (fun k => decide (xv.toInt = (k : Int))) (fun j => F j p) (fun j => E j p) b j) := by
  have n32 := ht.n2
  have b1 := ht.b1
  have b2 := ht.b2
  have hu := h.2.2.1
  have z0 : xv < 0 ↔ xv.toInt < 0 := sh_lt0
  have zn : xv < Int32.toInt64 (Int32.ofNat n) ↔ xv.toInt < (n : Int) := by rw [Int64.lt_iff_toInt_lt, Int32.toInt_toInt64, sh_nI (by omega)]
  have out : ¬ (0 ≤ xv.toInt ∧ xv.toInt < (n : Int)) → sh_rop 0 (b * n) (b * n) gs u m (some (Int32.ofNat v, m)) (fun j p => sh_we (fun k => decide (xv.toInt = (k : Int))) (fun j => F j p) (fun j => E j p) b j) := by
    intro q
    refine ⟨[], v, u, m, rfl, h, Nat.le_refl _, by omega, sh_Rf.refl _, fun _ _ => rfl, Nat.le_refl _, ⟨hx.1, fun j hj => ?_⟩⟩
    obtain ⟨y, y1, y2⟩ := hx.2 j hj
    refine ⟨y, y1, fun p => (y2 p).trans ?_⟩
    show F j p = sh_we (fun k => decide (xv.toInt = (k : Int))) (fun j => F j p) (fun j => E j p) b j
    unfold sh_we
    rw [if_neg]
    intro r
    have r := of_decide_eq_true r
    have := Nat.div_lt_of_lt_mul hj
    generalize j / b = jb at r this
    omega
  unfold sf_136
  by_cases q0 : xv.toInt < 0
  · rw [if_pos (z0.mpr q0)]
    exact out (by omega)
  · rw [if_neg (fun r => q0 (z0.mp r)), sh_93 ht]
    by_cases qn : xv.toInt < (n : Int)
    · obtain ⟨m1, a1, a2, a3, a4⟩ := sh_98 h hr
      obtain ⟨m2, c1, c2⟩ := sh_137 h a2 a3 a4 hx
      have tn : xv.toBitVec.toNat = xv.toInt.toNat := by
        have := sh_pos_nat (x := xv) (fun r => q0 (z0.mp r))
        omega
      have t32 : Int64.toInt32 xv = Int32.ofNat xv.toInt.toNat := sh_to32 (fun r => q0 (z0.mp r)) tn (by omega)
      obtain ⟨m3, d1, d2⟩ := se_137e (x := xv.toInt.toNat) hu c2 hy (by omega) (by omega) b2 n32
      refine (d2.cong (H := fun j p => sh_we (fun k => decide (xv.toInt = (k : Int))) (fun j => F j p) (fun j => E j p) b j) (fun j hj p => ?_)).rop ?_
      · unfold sh_we
        have e : decide (j / b = xv.toInt.toNat) = decide (xv.toInt = ((j / b : Nat) : Int)) := decide_eq_decide.mpr ⟨fun r => by omega, fun r => by omega⟩
        simp only [e]
      · rw [if_pos (zn.mpr qn), sh_96t ht, sh_mx_pos hn, sh_94 ht, a1, sh_bn_some, c1, sh_bn_some, t32, sh_nImul, sh_nIadd, d1]
        rfl
    · rw [if_neg (fun r => qn (zn.mp r))]
      exact out (by omega)
noncomputable def se_134 (x1 r2 r3 r6 : Int32) (m17 : sh_X) : Option (Option Unit × sh_X) :=
  sh_bc (sf_108 ((m17.I 48 4) - 1) m17) fun r8 =>
  if r8 = 0 then
    sh_bt (sf_90 (sf_96 r3) (x1 + 1) m17) (fun m => (none, m)) fun _ m20 =>
    sh_bc (sf_127 r2 m20) fun r11 =>
    sh_bc (sf_111 ((m17.I 48 4) - 1) m20) fun r12 =>
    sh_bn (sf_136 r11 r3 r12 r6 m20) fun r13 m23 =>
    sf_134_187 x1 r2 r13 m23
  else
    sh_bc (sf_108 ((m17.I 48 4) - 1) m17) fun r14 =>
    sh_bt (sf_90 (sf_138 r3 r14) (x1 + 1) m17) (fun m => (none, m)) fun _ m26 =>
    sh_bc (sf_127 r2 m26) fun r17 =>
    sh_bc (sf_117 ((m17.I 48 4) - 1) m26) fun r18 =>
    sh_bc (sf_108 ((m17.I 48 4) - 1) m26) fun r19 =>
    sh_bn (sf_139 r17 r3 r18 r19 r6 m26) fun r20 m30 =>
    sf_134_187 x1 r2 r20 m30
section
variable {N : Nat} {K : Nat → Int32} {P V : Nat → Nat} {A C : Nat → Nat → Int32} {p : Nat → Bool} {gs : sh_gL} {u z q B fr cl sp cw ifs cd kn : Nat} {mc mm : sh_X}
/-- a row's bits, an element put in -/
theorem se_we {b x : Nat} {s : Bool} {xv : Int} {f g : Nat → Bool} {v1 : Nat → Int64} {ve : Int64} {hit : Nat → Bool} (b1 : 1 ≤ b) (hh : hit x = decide (xv = (x : Int))) (h1 : sh_Ft s b (fun j => f (x * b + j)) (v1 x)) (h2 : sh_Ft s b g ve) : sh_Ft s b (fun j => sh_we hit f g b (x * b + j)) (if xv = (x : Int) then ve else v1 x) := by
  by_cases e : xv = (x : Int)
  · rw [if_pos e]
    refine h2.cong b1 (fun j hj => ?_)
    unfold sh_we
    rw [(sh_divmod hj).1, (sh_divmod hj).2, hh, if_pos (decide_eq_true e)]
  · rw [if_neg e]
    refine h1.cong b1 (fun j hj => ?_)
    unfold sh_we
    rw [(sh_divmod hj).1, hh, if_neg (by rw [decide_eq_false e]; decide)]
theorem se_put {ix t0 t2 w1 we k b n k2 b2 : Nat} {v1 ve v2 : Nat → Int64} (hN : N ≤ 4000) (h : se_c N K P V C gs u (z + 1) q B fr cl sp cw ifs cd kn mc) (hz : z + 1 ≤ 2048) (hq : q ≤ 1024) (hix : ix < q) (hty : sh_typ k b n) (hn : 0 < n) (i56 : mc.I 56 ix = Int32.ofNat w1) (h1 : se_V p mc gs u w1 k b n v1) (he : se_V p mc gs u we k b 0 ve) (h2 : se_D p mc gs u z t2 k2 b2 0 v2) (hk2 : k2 = 3 ∧ sh_hs 2 32 (v2 0) ∨ (k2 = 1 ∨ k2 = 2)) (hsp : sp ≤ 3000) (hgl : gs.length + 14 * (3000 - sp) ≤ 60000) (hu : 4 * u + 5 * (3000 - sp) ≤ 32000) (hw : sh_We N K P V mm) (h42 : mm.I 66 42 = Int32.ofNat sp) (ht : t0 + 1 ≤ N) :
    ∃ cost, cost = (if k2 = 3 then b * n else n * (b + b2)) ∧ 1 ≤ cost ∧ cost ≤ 10000 ∧
    (se_bad N P mc mm (se_134 (Int32.ofNat t0) (Int32.ofNat ix) (Int32.ofNat (sh_te k b n)) (Int32.ofNat we) mc) (sf_292 (Int32.ofNat cost) (Int32.ofNat (t0 + 1)) mm) ∨
    ∃ e' u2 mc2 w2, sp + cost ≤ 3000 ∧ se_134 (Int32.ofNat t0) (Int32.ofNat ix) (Int32.ofNat (sh_te k b n)) (Int32.ofNat we) mc = sf_134_187 (Int32.ofNat t0) (Int32.ofNat ix) (Int32.ofNat w2) mc2 ∧ sf_292 (Int32.ofNat cost) (Int32.ofNat (t0 + 1)) mm = some (true, (mm.T, sh_u2 mm.I 66 42 (Int32.ofNat (sp + cost)), mm.J, mm.s)) ∧ se_c N K P V C (e' ++ gs) u2 (z + 1) q B fr cl (sp + cost) cw ifs cd kn mc2 ∧ se_F u (z + 1) q fr cl mc mc2 ∧ mc2.I 41 13 = mc.I 41 13 ∧ se_V p mc2 (e' ++ gs) u2 w2 k b n (fun x => if (v2 0).toInt = (x : Int) then ve 0 else v1 x) ∧ u ≤ u2 ∧ e'.length ≤ 14 * cost ∧ 4 * u2 ≤ 4 * u + 5 * cost) := by
  have b1 := hty.b1
  have b2' := hty.b2
  have n32 := hty.n2
  have bn : b * n ≤ 64 * 32 := Nat.mul_le_mul b2' n32
  have bn1 : 1 * 1 ≤ b * n := Nat.mul_le_mul b1 hn
  have mxn : sh_mx n = n := sh_mx_pos hn
  obtain ⟨F1, f1, g1⟩ := h1
  rw [mxn] at f1 g1
  obtain ⟨Fe, fe, ge⟩ := he.one
  have sl := se_slot h.cz (by omega : z < z + 1) hz
  have z1 : Int32.ofNat (z + 1) - 1 = Int32.ofNat z := se_um1
  obtain ⟨cost, ec, hc1, hc2, hc3⟩ : ∃ cost, cost = (if k2 = 3 then b * n else n * (b + b2)) ∧ 1 ≤ cost ∧ cost ≤ 10000 ∧ b * n ≤ cost := by
    rcases h2.lo with ⟨rfl, _, hL⟩ | ⟨hk, hT⟩
    · exact ⟨b * n, by rw [if_pos rfl], by omega, by omega, Nat.le_refl _⟩
    · have b2l := hT.1.b2
      have e1 : n * (b + b2) = b * n + n * b2 := by rw [Nat.mul_add, Nat.mul_comm n b]
      have e2 : n * b2 ≤ 32 * 64 := Nat.mul_le_mul n32 b2l
      exact ⟨n * (b + b2), by rw [if_neg (by omega)], by omega, by omega, by omega⟩
  refine ⟨cost, ec, hc1, hc2, ?_⟩
  have t1 : Int32.ofNat t0 + 1 = Int32.ofNat (t0 + 1) := sh_nI1
  have c3 := h.wsp (sp2 := sp + cost)
  have f3 : se_F u (z + 1) q fr cl mc (mc.T, sh_u2 mc.I 41 14 (Int32.ofNat (sp + cost)), mc.J, mc.s) := se_F.wI (by omega) (by omega) (by omega) (by omega) (by omega) (by omega)
  have f1' : sh_val (mc.T, sh_u2 mc.I 41 14 (Int32.ofNat (sp + cost)), mc.J, mc.s) gs u w1 (b * n) F1 := f1.keep (e := []) (Nat.le_refl _) f3.po
  have fe' : sh_val (mc.T, sh_u2 mc.I 41 14 (Int32.ofNat (sp + cost)), mc.J, mc.s) gs u we b Fe := fe.keep (e := []) (Nat.le_refl _) f3.po
  have sl3 := se_slot c3.cz (by omega : z < z + 1) hz
  have ns := (se_nslot c3.cq hix hq).2.1
  have i56' : sh_X.I (mc.T, sh_u2 mc.I 41 14 (Int32.ofNat (sp + cost)), mc.J, mc.s) 56 ix = Int32.ofNat w1 := by rw [se_Ic (by omega)]; exact i56
  have fin : ∀ {NN S : Nat} {G : Nat → (Nat → Bool) → Bool} {qq : Option (Int32 × sh_X)}, sp + cost ≤ 3000 → sf_292 (Int32.ofNat cost) (Int32.ofNat (t0 + 1)) mm = some (true, (mm.T, sh_u2 mm.I 66 42 (Int32.ofNat (sp + cost)), mm.J, mm.s)) → sh_rop NN S (b * n) gs u (mc.T, sh_u2 mc.I 41 14 (Int32.ofNat (sp + cost)), mc.J, mc.s) qq G → NN ≤ 14 * cost → 4 * S ≤ 5 * cost → (∀ x, x < n → sh_Ft (decide (k = 2)) b (fun j => G (x * b + j) p) (if (v2 0).toInt = (x : Int) then ve 0 else v1 x)) → se_134 (Int32.ofNat t0) (Int32.ofNat ix) (Int32.ofNat (sh_te k b n)) (Int32.ofNat we) mc = (sh_bn qq fun r m => sf_134_187 (Int32.ofNat t0) (Int32.ofNat ix) r m) →
      ∃ e' u2 mc2 w2, sp + cost ≤ 3000 ∧ se_134 (Int32.ofNat t0) (Int32.ofNat ix) (Int32.ofNat (sh_te k b n)) (Int32.ofNat we) mc = sf_134_187 (Int32.ofNat t0) (Int32.ofNat ix) (Int32.ofNat w2) mc2 ∧ sf_292 (Int32.ofNat cost) (Int32.ofNat (t0 + 1)) mm = some (true, (mm.T, sh_u2 mm.I 66 42 (Int32.ofNat (sp + cost)), mm.J, mm.s)) ∧ se_c N K P V C (e' ++ gs) u2 (z + 1) q B fr cl (sp + cost) cw ifs cd kn mc2 ∧ se_F u (z + 1) q fr cl mc mc2 ∧ mc2.I 41 13 = mc.I 41 13 ∧ se_V p mc2 (e' ++ gs) u2 w2 k b n (fun x => if (v2 0).toInt = (x : Int) then ve 0 else v1 x) ∧ u ≤ u2 ∧ e'.length ≤ 14 * cost ∧ 4 * u2 ≤ 4 * u + 5 * cost := by
    intro NN S G qq q1 q2 rr q3 q4 q5 q6
    obtain ⟨e, w, uu, m5, r1, r2, r3, r4, r5, r6, r7, r8⟩ := rr
    have k41 : m5.I 41 = sh_X.I (mc.T, sh_u2 mc.I 41 14 (Int32.ofNat (sp + cost)), mc.J, mc.s) 41 := r5.I 41 (by omega) (by omega) (by omega) (by omega) (by omega) (by omega) (by omega) (by omega) (by omega)
    refine ⟨e, uu, m5, w, q1, by rw [q6, r1, sh_bn_some], q2, c3.R r5 r6 r2, f3.trans (se_F.R r5 r6) (Nat.le_refl _) (Nat.le_refl _) (Nat.le_refl _) (Nat.le_refl _) (Nat.le_refl _), by rw [k41, se_In (by omega)], ⟨G, by rw [mxn]; exact r8, fun x hx => q5 x (by omega)⟩, r3, by omega, by omega⟩
  have hub := h.rs.2.2.2.1
  rcases se_pay (x := cost) (i := t0 + 1) hN h hw h42 ht (by omega) hsp with bad | ⟨p1, p2, p3⟩
  · left
    obtain ⟨kk, tt, x', y, x1, x2, x3, x4, x5⟩ := bad
    refine ⟨kk, tt, x', y, x1, ?_, x3, x4, x5⟩
    unfold se_134
    rw [h.cz, z1, sl.1, sh_bc_some, t1]
    rcases h2.lo with ⟨k3, _, hL⟩ | ⟨hk, hT⟩
    · rw [if_pos k3] at ec
      rw [if_pos hL.1, sh_96t hty, mxn, ← ec, x2]
      rfl
    · rw [if_neg (by omega)] at ec
      rw [if_neg (by rw [hT.2.1]; exact sh_te_0 hT.1), sh_bc_some, hT.2.1, sh_138 hty hT.1, ← ec, x2]
      rfl
  · right
    rcases h2.lo with ⟨k3, _, hL⟩ | ⟨hk, hT⟩
    · rw [if_pos k3] at ec
      have rr := se_136 (xv := v2 0) c3.rs f1' fe' hty hn (by omega)
      refine fin p1 p3 rr (by omega) (by omega) (fun x hx => se_we b1 rfl (g1 x hx) ge) ?_
      unfold se_134
      rw [h.cz, z1, sl.1, sh_bc_some, t1, if_pos hL.1, sh_96t hty, mxn, ← ec, p2]
      show sh_bc (sf_127 (Int32.ofNat ix) _) _ = _
      rw [ns, sh_bc_some, i56', sl3.2.2.1, sh_bc_some, show sh_X.J (mc.T, sh_u2 mc.I 41 14 (Int32.ofNat (sp + cost)), mc.J, mc.s) 51 z = v2 0 from hL.2.2.1]
    · rw [if_neg (by omega)] at ec
      have b2l := hT.1.b2
      have kk : k2 = 1 ∨ k2 = 2 := by
        rcases hk2 with r | r
        · have := r.1; omega
        · exact r
      obtain ⟨x1, x2, w2, x3, x4⟩ := hT
      obtain ⟨F2, f2, g2⟩ := x4.one
      have f2' : sh_val (mc.T, sh_u2 mc.I 41 14 (Int32.ofNat (sp + cost)), mc.J, mc.s) gs u w2 b2 F2 := f2.keep (e := []) (Nat.le_refl _) f3.po
      have e1 : (2 * b2 + 3 * b) * n ≤ 3 * (n * (b + b2)) := by
        have : (2 * b2 + 3 * b) * n ≤ (3 * (b + b2)) * n := Nat.mul_le_mul_right n (by omega)
        rw [Nat.mul_assoc, Nat.mul_comm (b + b2) n] at this
        exact this
      have rr := sh_139 c3.rs f1' f2' fe' (sh_94 hty) (sh_93 hty) (sh_94 x1) hn n32 b2l (by omega) (by omega)
      refine fin p1 p3 rr (by omega) (by omega) (fun x hx => se_we b1 (by rw [sh_hit_iff x1 kk (by omega) g2]) (g1 x hx) ge) ?_
      unfold se_134
      rw [h.cz, z1, sl.1, sh_bc_some, t1, x2, if_neg (sh_te_0 x1), sh_bc_some, sh_138 hty x1, ← ec, p2]
      show sh_bc (sf_127 (Int32.ofNat ix) _) _ = _
      rw [ns, sh_bc_some, i56', sl3.2.2.2, sh_bc_some, sl3.1, sh_bc_some, se_Ic (by omega), se_Ic (by omega), x3, x2]
end
