/-! CIRCUITS: a whole circuit's text -/
def sj_N3 (a b o X : Nat) : Nat := if X = 0 then a else if X = 1 then b else o
def sj_f3 (a : Nat) (f : Nat → Nat → Nat) (X k i : Nat) : Nat := if X = 0 then 2 + (64 * k + i) else if X = 1 then 2 + a + (64 * k + i) else f k i
/-- a circuit stands on both sides -/
def sj_Y (a b o nw ng : Nat) (f : Nat → Nat → Nat) (gs : sh_gL) (mc mm : sh_X) : Prop := (sh_GS gs mc) ∧ (sh_gz gs) ∧ (∀ w, w < gs.length → (sh_ga gs w).1 = 0 → 2 ≤ w → w < 2 + a + b) ∧ (2 + a + b ≤ gs.length) ∧ (1 ≤ a ∧ a ≤ 500 ∧ 1 ≤ b ∧ b ≤ 500 ∧ o ≤ 500 ∧ a + b ≤ nw ∧ o ≤ nw ∧ nw ≤ 4000 ∧ ng ≤ 2000) ∧ (sj_E (fun X => sj_n (sj_N3 a b o X)) (fun X => sj_w (sj_N3 a b o X)) (sj_f3 a f) mc mm) ∧ (∀ k i, i < sj_w o k → f k i < gs.length ∧ ∀ p, sh_va p gs (f k i) = sj_cv mm.I (fun j => p (2 + j)) ng (nw - o + (64 * k + i))) ∧ (∀ i, i < ng → ∀ c, 118 ≤ c → c ≤ 120 → ∃ w, w < nw ∧ mm.I c i = Int32.ofNat w) ∧ (mm.I 121 0 = Int32.ofNat a ∧ mm.I 121 1 = Int32.ofNat b ∧ mm.I 121 2 = Int32.ofNat o ∧ mm.I 66 85 = Int32.ofNat ng ∧ mm.I 66 86 = Int32.ofNat nw) ∧ (mc.I 58 8 = Int32.ofNat nw ∧ mc.I 58 9 = Int32.ofNat ng ∧ mc.I 58 10 = mm.I 66 87)
theorem sj_Y.g {a b o nw ng : Nat} {f : Nat → Nat → Nat} {gs : sh_gL} {mc mm : sh_X} (h : sj_Y a b o nw ng f gs mc mm) : sh_GS gs mc := h.1
theorem sj_Y.z {a b o nw ng : Nat} {f : Nat → Nat → Nat} {gs : sh_gL} {mc mm : sh_X} (h : sj_Y a b o nw ng f gs mc mm) : sh_gz gs := h.2.1
theorem sj_Y.k0 {a b o nw ng : Nat} {f : Nat → Nat → Nat} {gs : sh_gL} {mc mm : sh_X} (h : sj_Y a b o nw ng f gs mc mm) : ∀ w, w < gs.length → (sh_ga gs w).1 = 0 → 2 ≤ w → w < 2 + a + b := h.2.2.1
theorem sj_Y.gl {a b o nw ng : Nat} {f : Nat → Nat → Nat} {gs : sh_gL} {mc mm : sh_X} (h : sj_Y a b o nw ng f gs mc mm) : 2 + a + b ≤ gs.length := h.2.2.2.1
theorem sj_Y.bd {a b o nw ng : Nat} {f : Nat → Nat → Nat} {gs : sh_gL} {mc mm : sh_X} (h : sj_Y a b o nw ng f gs mc mm) : 1 ≤ a ∧ a ≤ 500 ∧ 1 ≤ b ∧ b ≤ 500 ∧ o ≤ 500 ∧ a + b ≤ nw ∧ o ≤ nw ∧ nw ≤ 4000 ∧ ng ≤ 2000 := h.2.2.2.2.1
theorem sj_Y.e {a b o nw ng : Nat} {f : Nat → Nat → Nat} {gs : sh_gL} {mc mm : sh_X} (h : sj_Y a b o nw ng f gs mc mm) : sj_E (fun X => sj_n (sj_N3 a b o X)) (fun X => sj_w (sj_N3 a b o X)) (sj_f3 a f) mc mm := h.2.2.2.2.2.1
theorem sj_Y.ou {a b o nw ng : Nat} {f : Nat → Nat → Nat} {gs : sh_gL} {mc mm : sh_X} (h : sj_Y a b o nw ng f gs mc mm) : ∀ k i, i < sj_w o k → f k i < gs.length ∧ ∀ p, sh_va p gs (f k i) = sj_cv mm.I (fun j => p (2 + j)) ng (nw - o + (64 * k + i)) := h.2.2.2.2.2.2.1
theorem sj_Y.ga {a b o nw ng : Nat} {f : Nat → Nat → Nat} {gs : sh_gL} {mc mm : sh_X} (h : sj_Y a b o nw ng f gs mc mm) : ∀ i, i < ng → ∀ c, 118 ≤ c → c ≤ 120 → ∃ w, w < nw ∧ mm.I c i = Int32.ofNat w := h.2.2.2.2.2.2.2.1
theorem sj_Y.md {a b o nw ng : Nat} {f : Nat → Nat → Nat} {gs : sh_gL} {mc mm : sh_X} (h : sj_Y a b o nw ng f gs mc mm) : mm.I 121 0 = Int32.ofNat a ∧ mm.I 121 1 = Int32.ofNat b ∧ mm.I 121 2 = Int32.ofNat o ∧ mm.I 66 85 = Int32.ofNat ng ∧ mm.I 66 86 = Int32.ofNat nw := h.2.2.2.2.2.2.2.2.1
theorem sj_Y.cl {a b o nw ng : Nat} {f : Nat → Nat → Nat} {gs : sh_gL} {mc mm : sh_X} (h : sj_Y a b o nw ng f gs mc mm) : mc.I 58 8 = Int32.ofNat nw ∧ mc.I 58 9 = Int32.ofNat ng ∧ mc.I 58 10 = mm.I 66 87 := h.2.2.2.2.2.2.2.2.2
theorem sj_Y.mk {a b o nw ng : Nat} {f : Nat → Nat → Nat} {gs : sh_gL} {mc mm : sh_X} (g : sh_GS gs mc) (z : sh_gz gs) (k0 : ∀ w, w < gs.length → (sh_ga gs w).1 = 0 → 2 ≤ w → w < 2 + a + b) (gl : 2 + a + b ≤ gs.length) (bd : 1 ≤ a ∧ a ≤ 500 ∧ 1 ≤ b ∧ b ≤ 500 ∧ o ≤ 500 ∧ a + b ≤ nw ∧ o ≤ nw ∧ nw ≤ 4000 ∧ ng ≤ 2000) (e : sj_E (fun X => sj_n (sj_N3 a b o X)) (fun X => sj_w (sj_N3 a b o X)) (sj_f3 a f) mc mm) (ou : ∀ k i, i < sj_w o k → f k i < gs.length ∧ ∀ p, sh_va p gs (f k i) = sj_cv mm.I (fun j => p (2 + j)) ng (nw - o + (64 * k + i))) (ga : ∀ i, i < ng → ∀ c, 118 ≤ c → c ≤ 120 → ∃ w, w < nw ∧ mm.I c i = Int32.ofNat w) (md : mm.I 121 0 = Int32.ofNat a ∧ mm.I 121 1 = Int32.ofNat b ∧ mm.I 121 2 = Int32.ofNat o ∧ mm.I 66 85 = Int32.ofNat ng ∧ mm.I 66 86 = Int32.ofNat nw) (cl : mc.I 58 8 = Int32.ofNat nw ∧ mc.I 58 9 = Int32.ofNat ng ∧ mc.I 58 10 = mm.I 66 87) : sj_Y a b o nw ng f gs mc mm := ⟨g, z, k0, gl, bd, e, ou, ga, md, cl⟩
theorem sj_all {n : Nat} {B : Nat → Int32} {mc mm : sh_X} (P : sj_P n B 0 mc mm) (g : sh_GS [(0, 0, 0), (0, 0, 0)] mc) (h59 : ∀ w, w < 4000 → mc.I 59 w = -1) (e4 : ∀ x, x = 13 ∨ x = 18 ∨ x = 23 → mc.I x 4 = 0 ∧ mc.I x 5 = 0) (h10 : mc.I 58 10 = 0) {C : Option (Option Unit × sh_X)} {M : Option (Bool × sh_X)}
    (hC : C = (sh_bt (sf_201 1 2000 mc) (fun m => (none, m)) fun r3 m13 => sh_bt (sf_204 32 ⟨m13.T, sh_u2 m13.I 58 9 r3, m13.J, m13.s⟩) (fun m => (none, m)) fun _ m14 => sh_bt (sf_201 1 4000 m14) (fun m => (none, m)) fun r5 m15 => sh_bt (sf_204 10 ⟨m15.T, sh_u2 m15.I 58 8 r5, m15.J, m15.s⟩) (fun m => (none, m)) fun _ m16 => sh_bt (sf_205 m16) (fun m => (none, m)) fun _ m17 => sh_bt (sf_201 1 1 m17) (fun m => (none, m)) fun r8 m18 => sh_bt (sf_204 32 m18) (fun m => (none, m)) fun _ m19 => sh_bt (sf_201 1 (sf_21 500 (m19.I 58 8)) m19) (fun m => (none, m)) fun r11 m21 => sh_bt (sf_204 10 m21) (fun m => (none, m)) fun _ m22 => sh_bt (sf_204 10 m22) (fun m => (none, m)) fun _ m23 => sf_200_117 r11 0 m23))
    (hM : M = (sh_bn (sf_325 1 2000 32 mm) fun r1 m11 => if r1 = true then (sh_bn (sf_325 1 4000 10 ⟨m11.T, sh_u2 m11.I 66 85 (m11.I 66 92), m11.J, m11.s⟩) fun r2 m12 => if r2 = true then (sh_bn (sf_325 2 2 32 ⟨m12.T, sh_u2 m12.I 66 86 (m12.I 66 92), m12.J, m12.s⟩) fun r3 m13 => if r3 = true then (sh_bn (sf_325 1 500 32 m13) fun r4 m14 => if r4 = true then (sh_bn (sf_326 1 500 ⟨m14.T, sh_u2 m14.I 121 0 (m14.I 66 92), m14.J, m14.s⟩) fun r5 m15 => if r5 = true then (if (m15.I 66 86) < ((m15.I 121 0) + (m15.I 66 92)) then (sh_bn (sf_252 2 (m15.I 66 93) ⟨m15.T, sh_u2 m15.I 121 1 (m15.I 66 92), m15.J, m15.s⟩) fun r6 m16 => some ((r6, m16))) else (sh_bn (sf_327 10 ⟨m15.T, sh_u2 m15.I 121 1 (m15.I 66 92), m15.J, m15.s⟩) fun r7 m17 => if r7 = true then (sh_bn (sf_325 1 1 32 m17) fun r8 m18 => if r8 = true then (sh_bn (sf_326 1 500 m18) fun r9 m19 => if r9 = true then (if (m19.I 66 86) < (m19.I 66 92) then (sh_bn (sf_252 2 (m19.I 66 93) ⟨m19.T, sh_u2 m19.I 121 2 (m19.I 66 92), m19.J, m19.s⟩) fun r10 m20 => some ((r10, m20))) else (sh_bn (sf_327 10 ⟨m19.T, sh_u2 m19.I 121 2 (m19.I 66 92), m19.J, m19.s⟩) fun r11 m21 => if r11 = true then (sh_bn (sf_328 20 m21) fun r12 m22 => if r12 = true then sf_324_231 0 m22 else some ((false, m22))) else some ((false, m21)))) else some ((false, m19))) else some ((false, m18))) else some ((false, m17)))) else some ((false, m15))) else some ((false, m14))) else some ((false, m13))) else some ((false, m12))) else some ((false, m11)))) :
    sj_bw C M mc mm ∨ ∃ m1 m2 a b o nw ng f gs, C = some (some (), m1) ∧ M = some (true, m2) ∧ sj_Cs mc m1 ∧ sj_Ms mm m2 ∧ sj_Y a b o nw ng f gs m1 m2 ∧ (∀ k, k < sj_n a → m1.J 16 k = 0) ∧ (∀ k, k < sj_n b → m1.J 21 k = 0) := by
  -- gates, wires
  rcases sj_325w (lo := 1) (hi := 2000) (x := 32) (f := 9) P (by omega) (by omega) (by omega) (Or.inr rfl) with ⟨q, m1, n1, c1, d1, f1, f2⟩ | ⟨ng, p1, m1, n1, c1, d1, g1, g2, P1, f1, k9, kF1, f2, v92⟩
  · refine Or.inl ⟨q, m1, n1, _, hC.trans (c1 _), ?_, f1.GS g, f1.s_, f2.s_⟩
    rw [hM, show sf_325 1 2000 32 mm = _ from d1]
    rfl
  have hC := hC.trans (c1 _)
  obtain ⟨nA, hnA⟩ : ∃ nA : sh_X, (n1.T, sh_u2 n1.I 66 85 (Int32.ofNat ng), n1.J, n1.s) = nA := ⟨_, rfl⟩
  rw [show sf_325 1 2000 32 mm = _ from d1, sh_bn_some, if_pos rfl, v92, hnA] at hM
  have aF : ∀ f, f ≠ 85 → nA.I 66 f = n1.I 66 f := fun f q => by rw [← hnA]; exact se_In (fun _ => q)
  have PA : sj_P n B p1 m1 nA := P1.mw (by rw [← hnA]; exact se_Ic (by omega)) (aF 3 (by omega)) (aF 91 (by omega))
  have LA : sj_Ms mm nA := f2.s_.trans (by rw [← hnA]; exact sj_Ms.w (by omega))
  rcases sj_325w (lo := 1) (hi := 4000) (x := 10) (f := 8) PA (by omega) (by omega) (by omega) (Or.inl rfl) with ⟨q, m2, n2, c2, d2, f3, f4⟩ | ⟨nw, p2, m2, n2, c2, d2, w1, w4, P2, f3, k8, kF2, f4, u92⟩
  · refine Or.inl ⟨q, m2, n2, _, hC.trans (c2 _), ?_, (f1.trans f3).GS g, (f1.trans f3).s_, LA.trans f4.s_⟩
    rw [hM, show sf_325 1 4000 10 nA = _ from d2]
    rfl
  have hC := hC.trans (c2 _)
  obtain ⟨nB, hnB⟩ : ∃ nB : sh_X, (n2.T, sh_u2 n2.I 66 86 (Int32.ofNat nw), n2.J, n2.s) = nB := ⟨_, rfl⟩
  rw [show sf_325 1 4000 10 nA = _ from d2, sh_bn_some, if_pos rfl, u92, hnB] at hM
  have bF : ∀ f, f ≠ 86 → nB.I 66 f = n2.I 66 f := fun f q => by rw [← hnB]; exact se_In (fun _ => q)
  have PB : sj_P n B p2 m2 nB := P2.mw (by rw [← hnB]; exact se_Ic (by omega)) (bF 3 (by omega)) (bF 91 (by omega))
  have LB : sj_Ms mm nB := (LA.trans f4.s_).trans (by rw [← hnB]; exact sj_Ms.w (by omega))
  have F2 := f1.trans f3
  have b86 : nB.I 66 86 = Int32.ofNat nw := by rw [← hnB]; exact se_Is
  have b85 : nB.I 66 85 = Int32.ofNat ng := by rw [bF 85 (by omega), f4.F 85 (by omega) (by omega) (by omega), ← hnA]; exact se_Is
  have c9 : m2.I 58 9 = Int32.ofNat ng := by rw [kF2 9 (by omega) (by omega)]; exact k9
  have c10 : m2.I 58 10 = 0 := by rw [kF2 10 (by omega) (by omega), kF1 10 (by omega) (by omega)]; exact h10
  have hC : C = sh_bt (sf_205 m2) (fun m => (none, m)) fun _ m17 => sh_bt (sf_201 1 1 m17) (fun m => (none, m)) fun r8 m18 => sh_bt (sf_204 32 m18) (fun m => (none, m)) fun _ m19 => sh_bt (sf_201 1 (sf_21 500 (m19.I 58 8)) m19) (fun m => (none, m)) fun r11 m21 => sh_bt (sf_204 10 m21) (fun m => (none, m)) fun _ m22 => sh_bt (sf_204 10 m22) (fun m => (none, m)) fun _ m23 => sf_200_117 r11 0 m23 := hC
  rcases sj_205 _ PB (F2.GS g) w4 k8 b86 (fun x hx => by rw [F2.I x (by omega)]; exact e4 x (by omega)) hM with b | ⟨a, b, p3, m3, n3, gs, c3, hM, a1, a5, b1, b5, ab, P3, g3, gl, gz, E1, E2, i59, i59o, S3, LS3, kF3, k23, j16, j21, t0, t1, t85, t86⟩
  · obtain ⟨q, m3, n3, gs', x1, x2, x3, x4, x5⟩ := b
    refine Or.inl ⟨q, m3, n3, gs', ?_, x2, x3, F2.s_.trans x4, LB.trans x5⟩
    rw [hC, x1]
    rfl
  have hC : C = sh_bt (sf_201 1 1 m3) (fun m => (none, m)) fun r8 m18 => sh_bt (sf_204 32 m18) (fun m => (none, m)) fun _ m19 => sh_bt (sf_201 1 (sf_21 500 (m19.I 58 8)) m19) (fun m => (none, m)) fun r11 m21 => sh_bt (sf_204 10 m21) (fun m => (none, m)) fun _ m22 => sh_bt (sf_204 10 m22) (fun m => (none, m)) fun _ m23 => sf_200_117 r11 0 m23 := by
    rw [hC, c3]
    rfl
  have SC := F2.s_.trans S3
  have LC := LB.trans LS3
  -- the outputs' line
  rcases sj_325 (lo := 1) (hi := 1) (x := 32) P3 (by omega) (by omega) (by omega) with ⟨q, m4, n4, c4, d4, f5, f6⟩ | ⟨on, p4, m4, n4, c4, d4, _, _, P4, f5, f6, _⟩
  · refine Or.inl ⟨q, m4, n4, gs, hC.trans (c4 _), ?_, f5.GS g3, SC.trans f5.l.s_, LC.trans f6.s_⟩
    rw [hM, show sf_325 1 1 32 n3 = _ from d4]
    rfl
  have hC := hC.trans (c4 _)
  have hM : M = _ := hM
  rw [show sf_325 1 1 32 n3 = _ from d4, sh_bn_some, if_pos rfl] at hM
  have c8' : m4.I 58 8 = Int32.ofNat nw := by rw [f5.F 8 (by omega), kF3 8 (by omega)]; exact k8
  have e0 : Int32.ofNat nw - Int32.ofNat 0 = Int32.ofNat nw := sh_nIs (Nat.zero_le _)
  have mn1 : ∀ v, v ≤ 500 → (sf_21 500 (Int32.ofNat nw) < Int32.ofNat v ↔ nw < v) := fun v hv => by
    have := sj_min1 (nw := nw) (a := 0) (v := v) (by omega) w4 hv
    rw [e0, Nat.zero_add] at this
    exact this
  have mn2 : ∀ v : Int32, Int32.ofNat 500 < v → sf_21 500 (Int32.ofNat nw) < v := fun v hv => by
    have := sj_min2 (nw := nw) (a := 0) (by omega) w4 v hv
    rw [e0] at this
    exact this
  rcases sj_num2 (lo := 1) (hi := 500) (hi2 := sf_21 500 (Int32.ofNat nw)) P4 (by omega) (by omega) mn2 with ⟨q, m5, n5, c5, d5, f7, f8⟩ | ⟨o, p5, n5, d5, o1, o5, f8, z92, z93, hb⟩
  · refine Or.inl ⟨q, m5, n5, gs, ?_, ?_, (f5.trans f7).GS g3, SC.trans (f5.trans f7).l.s_, LC.trans (f6.trans f8).s_⟩
    · refine hC.trans ?_
      show (sh_bt (sf_201 1 (sf_21 500 (m4.I 58 8)) m4) _ _) = _
      rw [c8', show sf_201 1 (sf_21 500 (Int32.ofNat nw)) m4 = _ from c5]; rfl
    · rw [hM, show sf_326 1 500 n4 = _ from d5]; rfl
  have n86 : n5.I 66 86 = Int32.ofNat nw := by rw [f8.F 86 (by omega) (by omega) (by omega), f6.F 86 (by omega) (by omega) (by omega)]; exact t86
  obtain ⟨nC, hnC⟩ : ∃ nC : sh_X, (n5.T, sh_u2 n5.I 121 2 (Int32.ofNat o), n5.J, n5.s) = nC := ⟨_, rfl⟩
  rw [show sf_326 1 500 n4 = _ from d5, sh_bn_some, if_pos rfl, n86, z92, z93, hnC] at hM
  have ck : Int32.ofNat nw < Int32.ofNat o ↔ nw < o := sh_nIlt (by omega) (by omega)
  have LD : sj_Ms mm nC := (LC.trans (f6.trans f8).s_).trans (by rw [← hnC]; exact sj_Ms.w (by omega))
  have cI : ∀ c, c ≠ 121 → nC.I c = n5.I c := fun c q => by rw [← hnC]; exact se_Ic q
  have hC : C = sh_bt (sf_201 1 (sf_21 500 (Int32.ofNat nw)) m4) (fun m => (none, m)) fun r11 m21 => sh_bt (sf_204 10 m21) (fun m => (none, m)) fun _ m22 => sh_bt (sf_204 10 m22) (fun m => (none, m)) fun _ m23 => sf_200_117 r11 0 m23 := by
    refine hC.trans ?_
    show (sh_bt (sf_201 1 (sf_21 500 (m4.I 58 8)) m4) _ _) = _
    rw [c8']
  rcases hb with ⟨hb, m5, c5, f7⟩ | ⟨hb, m5, c5, P5, f7⟩
  · rw [if_pos (ck.mpr ((mn1 o o5).mp hb)), sj_252] at hM
    refine Or.inl ⟨p4, m5, nC, gs, ?_, hM, (f5.trans f7).GS g3, SC.trans (f5.trans f7).l.s_, LD⟩
    rw [hC, show sf_201 1 (sf_21 500 (Int32.ofNat nw)) m4 = _ from c5]; rfl
  have hon : ¬ nw < o := fun q => hb ((mn1 o o5).mpr q)
  rw [if_neg (fun q => hon (ck.mp q))] at hM
  have hC : C = sh_bt (sf_204 10 m5) (fun m => (none, m)) fun _ m22 => sh_bt (sf_204 10 m22) (fun m => (none, m)) fun _ m23 => sf_200_117 (Int32.ofNat o) 0 m23 := by
    rw [hC, show sf_201 1 (sf_21 500 (Int32.ofNat nw)) m4 = _ from c5]; rfl
  have PC : sj_P n B p5 m5 nC := P5.mw (cI 67 (by omega)) (by rw [cI 66 (by omega)]) (by rw [cI 66 (by omega)])
  have F5 := f5.trans f7
  rcases sj_chr (x := 10) PC (by omega) with ⟨q, m6, n6, c6, d6, f9, f10⟩ | ⟨m6, n6, c6, d6, P6, f9, f10, _, _⟩
  · refine Or.inl ⟨q, m6, n6, gs, ?_, ?_, (F5.trans f9).GS g3, SC.trans (F5.trans f9).l.s_, LD.trans f10.s_⟩
    · rw [hC, show sf_204 10 m5 = _ from c6]; rfl
    · rw [hM, show sf_327 10 nC = _ from d6]; rfl
  rw [show sf_327 10 nC = _ from d6, sh_bn_some, if_pos rfl, show sf_328 20 n6 = sf_327 10 n6 from sj_328l (x := 20) (l := []) rfl (by decide)] at hM
  have hC : C = sh_bt (sf_204 10 m6) (fun m => (none, m)) fun _ m23 => sf_200_117 (Int32.ofNat o) 0 m23 := by
    rw [hC, show sf_204 10 m5 = _ from c6]; rfl
  rcases sj_chr (x := 10) P6 (by omega) with ⟨q, m7, n7, c7, d7, f11, f12⟩ | ⟨m7, n7, c7, d7, P7, f11, f12, _, _⟩
  · refine Or.inl ⟨q, m7, n7, gs, ?_, ?_, ((F5.trans f9).trans f11).GS g3, SC.trans ((F5.trans f9).trans f11).l.s_, LD.trans (f10.trans f12).s_⟩
    · rw [hC, show sf_204 10 m6 = _ from c7]; rfl
    · rw [hM, show sf_327 10 n6 = _ from d7]; rfl
  rw [show sf_327 10 n6 = _ from d7, sh_bn_some, if_pos rfl] at hM
  have hC : C = sf_200_117 (Int32.ofNat o) (Int32.ofNat 0) m7 := by
    rw [hC, show sf_204 10 m6 = _ from c7]; rfl
  have F7 := (F5.trans f9).trans f11
  have G7 := f10.trans f12
  have n7I : ∀ c, c ≠ 66 → c ≠ 121 → n7.I c = n3.I c := fun c q1 q2 => by rw [G7.I c q1, cI c q2, f8.I c q1, f6.I c q1]
  have n7F : ∀ f, f ≠ 91 → f ≠ 92 → f ≠ 93 → n7.I 66 f = n3.I 66 f := fun f q1 q2 q3 => by rw [G7.F f q1 q2 q3, cI 66 (by omega), f8.F f q1 q2 q3, f6.F f q1 q2 q3]
  have y0 : n7.I 121 0 = Int32.ofNat a := by rw [G7.I 121 (by omega), ← hnC, se_In (by omega), f8.I 121 (by omega), f6.I 121 (by omega)]; exact t0
  have y1 : n7.I 121 1 = Int32.ofNat b := by rw [G7.I 121 (by omega), ← hnC, se_In (by omega), f8.I 121 (by omega), f6.I 121 (by omega)]; exact t1
  have y2 : n7.I 121 2 = Int32.ofNat o := by rw [G7.I 121 (by omega), ← hnC]; exact se_Is
  obtain ⟨n8, d8, e1, e2, e3, e5, e6, e7, e8⟩ := sj_231 a5 b5 y0 y1
  rw [d8] at hM
  have L8 : sj_Ms mm n8 := (LD.trans G7.s_).trans (sj_Ms.mk e1 e2 e3 (fun c q1 q2 => e5 c q1 (by omega)) (fun f q => e6 f (by omega)))
  -- the mark
  obtain ⟨G, hG⟩ : ∃ G, gs.length = G + 1 := ⟨gs.length - 1, by omega⟩
  have grep : gs = List.replicate (G + 1) (0, 0, 0) := by rw [← hG]; exact List.eq_replicate_of_mem gz
  have sk0 : sh_sk gs (sh_gm G (G + 1)) := by
    have := sh_gm_sk (Z := G + 1) G
    rw [← grep] at this
    exact this
  have wf0 : sh_gw0 (sh_gm G (G + 1)) := sh_gm_wf (by omega) G (Nat.le_refl _)
  have gml := sh_gm_len G (G + 1)
  have gM : sh_GS (sh_gm G (G + 1)) m7 := (F7.GS g3).sk sk0 wf0
  have kinds : ∀ y ∈ sh_gm G (G + 1), y.1 = 0 := fun y hy => by
    unfold sh_gm at hy
    rcases List.mem_append.mp hy with q | q
    · rw [List.eq_of_mem_replicate q]
    · simp at q; rw [q]
  have P8 : sj_P n B (p5 + 1 + 1) m7 n8 := P7.mw (e5 67 (by omega) (by omega)) (e6 3 (by omega)) (e6 91 (by omega))
  have G0 : sj_G n nw ng 0 (2 + a + b) B (p5 + 1 + 1) (sh_gm G (G + 1)) m7 n8 := sj_G.mk P8 gM (by omega) (by rw [F7.F 8 (by omega), kF3 8 (by omega)]; exact k8) (by rw [F7.F 9 (by omega), kF3 9 (by omega)]; exact c9) (by rw [e6 86 (by omega), n7F 86 (by omega) (by omega) (by omega)]; exact t86) (by rw [e6 85 (by omega), n7F 85 (by omega) (by omega) (by omega), t85]; exact b85) (by rw [F7.F 10 (by omega), kF3 10 (by omega), c10, e7]) (fun w hw => by
    rw [e8 w (by omega), F7.I 59 (by omega)]
    by_cases q : w < a + b
    · rw [if_pos q]
      exact Or.inr ⟨rfl, 2 + w, by omega, i59 w q, fun p => sj_va0 wf0 kinds (by omega) (by omega)⟩
    · rw [if_neg q, i59o w (by omega), F2.I 59 (by omega)]
      exact Or.inl ⟨rfl, h59 w (by omega)⟩) (fun i hi => absurd hi (by omega))
  rcases sj_lines (x3 := Int32.ofNat o) w1 w4 g2 (by omega) ng 0 _ _ m7 n8 (by omega) G0 with bb | ⟨e', m8, n9, h1, h2, G1, h4, h5⟩
  · rw [hC, hM]
    exact Or.inl (bb.w.pre (SC.trans F7.l.s_) L8)
  have S8 := (SC.trans F7.l.s_).trans h4.s_
  have L9 := L8.trans h5.s_
  have g8 := G1.g
  have gl8 := G1.gl
  have x121 : n9.I 121 = n7.I 121 := by rw [h5.I 121 (by omega) (by omega) (by omega), e5 121 (by omega) (by omega)]
  have z23 : m8.I 23 = mc.I 23 := by rw [h4.I 23 (by omega) (by omega) (by omega) (by omega), F7.I 23 (by omega), k23, F2.I 23 (by omega)]
  have hM2 : M = sf_324_336 (n9.I 66 86 - n9.I 121 2) n9 := hM.trans h2
  have hC2 : C = sf_200_155 (Int32.ofNat o) m8 := hC.trans h1
  rcases sj_outs (o := o) G1 w4 (by omega) (by omega) o5 (by rw [x121]; exact y2) (by rw [z23]; exact (e4 23 (by omega)).1) (by rw [z23]; exact (e4 23 (by omega)).2) with bb | ⟨f, m9, i1, i2, i3, i4, i5, i6, i7, i8⟩
  · rw [hC2, hM2]
    exact Or.inl (bb.pre S8 L9)
  have N3 : ∀ X, X < 3 → sj_N3 a b o X ≤ 500 ∧ n9.I 121 X = Int32.ofNat (sj_N3 a b o X) := fun X hX => by
    rw [x121]
    unfold sj_N3
    rcases (show X = 0 ∨ X = 1 ∨ X = 2 by omega) with q | q | q
    · subst q; exact ⟨a5, y0⟩
    · subst q; exact ⟨b5, y1⟩
    · subst q; exact ⟨o5, y2⟩
  obtain ⟨n10, r1, r2, r3, r4, r5, r6⟩ := sj_371 N3
  have skF := sh_cl_sk (e' ++ sh_gm G (G + 1))
  have gw := g8.wf
  have wfF := sh_cl_wf gw
  have lenF : (sh_clp (e' ++ sh_gm G (G + 1))).length = (e' ++ sh_gm G (G + 1)).length := skF.len
  have lenE : (e' ++ sh_gm G (G + 1)).length = e'.length + (G + 1) := by rw [List.length_append, gml]
  have m9E : ∀ c, c < 23 → m9.I c = m8.I c := fun c q => i7 c (Or.inl q)
  have m8E : ∀ c, 12 < c → c < 23 → m8.I c = m3.I c := fun c q1 q2 => by rw [h4.I c (by omega) (by omega) (by omega) (by omega), F7.I c (by omega)]
  have mE : ∀ c, 12 < c → c < 23 → m9.I c = m3.I c := fun c q1 q2 => (m9E c q2).trans (m8E c q1 q2)
  have cvE : ∀ v w, sj_cv n10.I v ng w = sj_cv n9.I v ng w := fun v w => sj_cv_cong ng (fun c i q1 q2 _ => by rw [r6 c (by omega) (by omega) (by omega) (by omega)]) w
  have J9 : ∀ c, c ≠ 26 → m9.J c = m3.J c := fun c q => by rw [i8 c q, h4.J, F7.J]
  refine Or.inr ⟨m9, n10, a, b, o, nw, ng, f, sh_clp (e' ++ sh_gm G (G + 1)), hC2.trans i1, hM2.trans (i2.trans r1), S8.trans i6.s_, L9.trans (sj_Ms.mk r3 r4 r5 (fun c q1 q2 => r6 c (by omega) (by omega) (by omega) (by omega)) (fun f _ => by rw [r6 66 (by omega) (by omega) (by omega) (by omega)])), sj_Y.mk (i5.sk skF wfF) (sh_cl_z _) (fun w q1 q2 q3 => ?_) (by omega) ⟨a1, a5, b1, b5, o5, ab, by omega, w4, g2⟩ (fun X hX => ?_) (fun k i hi => ?_) (fun i hi c q1 q2 => ?_) ⟨?_, ?_, ?_, ?_, ?_⟩ ⟨?_, ?_, ?_⟩, fun k hk => ?_, fun k hk => ?_⟩
  · have hv : w < (e' ++ sh_gm G (G + 1)).length := by omega
    have k0 : (sh_ga (e' ++ sh_gm G (G + 1)) w).1 = 0 := by
      rcases skF.ga w hv with q | q
      · rw [← q]; exact q2
      · exact q.1
    have z := (sh_gw0_z gw hv k0).2.2 (by omega)
    have gh : sh_gh (e' ++ sh_gm G (G + 1)) = 4294967296 * (G + 1) := by
      unfold sh_gh
      rw [sh_ga_ext (by rw [gml]; omega)]
      exact sh_gm_gh G (G + 1)
    rw [gh] at z
    omega
  · obtain ⟨s1, s2, s3⟩ := r2 X hX
    refine ⟨?_, s1, s2, s3⟩
    rcases (show X = 0 ∨ X = 1 ∨ X = 2 by omega) with q | q | q
    · subst q; exact E1.cong (mE 13 (by omega) (by omega)) (mE 14 (by omega) (by omega)) (mE 15 (by omega) (by omega)) (mE 17 (by omega) (by omega))
    · subst q; exact E2.cong (mE 18 (by omega) (by omega)) (mE 19 (by omega) (by omega)) (mE 20 (by omega) (by omega)) (mE 22 (by omega) (by omega))
    · subst q; exact i3
  · obtain ⟨x1, x2⟩ := i4 k i hi
    exact ⟨by rw [lenF]; exact x1, fun p => by rw [skF.va, x2, cvE]⟩
  · rw [r6 c (by omega) (by omega) (by omega) (by omega)]
    exact G1.ga i hi c q1 q2
  · rw [r6 121 (by omega) (by omega) (by omega) (by omega), x121]; exact y0
  · rw [r6 121 (by omega) (by omega) (by omega) (by omega), x121]; exact y1
  · rw [r6 121 (by omega) (by omega) (by omega) (by omega), x121]; exact y2
  · rw [r6 66 (by omega) (by omega) (by omega) (by omega)]; exact G1.m85
  · rw [r6 66 (by omega) (by omega) (by omega) (by omega)]; exact G1.m86
  · rw [i7 58 (by omega)]; exact G1.c8
  · rw [i7 58 (by omega)]; exact G1.c9
  · rw [i7 58 (by omega), r6 66 (by omega) (by omega) (by omega) (by omega)]; exact G1.an
  · rw [J9 16 (by omega)]; exact j16 k hk
  · rw [J9 21 (by omega)]; exact j21 k hk
