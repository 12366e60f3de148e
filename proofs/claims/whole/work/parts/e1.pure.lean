/-! EVALUATION: signs between two values that have a type -/
theorem se_lev {c : Int32} (h : sh_sg c) : ¬ sf_274 c = 8 ∧ ((c = 9766 ∨ c = 31868) ∧ sf_274 c < 3 ∨ (c = 38 ∨ c = 94 ∨ c = 124 ∨ c = 8509 ∨ c = 15677) ∧ ¬ sf_274 c < 3 ∧ sf_274 c < 7 ∨ ¬ (c = 38 ∨ c = 94 ∨ c = 124 ∨ c = 8509 ∨ c = 15677) ∧ ¬ (c = 9766 ∨ c = 31868) ∧ ¬ sf_274 c < 3 ∧ ¬ sf_274 c < 7) := by
  rcases h with rfl | rfl | rfl | rfl | rfl | rfl | rfl | rfl | rfl | rfl | rfl | rfl | rfl | rfl | rfl | rfl
  all_goals decide +kernel
theorem se_191 {c : Int32} (h : sh_sg c) : sf_191 c = sh_tst c := by
  rcases h with rfl | rfl | rfl | rfl | rfl | rfl | rfl | rfl | rfl | rfl | rfl | rfl | rfl | rfl | rfl | rfl
  all_goals decide +kernel
theorem se_sgb {c : Int32} (h : c = 9766 ∨ c = 31868 ∨ c = 38 ∨ c = 94 ∨ c = 124 ∨ c = 8509 ∨ c = 15677) : sh_sb c := by
  unfold sh_sb
  rcases h with rfl | rfl | rfl | rfl | rfl | rfl | rfl <;> decide
theorem se_177 {c : Int32} {b : Nat} (hb : b ≤ 64) : sf_177 c (Int32.ofNat b) = Int32.ofNat (sh_pc c b) := by
  unfold sf_177 sf_177_24 sh_pc
  by_cases h1 : c = 42
  · rw [if_pos h1, if_pos h1, sh_nImul]
  · rw [if_neg h1, if_neg h1]
    by_cases h2 : c = 47
    · rw [if_pos h2, if_pos (Or.inl h2), show (2 : Int32) = Int32.ofNat 2 from rfl, sh_nImul, sh_nImul, Nat.mul_assoc]
    · rw [if_neg h2]
      by_cases h3 : c = 37
      · rw [if_pos h3, if_pos (Or.inr h3), show (2 : Int32) = Int32.ofNat 2 from rfl, sh_nImul, sh_nImul, Nat.mul_assoc]
      · rw [if_neg h3, if_neg (fun r => r.elim h2 h3)]
theorem se_pc_le {c : Int32} {b : Nat} (h1 : 1 ≤ b) (h2 : b ≤ 64) : b ≤ sh_pc c b ∧ sh_pc c b ≤ 8192 := by
  have h3 : b ≤ b * b := Nat.le_mul_of_pos_left b h1
  have h4 : b * b ≤ 64 * 64 := Nat.mul_le_mul h2 h2
  unfold sh_pc
  split
  · omega
  · split <;> omega
section
variable {N : Nat} {K : Nat → Int32} {P V : Nat → Nat} {A C : Nat → Nat → Int32} {p : Nat → Bool} {gs : sh_gL} {u z q B fr cl sp cw ifs cd kn : Nat} {mc mm : sh_X}
/-- what the class does behind the settling -/
noncomputable def se_tc (t0 : Nat) (c : Int32) (z : Nat) (y0 : Int32) (m : sh_X) : Option (Option Unit × sh_X) := sh_bc (sf_108 (Int32.ofNat z) m) fun r3 => sh_bc (sf_108 (Int32.ofNat (z + 1)) m) fun r4 => if r3 = r4 then if sf_176 c y0 = true then sf_171_166 (Int32.ofNat t0) c (Int32.ofNat z) (Int32.ofNat (z + 1)) y0 m else sf_171_157 (Int32.ofNat t0) c (Int32.ofNat z) (Int32.ofNat (z + 1)) y0 m else sf_171_157 (Int32.ofNat t0) c (Int32.ofNat z) (Int32.ofNat (z + 1)) y0 m
/-- both sides of a sign have a type -/
theorem se_b2 {e t0 k1 b1 n1 k2 b2 n2 tp : Nat} {c : Int32} {v1 v2 : Nat → Int64} {x5 : Int64} (hN : N ≤ 4000) (hg : sh_sg c) (h : se_c N K P V C gs u (z + 2) q B fr cl sp cw ifs cd kn mc) (hz : z + 2 ≤ 2048) (h1 : se_T p mc gs u z k1 b1 n1 v1) (h2 : se_T p mc gs u (z + 1) k2 b2 n2 v2) (hsp : sp ≤ 3000) (hgl : gs.length + 14 * (3000 - sp) ≤ 60000) (hu : 4 * u + 5 * (3000 - sp) ≤ 32000)
    (hw : sh_We N K P V mm) (h42 : mm.I 66 42 = Int32.ofNat sp) (hR : se_R mm k2 b2 n2 tp v2) (he : e < 9000) (h73 : mm.I 73 e = Int32.ofNat t0) (ht : t0 ≤ N) (hx5 : n1 = 0 → x5 = v1 0) :
    se_bad N P mc mm (se_tc t0 c z (Int32.ofNat (sh_te k1 b1 n1)) mc) (sf_303_219 (Int32.ofNat e) x5 c (Int32.ofNat k1) (Int32.ofNat b1) (Int32.ofNat n1) (sf_274 c) mm) ∨
    ∃ e' u2 mc2 mm2 k3 b3 v3 sp2, se_tc t0 c z (Int32.ofNat (sh_te k1 b1 n1)) mc = some (some (), mc2) ∧ sf_303_219 (Int32.ofNat e) x5 c (Int32.ofNat k1) (Int32.ofNat b1) (Int32.ofNat n1) (sf_274 c) mm = some (true, mm2) ∧ se_c N K P V C (e' ++ gs) u2 (z + 1) q B fr cl sp2 cw ifs cd kn mc2 ∧ se_F u z q fr cl mc mc2 ∧ se_T p mc2 (e' ++ gs) u2 z k3 b3 0 v3 ∧ mc2.I 41 13 = mc.I 41 13 ∧ sh_Rr mm mm2 ∧ se_R mm2 k3 b3 0 tp v3 ∧ mm2.I 66 42 = Int32.ofNat sp2 ∧ u ≤ u2 ∧ sp + 1 ≤ sp2 ∧ sp2 ≤ 3000 ∧ (e' ++ gs).length + 14 * (3000 - sp2) ≤ gs.length + 14 * (3000 - sp) ∧ 4 * u2 + 5 * (3000 - sp2) ≤ 4 * u + 5 * (3000 - sp) := by
  have k1l := h1.1.k2
  have k2l := h2.1.k2
  have n1l := h1.1.n2
  have n2l := h2.1.n2
  have b1l := h1.1.b2
  have b2l := h2.1.b2
  have b11 := h1.1.b1
  obtain ⟨lv8, lv⟩ := se_lev hg
  have s1 := (se_slot h.cz (by omega : z < z + 2) hz)
  have s2 := (se_slot h.cz (by omega : z + 1 < z + 2) hz)
  have tt := sh_te_I h1.1 h2.1
  -- good on both sides
  have tc0 : se_tc t0 c z (Int32.ofNat (sh_te k1 b1 n1)) mc = if (k1 = k2 ∧ b1 = b2 ∧ n1 = n2) then if sf_176 c (Int32.ofNat (sh_te k1 b1 n1)) = true then sf_171_166 (Int32.ofNat t0) c (Int32.ofNat z) (Int32.ofNat (z + 1)) (Int32.ofNat (sh_te k1 b1 n1)) mc else sf_171_157 (Int32.ofNat t0) c (Int32.ofNat z) (Int32.ofNat (z + 1)) (Int32.ofNat (sh_te k1 b1 n1)) mc else sf_171_157 (Int32.ofNat t0) c (Int32.ofNat z) (Int32.ofNat (z + 1)) (Int32.ofNat (sh_te k1 b1 n1)) mc := by
    unfold se_tc
    rw [s1.1, sh_bc_some, s2.1, sh_bc_some, h1.2.1, h2.2.1]
    by_cases q : k1 = k2 ∧ b1 = b2 ∧ n1 = n2
    · rw [if_pos (tt.mpr q), if_pos q]
    · rw [if_neg (fun r => q (tt.mp r)), if_neg q]
  have f157 : sf_171_157 (Int32.ofNat t0) c (Int32.ofNat z) (Int32.ofNat (z + 1)) (Int32.ofNat (sh_te k1 b1 n1)) mc = some (none, sh_flt 4 (Int32.ofNat (P t0)) mc) := by
    unfold sf_171_157
    rw [se_fail hN h ht]
    rfl
  have f303 : sf_303_303 (Int32.ofNat e) x5 c (Int32.ofNat k1) (Int32.ofNat b1) mm = some (false, sh_mft 4 (Int32.ofNat (P t0)) mm) := by
    unfold sf_303_303 sf_303_304
    rw [if_neg (by decide), if_pos (sh_okn' he (by omega)), sh_nIc (by omega), h73, if_pos (sh_okn' (by omega) (by omega)), sh_nIc (by omega), hw.at ht, sh_252, sh_bn_some]
  have suit : sf_176 c (Int32.ofNat (sh_te k1 b1 n1)) = true ↔ n1 = 0 ∧ ((c = 38 ∨ c = 94 ∨ c = 124 ∨ c = 8509 ∨ c = 15677) ∨ (c = 9766 ∨ c = 31868) ∧ k1 = 0 ∨ ¬ (c = 38 ∨ c = 94 ∨ c = 124 ∨ c = 8509 ∨ c = 15677) ∧ ¬ (c = 9766 ∨ c = 31868) ∧ ¬ k1 = 0) := by
    unfold sf_176
    rw [sh_123 h1.1, sh_113 h1.1]
    have e257 : Int32.ofNat (sh_te k1 b1 n1) = 257 ↔ k1 = 0 ∧ n1 = 0 := by
      have := sh_te_I h1.1 (⟨Or.inl ⟨rfl, rfl⟩, by omega⟩ : sh_typ 0 1 0)
      constructor
      · intro r; have := this.mp r; omega
      · intro r; exact this.mpr ⟨r.1, by have := h1.1; unfold sh_typ at this; omega, r.2⟩
    by_cases g2 : c = 38 ∨ c = 94 ∨ c = 124 ∨ c = 8509 ∨ c = 15677
    · rw [if_pos g2]
      by_cases hn : 0 < n1
      · rw [if_pos (decide_eq_true hn)]
        exact ⟨fun r => absurd r (by decide), fun r => by omega⟩
      · rw [if_neg (by rw [decide_eq_false hn]; decide)]
        exact ⟨fun _ => ⟨by omega, Or.inl g2⟩, fun _ => rfl⟩
    · rw [if_neg g2]
      by_cases g1 : c = 9766 ∨ c = 31868
      · rw [if_pos g1]
        by_cases hq : Int32.ofNat (sh_te k1 b1 n1) = 257
        · rw [if_pos hq]
          exact ⟨fun _ => ⟨(e257.mp hq).2, Or.inr (Or.inl ⟨g1, (e257.mp hq).1⟩)⟩, fun _ => rfl⟩
        · rw [if_neg hq]
          refine ⟨fun r => absurd r (by decide), fun r => ?_⟩
          rcases r with ⟨r1, r2 | r2 | r2⟩
          · exact absurd r2 g2
          · exact absurd (e257.mpr ⟨r2.2, r1⟩) hq
          · exact absurd g1 r2.2.1
      · rw [if_neg g1, decide_eq_true_eq]
        constructor
        · intro r; exact ⟨r.2, Or.inr (Or.inr ⟨g2, g1, r.1⟩)⟩
        · intro r
          rcases r with ⟨r1, r2 | r2 | r2⟩
          · exact absurd r2 g2
          · exact absurd r2.1 g1
          · exact ⟨r2.2.2, r1⟩
  have k10 : Int32.ofNat k1 = 0 ↔ k1 = 0 := sh_kI k1l (c := 0) (by omega)
  -- the model: which way
  have mod : sf_303_219 (Int32.ofNat e) x5 c (Int32.ofNat k1) (Int32.ofNat b1) (Int32.ofNat n1) (sf_274 c) mm = if (k1 = k2 ∧ b1 = b2 ∧ n1 = 0 ∧ n2 = 0) ∧ ((c = 38 ∨ c = 94 ∨ c = 124 ∨ c = 8509 ∨ c = 15677) ∨ (c = 9766 ∨ c = 31868) ∧ k1 = 0 ∨ ¬ (c = 38 ∨ c = 94 ∨ c = 124 ∨ c = 8509 ∨ c = 15677) ∧ ¬ (c = 9766 ∨ c = 31868) ∧ ¬ k1 = 0) then sf_303_299 (Int32.ofNat e) x5 c (Int32.ofNat k1) (Int32.ofNat b1) mm else sf_303_303 (Int32.ofNat e) x5 c (Int32.ofNat k1) (Int32.ofNat b1) mm := by
    have al : sf_303_219 (Int32.ofNat e) x5 c (Int32.ofNat k1) (Int32.ofNat b1) (Int32.ofNat n1) (sf_274 c) mm = sf_303_254 (Int32.ofNat e) x5 c (Int32.ofNat k1) (Int32.ofNat b1) (sf_274 c) (decide (k1 = k2 ∧ b1 = b2 ∧ n1 = 0 ∧ n2 = 0)) mm := by
      unfold sf_303_219 sf_303_253
      rw [hR.1, hR.2.1 (by omega), hR.2.2.1]
      by_cases q1 : k1 = k2
      · rw [if_pos (by rw [q1])]
        by_cases q2 : b1 = b2
        · rw [if_pos (by rw [q2])]
          by_cases q3 : n1 = 0
          · rw [if_pos (show Int32.ofNat n1 = 0 by rw [q3]; rfl)]
            by_cases q4 : n2 = 0
            · rw [if_pos (show Int32.ofNat n2 = 0 by rw [q4]; rfl), decide_eq_true ⟨q1, q2, q3, q4⟩]
            · rw [if_neg (show ¬ Int32.ofNat n2 = 0 from fun r => q4 ((sh_nIeq (b := 0) (by omega) (by omega)).mp r)), decide_eq_false (fun r => q4 r.2.2.2)]
          · rw [if_neg (show ¬ Int32.ofNat n1 = 0 from fun r => q3 ((sh_nIeq (b := 0) (by omega) (by omega)).mp r)), decide_eq_false (fun r => q3 r.2.2.1)]
        · rw [if_neg (fun r => q2 ((sh_nIeq (by omega) (by omega)).mp r)), decide_eq_false (fun r => q2 r.2.1)]
      · rw [if_neg (fun r => q1 ((sh_nIeq (by omega) (by omega)).mp r)), decide_eq_false (fun r => q1 r.1)]
    rw [al]
    unfold sf_303_254 sf_303_266
    by_cases qa : k1 = k2 ∧ b1 = b2 ∧ n1 = 0 ∧ n2 = 0
    · rw [decide_eq_true qa, if_pos rfl, if_pos rfl]
      by_cases q0 : k1 = 0
      · rw [if_pos (k10.mpr q0)]
        rcases lv with ⟨l1, l2⟩ | ⟨l1, l2, l3⟩ | ⟨l1, l2, l3, l4⟩
        · rw [if_pos l2, if_neg (by decide), if_pos ⟨qa, Or.inr (Or.inl ⟨l1, q0⟩)⟩]
        · rw [if_neg l2, if_pos l3, if_pos ⟨qa, Or.inl l1⟩]
        · rw [if_neg l3, if_neg l4, if_neg (by decide), if_neg]
          rintro ⟨_, r | r | r⟩
          · exact l1 r
          · exact l2 r.1
          · exact r.2.2 q0
      · rw [if_neg (fun r => q0 (k10.mp r))]
        rcases lv with ⟨l1, l2⟩ | ⟨l1, l2, l3⟩ | ⟨l1, l2, l3, l4⟩
        · rw [if_pos l2, if_pos rfl, if_neg]
          rintro ⟨_, r | r | r⟩
          · revert r
            rcases l1 with rfl | rfl <;> decide
          · exact q0 r.2
          · exact r.2.1 l1
        · rw [if_neg l2, if_pos l3, if_pos ⟨qa, Or.inl l1⟩]
        · rw [if_neg l3, if_neg l4, if_pos rfl, if_pos ⟨qa, Or.inr (Or.inr ⟨l1, l2, q0⟩)⟩]
    · rw [decide_eq_false qa, if_neg (fun r => qa (And.left r))]
      by_cases q0 : Int32.ofNat k1 = 0
      · rw [if_pos q0, if_neg (by decide)]
      · rw [if_neg q0, if_neg (by decide)]
  by_cases good : (k1 = k2 ∧ b1 = b2 ∧ n1 = 0 ∧ n2 = 0) ∧ ((c = 38 ∨ c = 94 ∨ c = 124 ∨ c = 8509 ∨ c = 15677) ∨ (c = 9766 ∨ c = 31868) ∧ k1 = 0 ∨ ¬ (c = 38 ∨ c = 94 ∨ c = 124 ∨ c = 8509 ∨ c = 15677) ∧ ¬ (c = 9766 ∨ c = 31868) ∧ ¬ k1 = 0)
  · rw [if_pos good] at mod
    obtain ⟨⟨rfl, rfl, rfl, rfl⟩, gd⟩ := good
    rw [if_pos ⟨rfl, rfl, rfl⟩, if_pos (suit.mpr ⟨rfl, gd⟩)] at tc0
    have pc := se_pc_le (c := c) b11 b1l
    have md1 : sf_303_299 (Int32.ofNat e) x5 c (Int32.ofNat k1) (Int32.ofNat b1) mm = sf_303_369 (Int32.ofNat e) x5 c (Int32.ofNat k1) (Int32.ofNat b1) (Int32.ofNat (sh_pc c b1)) mm := by
      unfold sf_303_299 sf_303_304 sf_303_357 sh_pc
      rw [if_pos rfl]
      by_cases c1 : c = 42
      · rw [if_pos c1, if_pos c1, sh_nImul]
      · rw [if_neg c1, if_neg c1]
        by_cases c2 : c = 47
        · rw [if_pos c2, if_pos (Or.inl c2), show (2 : Int32) = Int32.ofNat 2 from rfl, sh_nImul, sh_nImul, Nat.mul_assoc]
        · rw [if_neg c2]
          by_cases c3 : c = 37
          · rw [if_pos c3, if_pos (Or.inr c3), show (2 : Int32) = Int32.ofNat 2 from rfl, sh_nImul, sh_nImul, Nat.mul_assoc]
          · rw [if_neg c3, if_neg (fun r => r.elim c2 c3)]
    have J0 := hR.2.2.2.1 rfl
    obtain ⟨y1, y2, w1, y3, y4⟩ := h1
    obtain ⟨y1', y2', w2, y3', y4'⟩ := h2
    obtain ⟨F1, f1, g1⟩ := y4.one
    obtain ⟨F2, f2, g2⟩ := y4'.one
    have kb : k1 = 0 → sh_sb c := fun q => se_sgb (by
      rcases gd with r | r | r
      · exact Or.inr (Or.inr r)
      · rcases r.1 with r | r
        · exact Or.inl r
        · exact Or.inr (Or.inl r)
      · exact absurd q r.2.2)
    obtain ⟨mm1, rv, r1, r2, r3⟩ := sh_305 hg y1.kd kb g1 g2 (m := mm)
    obtain ⟨q1, q2, q3, q4, q5, q6⟩ := r2
    have md2 : sf_303_219 (Int32.ofNat e) x5 c (Int32.ofNat k1) (Int32.ofNat b1) (Int32.ofNat 0) (sf_274 c) mm = (sh_bn (sf_292 (Int32.ofNat (sh_pc c b1)) (Int32.ofNat t0) mm1) fun r m => some (r, m)) := by
      rw [mod, md1]
      unfold sf_303_369
      rw [J0, hx5 rfl, r1, sh_bn_some, if_pos (sh_okn' he (by omega)), sh_nIc (by omega), q1.I 73 (by omega), h73]
    have cl1 : se_tc t0 c z (Int32.ofNat (sh_te k1 b1 0)) mc = sh_bt (sf_90 (Int32.ofNat (sh_pc c b1)) (Int32.ofNat t0) mc) (fun m => (none, m)) fun _ m13 => sh_bc (sf_117 (Int32.ofNat z) m13) fun r4 => sh_bc (sf_117 (Int32.ofNat (z + 1)) m13) fun r5 => sh_bn (sf_178 c r4 r5 (Int32.ofNat (sh_te k1 b1 0)) m13) fun r6 m16 => if sf_191 c = true then sf_171_226 r6 2 257 m16 else sf_171_226 r6 2 (Int32.ofNat (sh_te k1 b1 0)) m16 := by
      rw [tc0]
      unfold sf_171_166
      rw [sh_94 y1, se_177 b1l]
    rcases se_pay (x := sh_pc c b1) (i := t0) hN h (q1.we hw) (q5.trans h42) ht (by omega) hsp with bad | ⟨p1, p2, p3⟩
    · left
      obtain ⟨kk, ttt, x, y, s1, s2, s3, s4, s5⟩ := bad
      exact ⟨kk, ttt, x, y, s1, by rw [cl1, s2]; rfl, s3, by rw [md2, s4]; rfl, q1.U.trans s5⟩
    · right
      have c3 := h.wsp (sp2 := sp + sh_pc c b1)
      have f3 : se_F u (z + 2) q fr cl mc (mc.T, sh_u2 mc.I 41 14 (Int32.ofNat (sp + sh_pc c b1)), mc.J, mc.s) := se_F.wI (by omega) (by omega) (by omega) (by omega) (by omega) (by omega)
      have s4a := (se_slot c3.cz (by omega : z < z + 2) hz).2.2.2
      have s4b := (se_slot c3.cz (by omega : z + 1 < z + 2) hz).2.2.2
      have f1' : sh_val (mc.T, sh_u2 mc.I 41 14 (Int32.ofNat (sp + sh_pc c b1)), mc.J, mc.s) gs u w1 b1 F1 := f1.keep (e := []) (Nat.le_refl _) f3.po
      have f2' : sh_val (mc.T, sh_u2 mc.I 41 14 (Int32.ofNat (sp + sh_pc c b1)), mc.J, mc.s) gs u w2 b1 F2 := f2.keep (e := []) (Nat.le_refl _) f3.po
      obtain ⟨S, hS, rr⟩ := sh_178 (c := c) c3.rs c3.h46 (sh_94 y1) f1' f2' b11 b1l (fun q => by rw [sh_114 y1, decide_eq_true_eq] at q; have := y1; unfold sh_typ at this; omega) (by omega) (by omega)
      rw [sh_114 y1] at rr
      have ty3 : sh_typ (sh_k2 c k1) (sh_n2 c b1) 0 := by
        unfold sh_k2 sh_n2
        by_cases q : sh_tst c = true
        · rw [if_pos q, if_pos q]; exact ⟨Or.inl ⟨rfl, rfl⟩, by omega⟩
        · rw [if_neg q, if_neg q]; exact y1
      have sz : (if sh_tst c = true then 1 else b1) = sh_n2 c b1 := rfl
      rw [sz] at rr
      obtain ⟨e4, u4, w4, m5, m3, t1, t2, t3, t4, t5, t6, t7, t8, t9, t10, t11⟩ := se_ropr (k := 2) c3 (by omega) hz (Int32.ofNat (sh_te (sh_k2 c k1) (sh_n2 c b1) 0)) rr
      have z21 : z + 2 - 2 = z := by omega
      rw [z21] at t3 t4 t5 t6
      have f30 : se_F u z q fr cl mc (mc.T, sh_u2 mc.I 41 14 (Int32.ofNat (sp + sh_pc c b1)), mc.J, mc.s) := f3.less (Nat.le_refl _) (by omega) (Nat.le_refl _) (Nat.le_refl _) (Nat.le_refl _)
      refine ⟨e4, u4, m3, (mm1.T, sh_u2 mm1.I 66 42 (Int32.ofNat (sp + sh_pc c b1)), mm1.J, mm1.s), sh_k2 c k1, sh_n2 c b1, fun _ => rv, sp + sh_pc c b1, ?_, by rw [md2, p3]; rfl, t3, f30.trans t4 (Nat.le_refl _) (Nat.le_refl _) (Nat.le_refl _) (Nat.le_refl _) (Nat.le_refl _), ⟨ty3, t5, w4, t6, se_V.of1 t7 r3⟩, ?_, q1.trans (sh_Rr.wi (by omega)), ⟨by rw [se_In (by omega)]; exact q2, fun _ => by rw [se_In (by omega)]; exact q3, by rw [se_In (by omega)]; exact q4.trans hR.2.2.1, fun _ => q6, fun q => absurd q (by omega)⟩, se_Is, t8, by omega, p1, by rw [List.length_append]; omega, by omega⟩
      · rw [cl1, p2]
        show (sh_bc (sf_117 (Int32.ofNat z) _) _) = _
        rw [s4a, sh_bc_some, s4b, sh_bc_some]
        have e1 : sh_X.I (mc.T, sh_u2 mc.I 41 14 (Int32.ofNat (sp + sh_pc c b1)), mc.J, mc.s) 50 z = Int32.ofNat w1 := by rw [se_Ic (by omega)]; exact y3
        have e2 : sh_X.I (mc.T, sh_u2 mc.I 41 14 (Int32.ofNat (sp + sh_pc c b1)), mc.J, mc.s) 50 (z + 1) = Int32.ofNat w2 := by rw [se_Ic (by omega)]; exact y3'
        rw [e1, e2, t1, sh_bn_some, se_191 hg]
        unfold sf_171_226
        by_cases q : sh_tst c = true
        · have : Int32.ofNat (sh_te (sh_k2 c k1) (sh_n2 c b1) 0) = 257 := by
            unfold sh_k2 sh_n2
            rw [if_pos q, if_pos q]
            decide
          rw [this] at t2
          rw [if_pos q, show (2 : Int32) = Int32.ofNat 2 from rfl, t2]
          rfl
        · have : sh_te (sh_k2 c k1) (sh_n2 c b1) 0 = sh_te k1 b1 0 := by
            unfold sh_k2 sh_n2
            rw [if_neg q, if_neg q]
          rw [this] at t2
          rw [if_neg q, show (2 : Int32) = Int32.ofNat 2 from rfl, t2]
          rfl
      · rw [t11, se_In (by omega)]
  · left
    rw [if_neg good, f303] at mod
    refine ⟨4, t0, mc, mm, ht, ?_, (se_F.refl (u := 0) (z := 0) (q := 0) (fr := 0) (cl := 0) mc).W h.rs, mod, se_U.refl mm⟩
    rw [tc0, f157]
    by_cases q : k1 = k2 ∧ b1 = b2 ∧ n1 = n2
    · rw [if_pos q]
      rw [if_neg]
      intro r
      have := suit.mp r
      exact good ⟨⟨q.1, q.2.1, this.1, by omega⟩, this.2⟩
    · rw [if_neg q]
end
