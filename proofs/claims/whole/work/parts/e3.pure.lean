/-! EVALUATION: << and >> -/
section
variable {N : Nat} {K : Nat → Int32} {P V : Nat → Nat} {A C : Nat → Nat → Int32} {p : Nat → Bool} {gs : sh_gL} {u z q B fr cl sp cw ifs cd kn : Nat} {mc mm : sh_X}
/-- the first one has a type -/
theorem se_sh2 {e t0 t2 k1 b1 n1 k2 b2 n2 tp : Nat} {c : Int32} {v1 v2 : Nat → Int64} {mm0 : sh_X} (hN : N ≤ 4000) (hc : c = 15420 ∨ c = 15934) (h : se_c N K P V C gs u (z + 2) q B fr cl sp cw ifs cd kn mc) (hz : z + 2 ≤ 2048) (h1 : se_T p mc gs u z k1 b1 n1 v1) (h2 : se_D p mc gs u (z + 1) t2 k2 b2 n2 v2) (hsp : sp ≤ 3000) (hgl : gs.length + 14 * (3000 - sp) ≤ 60000) (hu : 4 * u + 5 * (3000 - sp) ≤ 32000)
    (hw : sh_We N K P V mm) (h42 : mm.I 66 42 = Int32.ofNat sp) (hR0 : se_R mm0 k2 b2 n2 tp v2) (hR : se_R mm k1 b1 n1 tp v1) (he : e < 9000) (h73 : mm.I 73 e = Int32.ofNat t0) (ht : t0 ≤ N) (h68 : mm.I 68 t0 = c) :
    se_Bo N K P V C p gs u z q B fr cl sp cw ifs cd kn tp mc mm
      (sh_bc (sf_108 (Int32.ofNat z) mc) fun r2 => sh_bc (sf_108 (Int32.ofNat (z + 1)) mc) fun r3 => if r3 = 0 then sf_172_60 (Int32.ofNat t0) (decide (c = 15420)) (Int32.ofNat z) (Int32.ofNat (z + 1)) r2 r3 true mc else sf_172_60 (Int32.ofNat t0) (decide (c = 15420)) (Int32.ofNat z) (Int32.ofNat (z + 1)) r2 r3 false mc)
      (if mm.I 66 43 = 0 then sf_304_118 (Int32.ofNat e) mm else if (decide (k2 = 3)) = true then if mm0.J 66 46 < 0 then sf_304_118 (Int32.ofNat e) mm else sf_304_95 (Int32.ofNat e) (decide (k2 = 3)) (mm0.I 66 43) (mm0.I 66 45) (mm0.I 66 44) (mm0.J 66 46) mm else sf_304_95 (Int32.ofNat e) (decide (k2 = 3)) (mm0.I 66 43) (mm0.I 66 45) (mm0.I 66 44) (mm0.J 66 46) mm) := by
  have k1l := h1.1.k2
  have n1l := h1.1.n2
  have b1l := h1.1.b2
  have b11 := h1.1.b1
  have s1 := (se_slot h.cz (by omega : z < z + 2) hz)
  have s2 := (se_slot h.cz (by omega : z + 1 < z + 2) hz)
  have k10 : Int32.ofNat k1 = 0 ↔ k1 = 0 := sh_kI k1l (c := 0) (by omega)
  have f118 : sf_304_118 (Int32.ofNat e) mm = some (false, sh_mft 4 (Int32.ofNat (P t0)) mm) := by
    unfold sf_304_118
    rw [if_pos (sh_okn' he (by omega)), sh_nIc (by omega), h73, if_pos (sh_okn' (by omega) (by omega)), sh_nIc (by omega), hw.at ht, sh_252, sh_bn_some]
  have f125 : ∀ (x6 : Int32) (x7 : Bool), sf_172_125 (Int32.ofNat t0) (decide (c = 15420)) (Int32.ofNat z) (Int32.ofNat (z + 1)) (Int32.ofNat (sh_te k1 b1 n1)) x6 x7 mc = some (none, sh_flt 4 (Int32.ofNat (P t0)) mc) := by
    intro x6 x7
    unfold sf_172_125
    rw [se_fail hN h ht]
    rfl
  have bad4 : ∀ {rc : Option (Option Unit × sh_X)} {rm : Option (Bool × sh_X)}, rc = some (none, sh_flt 4 (Int32.ofNat (P t0)) mc) → rm = some (false, sh_mft 4 (Int32.ofNat (P t0)) mm) → se_Bo N K P V C p gs u z q B fr cl sp cw ifs cd kn tp mc mm rc rm := fun r1 r2 => Or.inl ⟨4, t0, mc, mm, ht, r1, (se_F.refl (u := 0) (z := 0) (q := 0) (fr := 0) (cl := 0) mc).W h.rs, r2, se_U.refl mm⟩
  -- is the other one such that it may stand there?
  obtain ⟨ls, hls⟩ : ∃ ls : Bool, ls = decide (k2 = 3) := ⟨_, rfl⟩
  obtain ⟨ok, hok⟩ : ∃ ok : Bool, ok = decide (k2 = 3 ∧ ¬ v2 0 < 0 ∨ k2 = 1 ∧ n2 = 0) := ⟨_, rfl⟩
  have okF : ¬ (k2 = 3 ∧ ¬ v2 0 < 0 ∨ k2 = 1 ∧ n2 = 0) → ok = false := fun r => by rw [hok]; exact decide_eq_false r
  have okT : (k2 = 3 ∧ ¬ v2 0 < 0 ∨ k2 = 1 ∧ n2 = 0) → ok = true := fun r => by rw [hok]; exact decide_eq_true r
  have okE : ok = true → (k2 = 3 ∧ ¬ v2 0 < 0 ∨ k2 = 1 ∧ n2 = 0) := fun r => by rw [hok, decide_eq_true_eq] at r; exact r
  have cls : (sh_bc (sf_108 (Int32.ofNat z) mc) fun r2 => sh_bc (sf_108 (Int32.ofNat (z + 1)) mc) fun r3 => if r3 = 0 then sf_172_60 (Int32.ofNat t0) (decide (c = 15420)) (Int32.ofNat z) (Int32.ofNat (z + 1)) r2 r3 true mc else sf_172_60 (Int32.ofNat t0) (decide (c = 15420)) (Int32.ofNat z) (Int32.ofNat (z + 1)) r2 r3 false mc) = sf_172_110 (Int32.ofNat t0) (decide (c = 15420)) (Int32.ofNat z) (Int32.ofNat (z + 1)) (Int32.ofNat (sh_te k1 b1 n1)) (mc.I 49 (z + 1)) ls ok mc := by
    rw [s1.1, sh_bc_some, s2.1, sh_bc_some, h1.2.1]
    unfold sf_172_60 sf_172_109
    rcases h2.lo with ⟨rfl, rfl, hL⟩ | ⟨hk2, hT⟩
    · rw [if_pos hL.1, if_pos rfl, s2.2.2.1, sh_bc_some, hL.2.2.1, hls, decide_eq_true rfl]
      by_cases hv : v2 0 < 0
      · rw [if_pos hv, okF (fun r => by
          rcases r with r | r
          · exact absurd hv r.2
          · exact absurd r.1 (by decide))]
      · rw [if_neg hv, okT (Or.inl ⟨rfl, hv⟩)]
    · rw [hT.2.1, if_neg (sh_te_0 hT.1), if_neg (by decide), sh_113 hT.1, sh_114 hT.1, hls, decide_eq_false (by omega : ¬ k2 = 3)]
      by_cases q1 : ¬ k2 = 0 ∧ n2 = 0
      · rw [if_pos (decide_eq_true q1)]
        by_cases q2 : k2 = 2
        · rw [if_pos (decide_eq_true q2), okF (fun r => by
            rcases r with r | r
            · have := r.1; omega
            · have := r.1; omega)]
        · rw [if_neg (by rw [decide_eq_false q2]; decide), okT (Or.inr ⟨by omega, q1.2⟩)]
      · rw [if_neg (by rw [decide_eq_false q1]; decide), okF (fun r => by
          rcases r with r | r
          · have := r.1; omega
          · have := r.1; have := r.2; omega)]
  have J2 : ok = true → mm0.J 66 46 = v2 0 := fun q => by
    have q := okE q
    refine hR0.2.2.2.1 ?_
    rcases h2.lo with ⟨k3, n0, hL⟩ | ⟨hk2, hT⟩
    · exact n0
    · rcases q with w | w
      · have := w.1; omega
      · exact w.2
  have mdl : (if mm.I 66 43 = 0 then sf_304_118 (Int32.ofNat e) mm else if (decide (k2 = 3)) = true then if mm0.J 66 46 < 0 then sf_304_118 (Int32.ofNat e) mm else sf_304_95 (Int32.ofNat e) (decide (k2 = 3)) (mm0.I 66 43) (mm0.I 66 45) (mm0.I 66 44) (mm0.J 66 46) mm else sf_304_95 (Int32.ofNat e) (decide (k2 = 3)) (mm0.I 66 43) (mm0.I 66 45) (mm0.I 66 44) (mm0.J 66 46) mm) = if ok = true ∧ ¬ k1 = 0 ∧ n1 = 0 then sf_304_135 (Int32.ofNat e) ls (mm0.I 66 44) (mm0.J 66 46) mm else some (false, sh_mft 4 (Int32.ofNat (P t0)) mm) := by
    unfold sf_304_95
    rw [f118, hR.1, hR.2.2.1, ← hls]
    by_cases q0 : k1 = 0
    · rw [if_pos (k10.mpr q0), if_neg (fun r => r.2.1 q0)]
    · rw [if_neg (fun r => q0 (k10.mp r))]
      have nn : 0 < Int32.ofNat n1 ↔ 0 < n1 := se_0lt (by omega)
      rcases h2.lo with ⟨rfl, rfl, hL⟩ | ⟨hk2, hT⟩
      · have l1 : ls = true := by rw [hls]; rfl
        rw [l1, if_pos rfl, if_pos rfl, hR0.2.2.2.1 rfl]
        by_cases hv : v2 0 < 0
        · rw [if_pos hv, if_neg]
          intro r
          have := r.1
          rw [hok, decide_eq_true_eq] at this
          rcases this with w | w
          · exact w.2 hv
          · exact absurd w.1 (by decide)
        · rw [if_neg hv]
          have o1 : ok = true := by rw [hok, decide_eq_true_eq]; exact Or.inl ⟨rfl, hv⟩
          by_cases hn : 0 < n1
          · rw [if_pos (nn.mpr hn), if_neg (by omega)]
          · rw [if_neg (fun r => hn (nn.mp r)), if_pos ⟨o1, q0, by omega⟩]
      · have l1 : ls = false := by rw [hls, decide_eq_false (by omega)]
        have n2l := hT.1.n2
        have k21 : Int32.ofNat k2 = 1 ↔ k2 = 1 := sh_kI hk2 (c := 1) (by omega)
        have nn2 : 0 < Int32.ofNat n2 ↔ 0 < n2 := se_0lt (by omega)
        have ff : ¬ false = true := by decide
        rw [l1, if_neg ff, if_neg ff, hR0.1, hR0.2.2.1]
        by_cases hn : 0 < n1
        · rw [if_pos (nn.mpr hn), if_neg (by omega)]
        · rw [if_neg (fun r => hn (nn.mp r))]
          by_cases h21 : k2 = 1
          · rw [if_pos (k21.mpr h21)]
            by_cases hn2 : 0 < n2
            · rw [if_pos (nn2.mpr hn2), if_neg]
              intro r
              rcases okE r.1 with w | w
              · have := w.1; omega
              · have := w.2; omega
            · rw [if_neg (fun r => hn2 (nn2.mp r)), if_pos]
              exact ⟨okT (Or.inr ⟨h21, by omega⟩), q0, by omega⟩
          · rw [if_neg (fun r => h21 (k21.mp r)), if_neg]
            intro r
            rcases okE r.1 with w | w
            · have := w.1; omega
            · have := w.1; omega
  rw [cls, mdl]
  by_cases good : ok = true ∧ ¬ k1 = 0 ∧ n1 = 0
  · rw [if_pos good]
    obtain ⟨g1, g2, rfl⟩ := good
    have kk : k1 = 1 ∨ k1 = 2 := by omega
    have J0 := hR.2.2.2.1 rfl
    obtain ⟨y1, y2, w1, y3, y4⟩ := h1
    obtain ⟨F1, f1, gt1⟩ := y4.one
    have j2 := J2 g1
    rw [j2]
    -- what is paid
    obtain ⟨cost, hcost, hc1, hc2, hcm⟩ : ∃ cost, (if ls = true then Int32.ofNat b1 else Int32.ofNat b1 * mm0.I 66 44) = Int32.ofNat cost ∧ cost = (if k2 = 3 then b1 else b1 * b2) ∧ b1 ≤ cost ∧ cost ≤ 4096 := by
      rcases h2.lo with ⟨rfl, rfl, hL⟩ | ⟨hk2, hT⟩
      · exact ⟨b1, by rw [hls, if_pos (decide_eq_true rfl)], by rw [if_pos rfl], Nat.le_refl _, by omega⟩
      · have b2l := hT.1.b2
        have b21 := hT.1.b1
        refine ⟨b1 * b2, ?_, by rw [if_neg (by omega)], Nat.le_mul_of_pos_right b1 b21, Nat.le_trans (Nat.mul_le_mul b1l b2l) (by omega)⟩
        rw [hls, if_neg (by rw [decide_eq_false (by omega : ¬ k2 = 3)]; decide), hR0.2.1 (by omega), sh_nImul]
    obtain ⟨rv, r1, r2⟩ := sh_304s (x := v2 0) kk b11 b1l gt1 hR.1 (hR.2.1 (by omega)) J0 he h73 (by omega) hc h68 ls (mm0.I 66 44)
    rw [hcost] at r1
    have w0 : sh_Rr mm (mm.T, mm.I, sh_u2 mm.J 66 46 rv, mm.s) := sh_Rr.wj
    have md2 : sf_304_135 (Int32.ofNat e) ls (mm0.I 66 44) (v2 0) mm = (sh_bn (sf_292 (Int32.ofNat cost) (Int32.ofNat t0) (mm.T, mm.I, sh_u2 mm.J 66 46 rv, mm.s)) fun r m => some (r, m)) := by
      rw [r1]
      unfold sf_304_329
      rw [if_pos (sh_okn' he (by omega)), sh_nIc (by omega), h73]
    have b2w : ls = false → sf_94 (mc.I 49 (z + 1)) = Int32.ofNat b2 := fun q => by
      rcases h2.lo with ⟨rfl, rfl, hL⟩ | ⟨hk2, hT⟩
      · rw [hls] at q; exact absurd q (by decide)
      · rw [hT.2.1, sh_94 hT.1]
    have cl1 : sf_172_110 (Int32.ofNat t0) (decide (c = 15420)) (Int32.ofNat z) (Int32.ofNat (z + 1)) (Int32.ofNat (sh_te k1 b1 0)) (mc.I 49 (z + 1)) ls ok mc = sf_172_160 (Int32.ofNat t0) (decide (c = 15420)) (Int32.ofNat z) (Int32.ofNat (z + 1)) (Int32.ofNat (sh_te k1 b1 0)) (mc.I 49 (z + 1)) ls (Int32.ofNat b1) (Int32.ofNat cost) mc := by
      unfold sf_172_110
      rw [if_pos g1, sh_113 y1, if_pos (decide_eq_true ⟨g2, rfl⟩)]
      unfold sf_172_134
      rw [sh_94 y1]
      rcases h2.lo with ⟨rfl, rfl, hL⟩ | ⟨hk2, hT⟩
      · have l1 : ls = true := by rw [hls]; rfl
        rw [l1, if_pos rfl] at hcost ⊢
        rw [← hcost]
      · have l1 : ls = false := by rw [hls, decide_eq_false (by omega)]
        have e1 := b2w l1
        rw [l1, if_neg (by decide)] at hcost ⊢
        rw [e1, sh_nImul, hc1, if_neg (by omega)]
    rw [cl1, md2]
    rcases se_pay (x := cost) (i := t0) hN h (w0.we hw) h42 ht (by omega) hsp with bad | ⟨p1, p2, p3⟩
    · left
      obtain ⟨kq, ttt, x, y, x1, x2, x3, x4, x5⟩ := bad
      refine ⟨kq, ttt, x, y, x1, ?_, x3, by rw [x4]; rfl, w0.U.trans x5⟩
      unfold sf_172_160
      rw [x2]
      rfl
    · right
      have c3 := h.wsp (sp2 := sp + cost)
      have f3 : se_F u (z + 2) q fr cl mc (mc.T, sh_u2 mc.I 41 14 (Int32.ofNat (sp + cost)), mc.J, mc.s) := se_F.wI (by omega) (by omega) (by omega) (by omega) (by omega) (by omega)
      have s4a := (se_slot c3.cz (by omega : z < z + 2) hz).2.2.2
      have s3b := (se_slot c3.cz (by omega : z + 1 < z + 2) hz)
      have f1' : sh_val (mc.T, sh_u2 mc.I 41 14 (Int32.ofNat (sp + cost)), mc.J, mc.s) gs u w1 b1 F1 := f1.keep (e := []) (Nat.le_refl _) f3.po
      have e50 : sh_X.I (mc.T, sh_u2 mc.I 41 14 (Int32.ofNat (sp + cost)), mc.J, mc.s) 50 z = Int32.ofNat w1 := by rw [se_Ic (by omega)]; exact y3
      have u8 := h.rs.2.2.2.1
      -- the wire that fills
      obtain ⟨fw, fill, fl1, fl2, fl3, fl4⟩ : ∃ (fw : Nat) (fill : (Nat → Bool) → Bool), fw < gs.length ∧ (∀ p, sh_va p gs fw = fill p) ∧ fill p = (!decide (c = 15420) && decide (k1 = 2) && F1 (b1 - 1) p) ∧ sf_172_160 (Int32.ofNat t0) (decide (c = 15420)) (Int32.ofNat z) (Int32.ofNat (z + 1)) (Int32.ofNat (sh_te k1 b1 0)) (mc.I 49 (z + 1)) ls (Int32.ofNat b1) (Int32.ofNat cost) mc = sf_172_204 (decide (c = 15420)) (Int32.ofNat (z + 1)) (Int32.ofNat (sh_te k1 b1 0)) (mc.I 49 (z + 1)) ls (Int32.ofNat b1) (Int32.ofNat w1) (Int32.ofNat fw) (mc.T, sh_u2 mc.I 41 14 (Int32.ofNat (sp + cost)), mc.J, mc.s) := by
        have un : sf_172_160 (Int32.ofNat t0) (decide (c = 15420)) (Int32.ofNat z) (Int32.ofNat (z + 1)) (Int32.ofNat (sh_te k1 b1 0)) (mc.I 49 (z + 1)) ls (Int32.ofNat b1) (Int32.ofNat cost) mc = if (decide (c = 15420)) = true then sf_172_203 (decide (c = 15420)) (Int32.ofNat (z + 1)) (Int32.ofNat (sh_te k1 b1 0)) (mc.I 49 (z + 1)) ls (Int32.ofNat b1) (Int32.ofNat w1) (mc.T, sh_u2 mc.I 41 14 (Int32.ofNat (sp + cost)), mc.J, mc.s) else if sf_114 (Int32.ofNat (sh_te k1 b1 0)) = true then sh_bc (sf_103 ((Int32.ofNat w1 + Int32.ofNat b1) - 1) (mc.T, sh_u2 mc.I 41 14 (Int32.ofNat (sp + cost)), mc.J, mc.s)) fun r4 => sf_172_204 (decide (c = 15420)) (Int32.ofNat (z + 1)) (Int32.ofNat (sh_te k1 b1 0)) (mc.I 49 (z + 1)) ls (Int32.ofNat b1) (Int32.ofNat w1) r4 (mc.T, sh_u2 mc.I 41 14 (Int32.ofNat (sp + cost)), mc.J, mc.s) else sf_172_203 (decide (c = 15420)) (Int32.ofNat (z + 1)) (Int32.ofNat (sh_te k1 b1 0)) (mc.I 49 (z + 1)) ls (Int32.ofNat b1) (Int32.ofNat w1) (mc.T, sh_u2 mc.I 41 14 (Int32.ofNat (sp + cost)), mc.J, mc.s) := by
          unfold sf_172_160
          rw [p2]
          show (sh_bc (sf_117 (Int32.ofNat z) _) _) = _
          rw [s4a, sh_bc_some, e50]
        by_cases l : c = 15420
        · refine ⟨0, fun _ => false, by have := h.rs.1.1; omega, fun p => h.rs.1.v0 p, by rw [decide_eq_true l]; rfl, ?_⟩
          rw [un, if_pos (decide_eq_true l)]
          rfl
        · rw [un, if_neg (by rw [decide_eq_false l]; decide), sh_114 y1]
          by_cases s : k1 = 2
          · rw [if_pos (decide_eq_true s)]
            have hv := f1'.2 (b1 - 1) (by omega)
            obtain ⟨x, hx1, hx2⟩ := hv
            have hw1 := f1'.1
            refine ⟨x, fun p => F1 (b1 - 1) p, hx1.2, hx2, by rw [decide_eq_false l, decide_eq_true s]; rfl, ?_⟩
            have ei : (Int32.ofNat w1 + Int32.ofNat b1) - 1 = Int32.ofNat (w1 + (b1 - 1)) := by
              rw [sh_nIadd, show (1 : Int32) = Int32.ofNat 1 from rfl, sh_nIsub (by omega)]
              congr 1
              omega
            rw [ei, sh_103 c3.rs (by omega) hx1, sh_bc_some]
          · rw [if_neg (by rw [decide_eq_false s]; decide)]
            refine ⟨0, fun _ => false, by have := h.rs.1.1; omega, fun p => h.rs.1.v0 p, by rw [decide_eq_false l, decide_eq_false s]; rfl, ?_⟩
            rfl
      rw [fl4]
      -- the shift itself
      obtain ⟨NN, G, rr, hNN, ft, ec⟩ : ∃ NN G, sh_rop NN b1 b1 gs u (mc.T, sh_u2 mc.I 41 14 (Int32.ofNat (sp + cost)), mc.J, mc.s) (if ls = true then sf_173 (Int32.ofNat w1) (Int32.ofNat b1) (v2 0) (decide (c = 15420)) (Int32.ofNat fw) (mc.T, sh_u2 mc.I 41 14 (Int32.ofNat (sp + cost)), mc.J, mc.s) else sf_175 (Int32.ofNat w1) (Int32.ofNat b1) (mc.I 50 (z + 1)) (Int32.ofNat b2) (decide (c = 15420)) (Int32.ofNat fw) (mc.T, sh_u2 mc.I 41 14 (Int32.ofNat (sp + cost)), mc.J, mc.s)) G ∧ NN ≤ 3 * cost ∧ sh_Ft (decide (k1 = 2)) b1 (fun j => G j p) rv ∧ sf_172_204 (decide (c = 15420)) (Int32.ofNat (z + 1)) (Int32.ofNat (sh_te k1 b1 0)) (mc.I 49 (z + 1)) ls (Int32.ofNat b1) (Int32.ofNat w1) (Int32.ofNat fw) (mc.T, sh_u2 mc.I 41 14 (Int32.ofNat (sp + cost)), mc.J, mc.s) = sh_bn (if ls = true then sf_173 (Int32.ofNat w1) (Int32.ofNat b1) (v2 0) (decide (c = 15420)) (Int32.ofNat fw) (mc.T, sh_u2 mc.I 41 14 (Int32.ofNat (sp + cost)), mc.J, mc.s) else sf_175 (Int32.ofNat w1) (Int32.ofNat b1) (mc.I 50 (z + 1)) (Int32.ofNat b2) (decide (c = 15420)) (Int32.ofNat fw) (mc.T, sh_u2 mc.I 41 14 (Int32.ofNat (sp + cost)), mc.J, mc.s)) fun r m => sf_172_265 (Int32.ofNat (sh_te k1 b1 0)) r m := by
        have ok2 := okE g1
        rcases h2.lo with ⟨rfl, rfl, hL⟩ | ⟨hk2, hT⟩
        · have l1 : ls = true := by rw [hls]; rfl
          have pos : ¬ v2 0 < 0 := by
            rcases ok2 with w | w
            · exact w.2
            · exact absurd w.1 (by decide)
          have rr := sh_173 (x := v2 0) (l := decide (c = 15420)) c3.rs f1' fl1 fl2 pos (by omega)
          have tn : (v2 0).toInt.toNat = (v2 0).toBitVec.toNat := by rw [sh_pos_nat pos]; rfl
          rw [tn] at rr
          refine ⟨_, _, by rw [l1, if_pos rfl]; exact rr, by omega, ?_, ?_⟩
          · rw [fl3]; exact r2
          · unfold sf_172_204
            rw [l1, if_pos rfl, if_pos rfl, s3b.2.2.1, sh_bc_some, show sh_X.J (mc.T, sh_u2 mc.I 41 14 (Int32.ofNat (sp + cost)), mc.J, mc.s) 51 (z + 1) = v2 0 from hL.2.2.1]
        · have l1 : ls = false := by rw [hls, decide_eq_false (by omega)]
          have k21 : k2 = 1 ∧ n2 = 0 := by
            rcases ok2 with w | w
            · have := w.1; omega
            · exact w
          obtain ⟨rfl, rfl⟩ := k21
          obtain ⟨x1, x2, w2, x3, x4⟩ := hT
          obtain ⟨F2, f2, gt2⟩ := x4.one
          have b2l := x1.b2
          have f2' : sh_val (mc.T, sh_u2 mc.I 41 14 (Int32.ofNat (sp + cost)), mc.J, mc.s) gs u w2 b2 F2 := f2.keep (e := []) (Nat.le_refl _) f3.po
          have ce : cost = b1 * b2 := by rw [hc1, if_neg (by omega)]
          have m3 : 3 * b1 * b2 = 3 * (b1 * b2) := Nat.mul_assoc 3 b1 b2
          have rr := sh_175 (l := decide (c = 15420)) c3.rs f1' f2' b11 fl1 fl2 (by omega) (show gs.length + 3 * b1 * b2 ≤ 65536 by omega)
          have un : (v2 0).toBitVec.toNat = sh_nv (fun j => F2 j p) b2 := (show sh_Ft false b2 (fun j => F2 j p) (v2 0) from gt2).u b2l
          refine ⟨_, _, by rw [l1, if_neg (by decide), x3]; exact rr, by omega, ?_, ?_⟩
          · refine r2.cong b11 (fun j hj => ?_)
            rw [un, ← fl3]
            exact (sh_svv_sl b1l b2 j hj).symm
          · unfold sf_172_204
            rw [l1, if_neg (by decide), if_neg (by decide), s3b.2.2.2, sh_bc_some, se_Ic (by omega), b2w l1]
      obtain ⟨e4, u4, w4, m5, m3, t1, t2, t3, t4, t5, t6, t7, t8, t9, t10, t11⟩ := se_ropr (k := 2) c3 (by omega) hz (Int32.ofNat (sh_te k1 b1 0)) rr
      have z21 : z + 2 - 2 = z := by omega
      rw [z21] at t3 t4 t5 t6
      have f30 : se_F u z q fr cl mc (mc.T, sh_u2 mc.I 41 14 (Int32.ofNat (sp + cost)), mc.J, mc.s) := f3.less (Nat.le_refl _) (by omega) (Nat.le_refl _) (Nat.le_refl _) (Nat.le_refl _)
      refine ⟨e4, u4, m3, (mm.T, sh_u2 mm.I 66 42 (Int32.ofNat (sp + cost)), sh_u2 mm.J 66 46 rv, mm.s), k1, b1, fun _ => rv, sp + cost, ?_, by rw [p3]; rfl, t3, f30.trans t4 (Nat.le_refl _) (Nat.le_refl _) (Nat.le_refl _) (Nat.le_refl _) (Nat.le_refl _), ⟨y1, t5, w4, t6, se_V.of1 t7 ft⟩, ?_, w0.trans (sh_Rr.wi (by omega)), ⟨by rw [se_In (by omega)]; exact hR.1, fun q => by rw [se_In (by omega)]; exact hR.2.1 q, by rw [se_In (by omega)]; exact hR.2.2.1, fun _ => se_Js, fun q => absurd q (by omega)⟩, se_Is, t8, by omega, p1, by rw [List.length_append]; omega, by omega⟩
      · rw [ec, t1, sh_bn_some]
        unfold sf_172_265
        rw [show (2 : Int32) = Int32.ofNat 2 from rfl, t2]
        rfl
      · rw [t11, se_In (by omega)]
  · rw [if_neg good]
    refine bad4 ?_ rfl
    unfold sf_172_110
    by_cases o1 : ok = true
    · rw [if_pos o1, sh_113 h1.1, f125, if_neg (by rw [decide_eq_false (fun r => good ⟨o1, r⟩)]; decide)]
    · rw [if_neg o1, f125]
end
