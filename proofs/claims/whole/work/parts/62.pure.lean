/-! the walk through the gates -/
theorem sh_xb (o zx zy : Int64) (vx vy : Bool) : (zx ^^^ sh_bo o vx) ^^^ (zy ^^^ sh_bo o vy) = (zx ^^^ zy) ^^^ sh_bo o (Bool.xor vx vy) := by
  cases vx <;> cases vy
  · show (zx ^^^ 0) ^^^ (zy ^^^ 0) = (zx ^^^ zy) ^^^ 0
    rw [Int64.xor_zero, Int64.xor_zero, Int64.xor_zero]
  · show (zx ^^^ 0) ^^^ (zy ^^^ o) = (zx ^^^ zy) ^^^ o
    rw [Int64.xor_zero, Int64.xor_assoc]
  · show (zx ^^^ o) ^^^ (zy ^^^ 0) = (zx ^^^ zy) ^^^ o
    rw [Int64.xor_zero, Int64.xor_assoc, Int64.xor_comm o, Int64.xor_assoc]
  · show (zx ^^^ o) ^^^ (zy ^^^ o) = (zx ^^^ zy) ^^^ 0
    rw [Int64.xor_zero, Int64.xor_assoc, ← Int64.xor_assoc o, Int64.xor_comm o zy, Int64.xor_assoc zy, Int64.xor_self, Int64.xor_zero]
theorem sh_gwi {gs : sh_gL} {a b c n : Nat} {m : sh_X} (g : sh_Gv gs a b c n m) {w : Nat} (hw : w < gs.length) : m.I (sh_rf m.T 9 0) w = Int32.ofNat (sh_ga gs w).1 ∧ m.I (sh_rf m.T 9 1) w = Int32.ofNat (sh_ga gs w).2.1 ∧ m.I (sh_rf m.T 9 2) w = Int32.ofNat (sh_ga gs w).2.2 ∧ sh_ln m.T (sh_rf m.T 9 0) = n ∧ sh_ln m.T (sh_rf m.T 9 1) = n ∧ sh_ln m.T (sh_rf m.T 9 2) = n := by
  rw [g.ra, g.rb, g.rc]
  exact ⟨g.k w hw, g.l w hw, g.r w hw, g.la, g.lb, g.lc⟩
/-- the inputs of a gate of kind 0 are small -/
def sh_gz (gs : sh_gL) : Prop := ∀ w, w < gs.length → (sh_ga gs w).1 = 0 → (sh_ga gs w).2.1 = 0 ∧ (sh_ga gs w).2.2 = 0
/-- one gate -/
theorem sh_220g {gs : sh_gL} {a b w : Nat} {o : Int64} {p : Nat → Bool} {m : sh_X} (h : sh_Yz gs a b m) (hz : sh_gz gs) (ho : m.J 61 5 = o) (ho0 : sh_b0 o = true) (hw : w < gs.length) (hin : (sh_ga gs w).1 = 0 → sh_lb a b o m w (sh_va p gs w)) (hl : ∀ v, v < w → sh_lb a b o m v (sh_va p gs v)) :
    ∃ m2, sf_220_32s (Int32.ofNat w) m = some (.inl (Int32.ofNat w + 1, m2)) ∧ sh_Yf a b m m2 ∧ sh_lb a b o m2 w (sh_va p gs w) ∧ ∀ v c, v ≠ w → sh_lb a b o m v c → sh_lb a b o m2 v c := by
  obtain ⟨_, _, _, a1, b1, c1, n1, g⟩ := h.g
  have hlen := h.g.len
  have la := h.la
  have lb := h.lb
  have nle := g.le
  have wf := sh_gw0_at h.g.wf hw
  obtain ⟨i1, i2, i3, i4, i5, i6⟩ := sh_gwi g hw
  have ok : ∀ k, k ≤ w → sh_okb (Int32.ofNat k) n1 = true ∧ sh_okb (Int32.ofNat k) (sh_ln m.T a) = true ∧ sh_okb (Int32.ofNat k) (sh_ln m.T b) = true := fun k hk => ⟨(sh_okn (by omega)).mpr (by omega), (sh_okn (by omega)).mpr (by omega), (sh_okn (by omega)).mpr (by omega)⟩
  unfold sf_220_32s
  rw [g.w, if_pos ((sh_nIlt (by omega) (by omega)).mpr hw), sh_225 h (by omega), sh_bc_some, if_pos (decide_eq_true hw), i5, i6, if_pos (ok w (Nat.le_refl _)).1, if_pos (ok w (Nat.le_refl _)).1, sh_nIc (by omega), i2, i3]
  by_cases hk0 : (sh_ga gs w).1 = 0
  · obtain ⟨e1, e2⟩ := hz w hw hk0
    refine ⟨m, ?_, sh_Yf.refl a b m, hin hk0, fun v c _ q => q⟩
    rw [e1, e2, if_neg (sh_nI0 (by omega)), if_neg (sh_nI0 (by omega)), i4, if_pos (ok w (Nat.le_refl _)).1, i1, hk0, if_neg (show ¬ Int32.ofNat 0 = 1 by decide), if_pos (ok w (Nat.le_refl _)).1, if_neg (show ¬ Int32.ofNat 0 = 2 by decide)]
    by_cases hw0 : Int32.ofNat 0 < Int32.ofNat w
    · rw [if_pos hw0, if_pos hw0]; rfl
    · rw [if_neg hw0]; rfl
  · have hxy := wf.2.resolve_left hk0
    have hlx := hl _ hxy.1
    have hly := hl _ hxy.2
    have okx := ok (sh_ga gs w).2.1 (by omega)
    have oky := ok (sh_ga gs w).2.2 (by omega)
    have okw := ok w (Nat.le_refl _)
    rw [if_neg (sh_nI0 (by omega)), if_pos ((sh_nIlt (by omega) (by omega)).mpr hxy.1), if_neg (sh_nI0 (by omega)), if_pos ((sh_nIlt (by omega) (by omega)).mpr hxy.2), i4, if_pos okw.1, i1]
    by_cases hk1 : (sh_ga gs w).1 = 1
    · rw [hk1, if_pos (show Int32.ofNat 1 = 1 from rfl), h.ra, h.rb, if_pos okx.2.1, if_pos oky.2.1, if_pos okw.2.1, if_pos okx.2.2, if_pos oky.2.2, if_pos okw.2.2, sh_nIc (by omega), sh_nIc (by omega)]
      refine ⟨_, rfl, sh_Yf.mk rfl rfl rfl (fun c q1 q2 _ _ => (sh_u2_cell q2).trans (sh_u2_cell q1)), ?_, fun v c hv q => ?_⟩
      · show sh_u2 (sh_u2 m.J a w _) b w _ b w = sh_u2 (sh_u2 m.J a w _) b w _ a w ^^^ _
        rw [sh_u2_same, sh_u2_cell h.ab, sh_u2_same, sh_u2_cell h.ab.symm]
        have hlx : m.J b _ = _ := hlx
        have hly : m.J b _ = _ := hly
        rw [hlx, hly, sh_xb, sh_va_at p h.g.wf hw, hk1]
        rfl
      · show sh_u2 (sh_u2 m.J a w _) b w _ b v = sh_u2 (sh_u2 m.J a w _) b w _ a v ^^^ _
        rw [sh_u2_idx hv, sh_u2_cell h.ab.symm, sh_u2_cell h.ab, sh_u2_idx hv]
        exact q
    · have hk2 : (sh_ga gs w).1 = 2 := by omega
      obtain ⟨m2, m3, k1, k2, k3, k4, k5, k6, k7⟩ := sh_andg h ho ho0 hw hxy.1 hxy.2 hlx hly
      have e61a : sh_rf m2.T 61 4 = b := k3.rb
      rw [hk2, if_neg (show ¬ Int32.ofNat 2 = 1 by decide), if_pos okw.1, if_pos (show Int32.ofNat 2 = 2 from rfl), h.ra, if_pos okx.2.1, if_pos oky.2.1, sh_nIc (by omega), sh_nIc (by omega), k1, sh_bn_some, e61a, k4.T, if_pos okx.2.2, if_pos oky.2.2, k2, sh_bn_some]
      refine ⟨m3, rfl, k5, ?_, k7⟩
      rw [sh_va_at p h.g.wf hw, hk2]
      exact k6
/-- the walk through all gates -/
theorem sh_220w {gs : sh_gL} {a b : Nat} {o : Int64} {p : Nat → Bool} {m : sh_X} (h : sh_Yz gs a b m) (hz : sh_gz gs) (ho : m.J 61 5 = o) (ho0 : sh_b0 o = true) (hin : ∀ w, w < gs.length → (sh_ga gs w).1 = 0 → sh_lb a b o m w (sh_va p gs w)) :
    ∃ m2, (∀ r, sf_220_225 m2 = some r → sf_220_32 0 m = some r) ∧ sh_Yz gs a b m2 ∧ sh_Yf a b m m2 ∧ ∀ w, w < gs.length → sh_lb a b o m2 w (sh_va p gs w) := by
  have hlen := h.g.len
  have hc61 : 61 ≠ a ∧ 61 ≠ b := by have := h.fa; have := h.fb; omega
  unfold sf_220_32
  obtain ⟨⟨c, m2⟩, ⟨q1, q2, q3, q4⟩, q6⟩ := sh_loop (f := fun q => sf_220_32s q.1 q.2) (n := gs.length) (i := 0) (s := (0, m))
    (fun i s => s.1 = Int32.ofNat i ∧ sh_Yf a b m s.2 ∧ (∀ v, v < i → sh_lb a b o s.2 v (sh_va p gs v)) ∧ ∀ w, w < gs.length → i ≤ w → (sh_ga gs w).1 = 0 → sh_lb a b o s.2 w (sh_va p gs w)) (by
      rintro i ⟨c, m2⟩ hi ⟨r1, r2, r3, r4⟩
      have r1 : c = Int32.ofNat i := r1
      subst r1
      have r2 : sh_Yf a b m m2 := r2
      obtain ⟨m3, k1, k2, k3, k4⟩ := sh_220g (p := p) (r2.Yz h) hz (by rw [r2.J 61 hc61.1 hc61.2 (by omega) (by omega)]; exact ho) ho0 hi (r4 i hi (Nat.le_refl _)) r3
      refine ⟨(Int32.ofNat i + 1, m3), k1, sh_nI1, r2.trans k2, fun v hv => ?_, fun w hw hiw h0 => k4 w _ (by omega) (r4 w hw (by omega) h0)⟩
      by_cases hvi : v = i
      · subst hvi; exact k3
      · exact k4 v _ hvi (r3 v (by omega))) (Nat.zero_le _) ⟨rfl, sh_Yf.refl a b m, fun v hv => absurd hv (by omega), fun w hw _ h0 => hin w hw h0⟩
  have q1 : c = Int32.ofNat gs.length := q1
  subst q1
  have q2 : sh_Yf a b m m2 := q2
  refine ⟨m2, fun r hr => q6 _ ?_, q2.Yz h, q2, q3⟩
  show sf_220_32s (Int32.ofNat gs.length) m2 = _
  unfold sf_220_32s
  obtain ⟨_, _, _, a1, b1, c1, n1, g⟩ := (q2.Yz h).g
  rw [g.w, if_neg (sh_nlt0 _), hr]
  rfl
