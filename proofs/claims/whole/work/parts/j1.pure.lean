/-! COMPILE: the model begins; heads -/
theorem sj_nar {x : Int32} (h0 : -128 ≤ x.toInt) (h1 : x.toInt ≤ 127) : vp_nar .byte x = x := by
  have a : ∀ n : Fin 256, vp_nar .byte (Int32.ofNat n.1 - 128) = Int32.ofNat n.1 - 128 := by decide +kernel
  have b : ∀ n : Fin 256, (Int32.ofNat n.1 - 128).toInt = (n.1 : Int) - 128 := by decide +kernel
  obtain ⟨n, hn⟩ : ∃ n : Fin 256, x.toInt = (n.1 : Int) - 128 := ⟨⟨(x.toInt + 128).toNat, by omega⟩, by show x.toInt = (((x.toInt + 128).toNat : Nat) : Int) - 128; omega⟩
  have e : x = Int32.ofNat n.1 - 128 := Int32.toInt_inj.mp (by rw [hn, b n])
  rw [e]
  exact a n
/-- the model is cleared -/
theorem sj_247 (m : sh_X) : ∃ m2, sf_247 m = some ((), m2) ∧ m2.T = m.T ∧ m2.s = m.s ∧ (∀ c, c ≠ 66 → m2.I c = m.I c) ∧ m2.I 66 80 = m.I 66 80 + 1 ∧ m2.I 66 3 = m.I 66 2 ∧ m2.I 66 2 = 0 ∧ m2.I 66 5 = 0 ∧ m2.I 66 4 = 0 ∧ m2.I 66 6 = 0 ∧ m2.I 66 7 = -1 ∧ (∀ f, f ≠ 80 → f ≠ 3 → f ≠ 2 → f ≠ 5 → f ≠ 4 → f ≠ 6 → f ≠ 7 → m2.I 66 f = m.I 66 f) ∧ (∀ c, c ≠ 103 → m2.J c = m.J c) ∧ ∀ k, k < 512 → m2.J 103 k = 0 := by
  obtain ⟨I2, hI2⟩ : ∃ I2, sh_u2 (sh_u2 (sh_u2 (sh_u2 (sh_u2 (sh_u2 (sh_u2 m.I 66 80 ((m.I 66 80) + 1)) 66 3 (m.I 66 2)) 66 2 0) 66 5 0) 66 4 0) 66 6 0) 66 7 (-1) = I2 := ⟨_, rfl⟩
  unfold sf_247 sf_247_45
  rw [hI2]
  obtain ⟨⟨c, m2⟩, ⟨q1, q2, q3, q4, q5, q6⟩, q7⟩ := sh_loop (f := fun q => sf_247_45s q.1 q.2) (n := 512) (i := 0) (s := (0, (m.T, I2, m.J, m.s)))
    (fun i s => s.1 = Int32.ofNat i ∧ s.2.T = m.T ∧ s.2.s = m.s ∧ s.2.I = I2 ∧ (∀ c, c ≠ 103 → s.2.J c = m.J c) ∧ ∀ k, k < i → s.2.J 103 k = 0) (by
      rintro i ⟨c, m2⟩ hi ⟨r1, r2, r3, r4, r5, r6⟩
      have r1 : c = Int32.ofNat i := r1
      subst r1
      refine ⟨(Int32.ofNat (i + 1), (m2.T, m2.I, sh_u2 m2.J 103 i 0, m2.s)), ?_, rfl, r2, r3, r4, fun c hc => ?_, fun k hk => ?_⟩
      · show sf_247_45s (Int32.ofNat i) m2 = _
        unfold sf_247_45s
        rw [if_pos (show Int32.ofNat i < 512 from (sh_nIlt (b := 512) (by omega) (by omega)).mpr hi), if_pos (sh_okn' hi (by omega)), sh_nIc (by omega), sh_nI1]
      · show sh_u2 m2.J 103 i 0 c = _
        rw [sh_u2_cell hc]; exact r5 c hc
      · show sh_u2 m2.J 103 i 0 103 k = 0
        by_cases e : k = i
        · subst e; exact sh_u2_same
        · rw [sh_u2_idx e]; exact r6 k (by omega)) (Nat.zero_le _) ⟨rfl, rfl, rfl, rfl, fun _ _ => rfl, fun k hk => absurd hk (by omega)⟩
  have q1 : c = Int32.ofNat 512 := q1
  subst q1
  have q4 : m2.I = I2 := q4
  refine ⟨m2, q7 _ ?_, q2, q3, fun c hc => ?_, ?_, ?_, ?_, ?_, ?_, ?_, ?_, fun f h1 h2 h3 h4 h5 h6 h7 => ?_, q5, q6⟩
  · show sf_247_45s (Int32.ofNat 512) m2 = _
    unfold sf_247_45s
    rw [if_neg (by decide)]
  · rw [q4, ← hI2, sh_u2_cell hc, sh_u2_cell hc, sh_u2_cell hc, sh_u2_cell hc, sh_u2_cell hc, sh_u2_cell hc, sh_u2_cell hc]
  · rw [q4, ← hI2, sh_u2_idx (by omega), sh_u2_idx (by omega), sh_u2_idx (by omega), sh_u2_idx (by omega), sh_u2_idx (by omega), sh_u2_idx (by omega), sh_u2_same]
  · rw [q4, ← hI2, sh_u2_idx (by omega), sh_u2_idx (by omega), sh_u2_idx (by omega), sh_u2_idx (by omega), sh_u2_idx (by omega), sh_u2_same]
  · rw [q4, ← hI2, sh_u2_idx (by omega), sh_u2_idx (by omega), sh_u2_idx (by omega), sh_u2_idx (by omega), sh_u2_same]
  · rw [q4, ← hI2, sh_u2_idx (by omega), sh_u2_idx (by omega), sh_u2_idx (by omega), sh_u2_same]
  · rw [q4, ← hI2, sh_u2_idx (by omega), sh_u2_idx (by omega), sh_u2_same]
  · rw [q4, ← hI2, sh_u2_idx (by omega), sh_u2_same]
  · rw [q4, ← hI2, sh_u2_same]
  · rw [q4, ← hI2, sh_u2_idx h7, sh_u2_idx h6, sh_u2_idx h5, sh_u2_idx h4, sh_u2_idx h3, sh_u2_idx h2, sh_u2_idx h1]
/-- the bytes are kept beside -/
theorem sj_copy {n : Nat} {m : sh_X} (h3 : m.I 66 3 = Int32.ofNat n) (hn : n ≤ 4000) (hb : ∀ i, i < n → -128 ≤ (m.I 67 i).toInt ∧ (m.I 67 i).toInt ≤ 127) :
    ∃ m2, sf_246_36 0 m = (sh_bn (sf_255 m2) fun r1 m11 => if r1 = true then (sh_bn (sf_278 m11) fun r2 m12 => if r2 = true then (sh_bn (sf_282 m12) fun r3 m13 => if r3 = true then sf_246_88 true m13 else sf_246_87 m13) else sf_246_87 m12) else sf_246_87 m11) ∧ m2.T = m.T ∧ m2.s = m.s ∧ m2.J = m.J ∧ (∀ c, c ≠ 71 → m2.I c = m.I c) ∧ ∀ i, i < n → m2.I 71 i = m.I 67 i := by
  have main : ∀ d i m1, i + d = n → m1.T = m.T → m1.s = m.s → m1.J = m.J → (∀ c, c ≠ 71 → m1.I c = m.I c) → (∀ j, j < i → m1.I 71 j = m.I 67 j) → ∃ m2, sf_246_36 (Int32.ofNat i) m1 = (sh_bn (sf_255 m2) fun r1 m11 => if r1 = true then (sh_bn (sf_278 m11) fun r2 m12 => if r2 = true then (sh_bn (sf_282 m12) fun r3 m13 => if r3 = true then sf_246_88 true m13 else sf_246_87 m13) else sf_246_87 m12) else sf_246_87 m11) ∧ m2.T = m.T ∧ m2.s = m.s ∧ m2.J = m.J ∧ (∀ c, c ≠ 71 → m2.I c = m.I c) ∧ ∀ i, i < n → m2.I 71 i = m.I 67 i := by
    intro d
    induction d with
    | zero =>
      intro i m1 hi a1 a2 a3 a4 a5
      have : i = n := by omega
      subst this
      refine ⟨m1, ?_, a1, a2, a3, a4, a5⟩
      unfold sf_246_36
      refine se_whileU (f := fun q => sf_246_36s q.1 q.2) ?_
      show sf_246_36s (Int32.ofNat i) m1 = _
      unfold sf_246_36s
      rw [a4 66 (by omega), h3, if_neg (sh_nlt0 i)]
      cases sf_255 m1 with
      | none => rfl
      | some r =>
        obtain ⟨b, m11⟩ := r
        cases b with
        | false => rfl
        | true =>
          show (sh_bn (sf_278 m11) _) = sh_up (sh_bn (sf_278 m11) _)
          cases sf_278 m11 with
          | none => rfl
          | some r =>
            obtain ⟨b, m12⟩ := r
            cases b with
            | false => rfl
            | true =>
              show (sh_bn (sf_282 m12) _) = sh_up (sh_bn (sf_282 m12) _)
              cases sf_282 m12 with
              | none => rfl
              | some r =>
                obtain ⟨b, m13⟩ := r
                cases b with
                | false => rfl
                | true => rfl
    | succ d ih =>
      intro i m1 hi a1 a2 a3 a4 a5
      have hb := hb i (by omega)
      have st : sf_246_36s (Int32.ofNat i) m1 = some (.inl (Int32.ofNat (i + 1), (m1.T, sh_u2 m1.I 71 i (m.I 67 i), m1.J, m1.s))) := by
        unfold sf_246_36s
        rw [a4 66 (by omega), h3, if_pos ((sh_nIlt (by omega) (by omega)).mpr (by omega)), if_pos (sh_okn' (by omega) (by omega)), if_pos (sh_okn' (by omega) (by omega)), sh_nIc (by omega), a4 67 (by omega), sj_nar hb.1 hb.2, sh_nI1]
      obtain ⟨m2, b1, b2⟩ := ih (i + 1) (m1.T, sh_u2 m1.I 71 i (m.I 67 i), m1.J, m1.s) (by omega) a1 a2 a3 (fun c hc => (se_Ic hc).trans (a4 c hc)) (fun j hj => by
        by_cases e : j = i
        · subst e; exact se_Is
        · rw [se_In (fun _ => e)]; exact a5 j (by omega))
      refine ⟨m2, ?_, b2⟩
      rw [← b1]
      unfold sf_246_36
      exact sh_wstep (f := fun q => sf_246_36s q.1 q.2) st
  exact main n 0 m (by omega) rfl rfl rfl (fun _ _ => rfl) (fun j hj => absurd hj (by omega))
section
variable {N : Nat} {K : Nat → Int32} {P V : Nat → Nat}
/-- a FN's head -/
theorem sj_hd {A C : Nat → Nat → Int32} {ht f lo hi i j p q : Nat} (H : sh_Fn N K V A C ht f lo hi i j p q) : ∃ n nt rt t, sh_Hd0 N K A C f n nt rt t := by
  obtain ⟨n, t, rt, pb, k, l, v, pv, h1, h2, h3, h4, h5, h6, h7, h8, h9, h10, h11, h12, h13, h14, h15, h16, h17, h18, h19, h20, h21, h22, h23, h24, h25, h26, h27, h28⟩ := H
  have up : ∀ k, k ≤ n → t (n - k) ≤ t n := by
    intro k
    induction k with
    | zero => intro _; exact Nat.le_refl _
    | succ k ih =>
      intro hk
      have a := ih (by omega)
      have b := (h9 (n - (k + 1)) (by omega)).1
      rw [show n - (k + 1) + 1 = n - k by omega] at b
      omega
  refine ⟨n, p + 1, rt, t, sh_Hd0.mk h4 h5 h3 (by omega) h6 h7 h1 h9 (fun k hk => ?_) h16 h17 (by omega)⟩
  have a := (h9 k hk).1
  have b := up (n - (k + 1)) (by omega)
  rw [show n - (n - (k + 1)) = k + 1 by omega] at b
  have c := h10 (by omega)
  omega
/-- the types of the heads are written down: the program stands -/
theorem sj_fn {A C C2 : Nat → Nat → Int32} {ht f lo hi i j p q : Nat} (H : sh_Fn N K V A C ht f lo hi i j p q) (hC : ∀ x, x ≠ 32 → x ≠ 35 → C2 x = C x) : sh_Fn N K V A C2 ht f lo hi i j p q := by
  obtain ⟨n, t, rt, pb, k, l, v, pv, h1, h2, h3, h4, h5, h6, h7, h8, h9, h10, h11, h12, h13, h14, h15, h16, h17, h18, h19, h20, h21, h22, h23, h24, h25, h26, h27, h28⟩ := H
  have cc : ∀ y, C2 36 y = C 36 y ∧ C2 37 y = C 37 y ∧ C2 38 y = C 38 y := fun y => by rw [hC 36 (by omega) (by omega), hC 37 (by omega) (by omega), hC 38 (by omega) (by omega)]; exact ⟨rfl, rfl, rfl⟩
  refine ⟨n, t, rt, pb, k, l, v, pv, h1, h2, h3, h4, by rw [hC 29 (by omega) (by omega)]; exact h5, h6, by rw [hC 33 (by omega) (by omega)]; exact h7, h8, h9.mono (fun _ _ => ⟨rfl, rfl, rfl⟩) (fun k _ => by rw [hC 34 (by omega) (by omega)]), h10, h11, h12, h13, h14, h15, by rw [hC 31 (by omega) (by omega)]; exact h16, h17, by rw [hC 30 (by omega) (by omega)]; exact h18, h19, h20, h21, h22, ?_, h24, h25, by rw [(cc _).1]; exact h26, by rw [(cc _).2.1]; exact h27, ?_⟩
  · exact sh_Sl_fr h23 (Nat.le_refl _) (Nat.le_refl _) (Nat.le_refl _) (Nat.le_refl _) (Nat.le_refl _) (fun _ _ _ _ _ _ => rfl) (fun y _ _ => cc y)
  · exact sh_R_fr h28 (A' := A) (C' := C2) (fun _ _ _ _ _ _ => rfl) (fun y _ _ => cc y)
end
