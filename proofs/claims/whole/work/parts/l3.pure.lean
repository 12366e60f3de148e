/-! CIRCUITS: the model's outputs -/
theorem sj_or1 (x : Int64) {i j : Nat} (hi : i < 64) (hj : j < 64) : (x ||| ((1 : Int64) <<< (Int32.toInt64 (Int32.ofNat i) &&& 63))).toBitVec.getLsbD j = (x.toBitVec.getLsbD j || decide (j = i)) := by
  have h := sh_or_bit x true hi hj
  rw [if_pos rfl, Bool.true_and] at h
  exact h
theorem sj_zero {n : Nat} {m : sh_X} (hn : n ≤ 256) (h99 : m.I 99 2 = Int32.ofNat n) : ∃ m2, sf_339_220 0 m = sf_339_245 0 m2 ∧ m2.T = m.T ∧ m2.I = m.I ∧ m2.s = m.s ∧ (∀ c, c ≠ 104 → m2.J c = m.J c) ∧ ∀ k, k < n → m2.J 104 k = 0 := by
  have lp : ∀ (d i : Nat) (m1 : sh_X), i + d = n → m1.T = m.T → m1.I = m.I → m1.s = m.s → (∀ c, c ≠ 104 → m1.J c = m.J c) → (∀ k, k < i → m1.J 104 k = 0) → ∃ m2 : sh_X, sf_339_220 (Int32.ofNat i) m1 = sf_339_245 0 m2 ∧ m2.T = m.T ∧ m2.I = m.I ∧ m2.s = m.s ∧ (∀ c, c ≠ 104 → m2.J c = m.J c) ∧ ∀ k, k < n → m2.J 104 k = 0 := by
    intro d
    induction d with
    | zero =>
      intro i m1 hi r1 r2 r3 r4 r5
      have e : i = n := by omega
      subst e
      refine ⟨m1, ?_, r1, r2, r3, r4, r5⟩
      have hs : sf_339_220s (Int32.ofNat i) m1 = sh_up (sf_339_245 0 m1) := by
        unfold sf_339_220s
        rw [r2, h99, if_neg (sh_nlt0 _)]
      cases hq : sf_339_245 0 m1 with
      | none => exact sh_wnone (by show sf_339_220s (Int32.ofNat i) m1 = none; rw [hs, hq]; rfl)
      | some r => exact sh_wend (by show sf_339_220s (Int32.ofNat i) m1 = _; rw [hs, hq]; rfl)
    | succ d ih =>
      intro i m1 hi r1 r2 r3 r4 r5
      have hs : sf_339_220s (Int32.ofNat i) m1 = some (.inl (Int32.ofNat (i + 1), (m1.T, m1.I, sh_u2 m1.J 104 i 0, m1.s))) := by
        unfold sf_339_220s
        rw [r2, h99, if_pos ((sh_nIlt (by omega) (by omega)).mpr (by omega)), if_pos (sh_okn' (by omega) (by omega)), sh_nIc (by omega), sh_nI1]
      have st : sf_339_220 (Int32.ofNat i) m1 = sf_339_220 (Int32.ofNat (i + 1)) (m1.T, m1.I, sh_u2 m1.J 104 i 0, m1.s) := sh_wstep hs
      rw [st]
      exact ih (i + 1) _ (by omega) r1 r2 r3 (fun c hc => by show sh_u2 m1.J 104 i 0 c = _; rw [sh_u2_cell hc]; exact r4 c hc) (fun k hk => by
        show sh_u2 m1.J 104 i 0 104 k = 0
        by_cases q : k = i
        · subst q; rw [sh_u2_same]
        · rw [sh_u2_idx q]; exact r5 k (by omega))
  exact lp n 0 m (by omega) rfl rfl rfl (fun _ _ => rfl) (fun k hk => absurd hk (by omega))
theorem sj_ob {o nw : Nat} {cv : Nat → Bool} {m : sh_X} (ho : o ≤ 500) (hon : o ≤ nw) (hw4 : nw ≤ 4000) (h86 : m.I 66 86 = Int32.ofNat nw) (h121 : m.I 121 2 = Int32.ofNat o) (hc : ∀ w, w < 4000 → m.I 122 w = sj_b1 (cv w)) (h0 : ∀ k, k < sj_n o → m.J 104 k = 0) :
    ∃ m2, sf_339_245 0 m = some ((), m2) ∧ m2.T = m.T ∧ m2.I = m.I ∧ m2.s = m.s ∧ (∀ c, c ≠ 104 → m2.J c = m.J c) ∧ ∀ k, k < sj_n o → ∀ j, j < 64 → (m2.J 104 k).toBitVec.getLsbD j = (decide (j < sj_w o k) && cv (nw - o + (64 * k + j))) := by
  unfold sf_339_245
  obtain ⟨⟨c, m2⟩, ⟨t1, t2, t3, t4, t5, t6⟩, t7⟩ := sh_loop (f := fun q => sf_339_245s q.1 q.2) (n := o) (i := 0) (s := ((0 : Int32), m))
    (fun i s => s.1 = Int32.ofNat i ∧ s.2.T = m.T ∧ s.2.I = m.I ∧ s.2.s = m.s ∧ (∀ c, c ≠ 104 → s.2.J c = m.J c) ∧ ∀ k, k < sj_n o → ∀ j, j < 64 → (s.2.J 104 k).toBitVec.getLsbD j = (decide (64 * k + j < i) && cv (nw - o + (64 * k + j)))) (by
      rintro i ⟨c, m1⟩ hi ⟨r1, r2, r3, r4, r5, r6⟩
      have r1 : c = Int32.ofNat i := r1
      subst r1
      have r3 : m1.I = m.I := r3
      have e1 : Int32.ofNat i / 64 = Int32.ofNat (i / 64) := sh_idiv (b := 64) (by omega) (by omega)
      have e2 : Int32.ofNat i - Int32.ofNat (i / 64) * 64 = Int32.ofNat (i % 64) := by
        rw [show Int32.ofNat (i / 64) * 64 = Int32.ofNat (i / 64 * 64) from sh_nImul (b := 64), sh_nIs (by omega), show i - i / 64 * 64 = i % 64 by omega]
      have oi : sh_okb (Int32.ofNat (i / 64)) 256 = true := sh_okn' (by omega) (by omega)
      have hs : sf_339_245s (Int32.ofNat i) m1 = if cv (nw - o + i) = false then some (.inl (Int32.ofNat (i + 1), m1)) else some (.inl (Int32.ofNat (i + 1), (m1.T, m1.I, sh_u2 m1.J 104 (i / 64) ((m1.J 104 (i / 64)) ||| ((1 : Int64) <<< (Int32.toInt64 (Int32.ofNat (i % 64)) &&& 63))), m1.s))) := by
        unfold sf_339_245s sf_339_294
        rw [r3, h121, if_pos ((sh_nIlt (by omega) (by omega)).mpr hi), h86, sh_nIs hon, sh_nIadd, if_pos (sh_okn' (by omega) (by omega)), sh_nIc (by omega), hc _ (by omega), e1, if_pos oi, if_pos oi, sh_nIc (by omega), e2, sh_nI1]
        by_cases q : cv (nw - o + i) = false
        · rw [if_pos q, if_pos ((sj_b1z _).mpr q)]
        · rw [if_neg q, if_neg (fun r => q ((sj_b1z _).mp r))]
      by_cases q : cv (nw - o + i) = false
      · rw [if_pos q] at hs
        refine ⟨(Int32.ofNat (i + 1), m1), hs, rfl, r2, r3, r4, r5, fun k hk j hj => ?_⟩
        have r6' : (m1.J 104 k).toBitVec.getLsbD j = (decide (64 * k + j < i) && cv (nw - o + (64 * k + j))) := r6 k hk j hj
        show (m1.J 104 k).toBitVec.getLsbD j = _
        rw [r6']
        by_cases e : 64 * k + j = i
        · rw [e, q, Bool.and_false, Bool.and_false]
        · rw [show decide (64 * k + j < i) = decide (64 * k + j < i + 1) from decide_eq_decide.mpr (by omega)]
      · rw [if_neg q] at hs
        have q1 : cv (nw - o + i) = true := by cases h : cv (nw - o + i) <;> simp_all
        refine ⟨_, hs, rfl, r2, r3, r4, fun c hc => ?_, fun k hk j hj => ?_⟩
        · show sh_u2 m1.J 104 (i / 64) _ c = _
          rw [sh_u2_cell hc]; exact r5 c hc
        · have r6' : (m1.J 104 k).toBitVec.getLsbD j = (decide (64 * k + j < i) && cv (nw - o + (64 * k + j))) := r6 k hk j hj
          show (sh_u2 m1.J 104 (i / 64) _ 104 k).toBitVec.getLsbD j = _
          by_cases e : k = i / 64
          · rw [← e, sh_u2_same, sj_or1 _ (Nat.mod_lt i (by omega)) hj, r6']
            by_cases e2 : j = i % 64
            · have e3 : 64 * k + j = i := by omega
              rw [decide_eq_true e2, Bool.or_true, e3, q1, decide_eq_true (by omega : i < i + 1)]
              rfl
            · rw [decide_eq_false e2, Bool.or_false, show decide (64 * k + j < i) = decide (64 * k + j < i + 1) from decide_eq_decide.mpr (by omega)]
          · rw [sh_u2_idx e, r6', show decide (64 * k + j < i) = decide (64 * k + j < i + 1) from decide_eq_decide.mpr (by omega)]) (Nat.zero_le _) ⟨rfl, rfl, rfl, rfl, fun _ _ => rfl, fun k hk j hj => by
        show (m.J 104 k).toBitVec.getLsbD j = _
        rw [h0 k hk, decide_eq_false (by omega), Bool.false_and]
        exact BitVec.getLsbD_zero⟩
  have t1 : c = Int32.ofNat o := t1
  subst t1
  refine ⟨m2, t7 _ ?_, t2, t3, t4, t5, fun k hk j hj => ?_⟩
  · have t3 : m2.I = m.I := t3
    show sf_339_245s (Int32.ofNat o) m2 = _
    unfold sf_339_245s
    rw [t3, h121, if_neg (sh_nlt0 o)]
  · have t6' : (m2.J 104 k).toBitVec.getLsbD j = (decide (64 * k + j < o) && cv (nw - o + (64 * k + j))) := t6 k hk j hj
    rw [t6', show decide (64 * k + j < o) = decide (j < sj_w o k) from decide_eq_decide.mpr (by unfold sj_w; omega)]
/-- the model reckons a circuit -/
theorem sj_339 {a b o nw ng : Nat} {f : Nat → Nat → Nat} {gs : sh_gL} {mc m : sh_X} (Y : sj_Y a b o nw ng f gs mc m) (hS : ∀ w, w < 4000 → m.I 122 w = 0 ∨ m.I 122 w = 1) :
    ∃ m2, sf_339 m = some ((), m2) ∧ m2.T = m.T ∧ m2.s = m.s ∧ (∀ c, c ≠ 122 → m2.I c = m.I c) ∧ (∀ c, c ≠ 104 → m2.J c = m.J c) ∧ (∀ w, w < 4000 → m2.I 122 w = 0 ∨ m2.I 122 w = 1) ∧ ∀ k, k < sj_n o → ∀ j, j < 64 → (m2.J 104 k).toBitVec.getLsbD j = (decide (j < sj_w o k) && sj_cv m.I (sj_v a b (m.J 103) (m.I 122)) ng (nw - o + (64 * k + j))) := by
  obtain ⟨q1, q2, q3, q4, q5, q6, q7, q8, q9⟩ := Y.bd
  obtain ⟨d1, d2, d3, d4, d5⟩ := Y.md
  obtain ⟨m1, a1, a2, a3, a4, a5, a6⟩ := sj_in q2 q4 d1 d2 hS
  obtain ⟨m2, b1, b2, b3, b4, b5, b6⟩ := sj_gts (v := sj_v a b (m.J 103) (m.I 122)) (m := m1) q8 q9 (by rw [a5 66 (by omega)]; exact d4) (fun i hi c r1 r2 => by rw [a5 c (by omega)]; exact Y.ga i hi c r1 r2) a6
  have cvE : ∀ w, sj_cv m1.I (sj_v a b (m.J 103) (m.I 122)) ng w = sj_cv m.I (sj_v a b (m.J 103) (m.I 122)) ng w := fun w => sj_cv_cong ng (fun c i r1 r2 _ => by rw [a5 c (by omega)]) w
  have h99 : m2.I 99 2 = Int32.ofNat (sj_n o) := by rw [b5 99 (by omega), a5 99 (by omega)]; exact (Y.e 2 (by omega)).2.1
  obtain ⟨m3, c1, c2, c3, c4, c5, c6⟩ := sj_zero (n := sj_n o) (by unfold sj_n; omega) h99
  obtain ⟨m4, e1, e2, e3, e4, e5, e6⟩ := sj_ob (cv := sj_cv m.I (sj_v a b (m.J 103) (m.I 122)) ng) (m := m3) q5 q7 q8 (by rw [c3, b5 66 (by omega), a5 66 (by omega)]; exact d5) (by rw [c3, b5 121 (by omega), a5 121 (by omega)]; exact d3) (fun w hw => by rw [c3, b6 w hw, cvE]) c6
  refine ⟨m4, by rw [a1, b1, c1, e1], by rw [e2, c2, b2, a2], by rw [e4, c4, b4, a4], fun c hc => by rw [e3, c3, b5 c hc, a5 c hc], fun c hc => by rw [e5 c hc, c5 c hc, b3, a3], fun w hw => ?_, e6⟩
  rw [e3, c3, b6 w hw]
  cases sj_cv m1.I (sj_v a b (m.J 103) (m.I 122)) ng w with
  | true => exact Or.inr rfl
  | false => exact Or.inl rfl
