/-! SMALL CALLS: end, count -/
theorem sj_end {n : Nat} {x : Int32} {mc mm : sh_X} (h1 : mc.I 0 10 = Int32.ofNat n) (h2 : mm.I 66 2 = Int32.ofNat n) (n4 : n ≤ 4000) :
    (sf_15 x mc = some (false, mc) ∧ sf_245 x mm = some (false, (mm.T, sh_u2 mm.I 66 0 0, mm.J, mm.s))) ∨ ∃ k, k ≤ n ∧ sf_15 x mc = some (true, (mc.T, sh_u2 mc.I 0 10 (Int32.ofNat k), mc.J, mc.s)) ∧ sf_245 x mm = some (true, (mm.T, sh_u2 (sh_u2 mm.I 66 0 0) 66 2 (Int32.ofNat k), mm.J, mm.s)) := by
  unfold sf_15 sf_245
  rw [h1, h2]
  by_cases a : x < 0
  · rw [if_pos a, if_pos a]
    exact Or.inl ⟨rfl, rfl⟩
  · rw [if_neg a, if_neg a]
    by_cases b : Int32.ofNat n < x
    · rw [if_pos b, if_pos b]
      exact Or.inl ⟨rfl, rfl⟩
    · rw [if_neg b, if_neg b]
      obtain ⟨k, e, _, hk⟩ := sj_i32 (lo := 0) (hi := n) a b (by omega) (by omega)
      exact Or.inr ⟨k, hk, by rw [e], by rw [e]⟩
theorem sj_07 (x : Int32) : x < 0 ∨ 6 < x ∨ x = 0 ∨ x = 1 ∨ x = 2 ∨ x = 3 ∨ x = 4 ∨ x = 5 ∨ x = 6 := by
  by_cases a : x < 0
  · exact Or.inl a
  · by_cases b : 6 < x
    · exact Or.inr (Or.inl b)
    · obtain ⟨k, e, _, hk⟩ := sj_i32 (lo := 0) (hi := 6) a b (by omega) (by omega)
      rcases (show k = 0 ∨ k = 1 ∨ k = 2 ∨ k = 3 ∨ k = 4 ∨ k = 5 ∨ k = 6 by omega) with q | q | q | q | q | q | q <;> subst q
      · exact Or.inr (Or.inr (Or.inl e))
      · exact Or.inr (Or.inr (Or.inr (Or.inl e)))
      · exact Or.inr (Or.inr (Or.inr (Or.inr (Or.inl e))))
      · exact Or.inr (Or.inr (Or.inr (Or.inr (Or.inr (Or.inl e)))))
      · exact Or.inr (Or.inr (Or.inr (Or.inr (Or.inr (Or.inr (Or.inl e))))))
      · exact Or.inr (Or.inr (Or.inr (Or.inr (Or.inr (Or.inr (Or.inr (Or.inl e)))))))
      · exact Or.inr (Or.inr (Or.inr (Or.inr (Or.inr (Or.inr (Or.inr (Or.inr e)))))))
theorem sj_cnt {n : Nat → Nat} {W : Nat → Nat → Nat} {f : Nat → Nat → Nat → Nat} {x : Int32} {mc mm : sh_X} (h13 : mc.I 0 13 = mm.I 66 4) (h012 : mm.I 66 4 = 0 ∨ (mm.I 66 4 = 1 ∧ sj_E n W f mc mm) ∨ (mm.I 66 4 = 2 ∧ sj_E n W f mc mm ∧ mc.I 58 8 = mm.I 66 86 ∧ mc.I 58 9 = mm.I 66 85 ∧ mc.I 58 10 = mm.I 66 87)) :
    ∃ r, sf_214 x mc = some (r, mc) ∧ sf_333 x mm = some (r, (mm.T, sh_u2 mm.I 66 0 0, mm.J, mm.s)) := by
  by_cases hs : mm.I 66 4 = 0
  · refine ⟨-1, ?_, ?_⟩
    · unfold sf_214
      rw [h13, if_pos hs]
    · unfold sf_333
      rw [if_pos hs]
  · have hE : sj_E n W f mc mm := (h012.resolve_left hs).elim (fun q => q.2) (fun q => q.2.1)
    have h0 : ¬ mc.I 0 13 = 0 := by rw [h13]; exact hs
    have e0 := hE 0 (by omega)
    have e1 := hE 1 (by omega)
    have e2 := hE 2 (by omega)
    have a0 : mc.I 13 4 = mm.I 99 0 := e0.1.am.trans e0.2.1.symm
    have a1 : mc.I 18 4 = mm.I 99 1 := e1.1.am.trans e1.2.1.symm
    have a2 : mc.I 23 4 = mm.I 99 2 := e2.1.am.trans e2.2.1.symm
    have a3 : mc.I 23 5 = mm.I 102 2 := e2.1.to.trans e2.2.2.1.symm
    unfold sf_214 sf_333 sf_214_54 sf_215
    rw [if_neg h0, if_neg hs, a0, a1, a2, a3, h13]
    have z : (0 : Int32).toInt = 0 := by decide
    have z6 : (6 : Int32).toInt = 6 := by decide
    have z4 : (4 : Int32).toInt = 4 := by decide
    rcases sj_07 x with q | q | q | q | q | q | q | q | q
    · have b := Int32.lt_iff_toInt_lt.mp q
      have ne : ∀ k : Int32, 0 ≤ k.toInt → ¬ x = k := fun k hk e => by rw [e] at b; omega
      refine ⟨-1, ?_, ?_⟩
      · rw [if_neg (ne 3 (by decide)), if_pos (show x < 4 from Int32.lt_iff_toInt_lt.mpr (by omega)), if_neg (ne 0 (by decide)), if_neg (ne 1 (by decide)), if_neg (ne 2 (by decide))]
      · rw [if_pos q]
    · have b := Int32.lt_iff_toInt_lt.mp q
      have ne : ∀ k : Int32, k.toInt ≤ 6 → ¬ x = k := fun k hk e => by rw [e] at b; omega
      refine ⟨-1, ?_, ?_⟩
      · rw [if_neg (ne 3 (by decide)), if_neg (show ¬ x < 4 from fun r => by have := Int32.lt_iff_toInt_lt.mp r; omega), if_pos q, if_neg (ne 0 (by decide)), if_neg (ne 1 (by decide)), if_neg (ne 2 (by decide))]
      · rw [if_neg (show ¬ x < 0 from fun r => by have := Int32.lt_iff_toInt_lt.mp r; omega), if_pos q]
    · subst q; exact ⟨mm.I 99 0, rfl, rfl⟩
    · subst q; exact ⟨mm.I 99 1, rfl, rfl⟩
    · subst q; exact ⟨mm.I 99 2, rfl, rfl⟩
    · subst q; exact ⟨mm.I 102 2, rfl, rfl⟩
    all_goals
      subst q
      rcases h012.resolve_left hs with ⟨g1, _⟩ | ⟨g1, _, g2, g3, g4⟩
      · rw [g1]; exact ⟨-1, rfl, rfl⟩
      · rw [g1, g2, g3, g4]; exact ⟨_, rfl, rfl⟩
