/-! BOTH OBJECTS IN ONE MEMORY: the small calls -/
section
variable {j : Nat} {m : sh_X}
theorem so_feed {x1 x2 x3 x4 x5 : Int32} (r : so_R j m) (hj : j ≤ 600) : ∃ (b : Bool) (m1 m2 : sh_X), sf_13 x1 x2 x3 x4 x5 m = some (b, m1) ∧ sf_244 x1 x2 x3 x4 x5 m1 = some (b, m2) ∧ so_R (j + 1) m2 := by
  obtain ⟨n, n4, a1, a2, a3, a4⟩ := r.tx
  rcases sk_feed (x1 := x1) (x2 := x2) (x3 := x3) (x4 := x4) (x5 := x5) (mc := m) (mm := m) a1 a2 n4 with ⟨c1, c2⟩ | ⟨mc2, _, _, n20, c1, _, w, _, _⟩
  · exact ⟨false, m, _, c1, c2, so_Mw.R r hj r.tx.w⟩
  · have h2 : mc2.I 66 2 = Int32.ofNat n := by rw [w.I 66 (by omega) (by omega)]; exact a2
    rcases sk_feed (x1 := x1) (x2 := x2) (x3 := x3) (x4 := x4) (x5 := x5) (mc := m) (mm := mc2) a1 h2 n4 with ⟨d1, _⟩ | ⟨mc3, mm2, B, _, d1, d2, w1, v, hB⟩
    · rw [c1] at d1
      cases d1
    · rw [c1] at d1
      have e : mc2 = mc3 := congrArg Prod.snd (Option.some.inj d1)
      subst e
      refine ⟨true, mc2, mm2, c1, d2, so_M.R (so_M.of ?_ ?_ ?_ ?_ ?_ ?_) r hj ?_⟩
      · exact v.T.trans w1.T
      · exact v.s.trans w1.s
      · exact v.J.trans w1.J
      · intro c h1 h2 h3 h4
        rw [v.I c h3 h4, se_Ic h3]
        exact w1.I c h1 h2
      · intro f hf
        rw [v.I 0 (by omega) (by omega), se_Ic (by omega)]
        exact w1.F f hf
      · intro f h1 h2
        rw [v.F f h2, se_In (fun _ => h1), w1.I 66 (by omega) (by omega)]
      · have i0 : mm2.I 0 = mc2.I 0 := by rw [v.I 0 (by omega) (by omega), se_Ic (by omega)]
        have i1 : mm2.I 1 = mc2.I 1 := by rw [v.I 1 (by omega) (by omega), se_Ic (by omega)]
        have old : ∀ i, i < n → mm2.I 67 i = m.I 67 i := fun i hi => by rw [v.a i hi, se_Ic (by omega), w1.I 67 (by omega) (by omega)]
        have new : ∀ i, ¬ i < n → i < n + 20 → mm2.I 67 i = B (i - n) := fun i h1 h2 => by
          have := v.b (i - n) (by omega)
          rw [show n + (i - n) = i by omega] at this
          exact this
        refine ⟨n + 20, n20, by rw [i0]; exact w1.c, v.c, fun i hi => ?_, fun i hi => ?_⟩
        · by_cases q : i < n
          · rw [old i q, i1, w1.a i q]
            exact a3 i q
          · rw [new i q hi, i1]
            have := w1.b (i - n) (by omega)
            rw [show n + (i - n) = i by omega] at this
            exact this.symm
        · by_cases q : i < n
          · rw [old i q]
            exact a4 i q
          · rw [new i q hi]
            exact hB _
theorem so_end {x : Int32} (r : so_R j m) (hj : j ≤ 600) : ∃ (b : Bool) (m1 m2 : sh_X), sf_15 x m = some (b, m1) ∧ sf_245 x m1 = some (b, m2) ∧ so_R (j + 1) m2 := by
  obtain ⟨n, n4, a1, a2, a3, a4⟩ := r.tx
  rcases sj_end (x := x) (mc := m) (mm := m) a1 a2 n4 with ⟨c1, c2⟩ | ⟨k, hk, c1, _⟩
  · exact ⟨false, m, _, c1, c2, so_Mw.R r hj r.tx.w⟩
  · obtain ⟨m1, hm1⟩ : ∃ m1 : sh_X, (m.T, sh_u2 m.I 0 10 (Int32.ofNat k), m.J, m.s) = m1 := ⟨_, rfl⟩
    have z : ∀ c, c ≠ 0 → m1.I c = m.I c := fun c hc => by rw [← hm1]; exact se_Ic hc
    have z0 : m1.I 0 10 = Int32.ofNat k := by rw [← hm1]; exact se_Is
    have zf : ∀ f, f ≠ 10 → m1.I 0 f = m.I 0 f := fun f hf => by rw [← hm1]; exact se_In (fun _ => hf)
    rw [hm1] at c1
    have h2 : m1.I 66 2 = Int32.ofNat n := by rw [z 66 (by omega)]; exact a2
    rcases sj_end (x := x) (mc := m) (mm := m1) a1 h2 n4 with ⟨d1, _⟩ | ⟨k2, hk2, d1, d2⟩
    · rw [c1] at d1
      cases d1
    · rw [c1] at d1
      have e : m1 = (m.T, sh_u2 m.I 0 10 (Int32.ofNat k2), m.J, m.s) := congrArg Prod.snd (Option.some.inj d1)
      have e2 : Int32.ofNat k2 = Int32.ofNat k := by rw [← z0, e]; exact se_Is.symm
      rw [e2] at d2
      refine ⟨true, m1, _, c1, d2, so_M.R (so_M.of ?_ ?_ ?_ ?_ ?_ ?_) r hj ?_⟩
      · rw [← hm1]
      · rw [← hm1]
      · rw [← hm1]
      · intro c h1 h2 h3 h4
        rw [se_Ic h3, sh_u2_cell h3]
        exact z c h1
      · intro f hf
        rw [se_Ic (by omega), sh_u2_cell (by omega)]
        exact zf f hf
      · intro f h1 h2
        rw [se_In (fun _ => h2), sh_u2_idx h1]
        exact congrFun (z 66 (by omega)) f
      · refine ⟨k, by omega, by rw [se_Ic (by omega), sh_u2_cell (by omega)]; exact z0, se_Is, fun i hi => ?_, fun i hi => ?_⟩
        · rw [se_Ic (by omega), sh_u2_cell (by omega), se_Ic (by omega), sh_u2_cell (by omega), z 67 (by omega), z 1 (by omega)]
          exact a3 i (by omega)
        · rw [se_Ic (by omega), sh_u2_cell (by omega), z 67 (by omega)]
          exact a4 i (by omega)
theorem so_place (r : so_R j m) (hj : j ≤ 600) : ∃ (b : Int32) (m2 : sh_X), sf_213 m = some b ∧ sf_332 m = some (b, m2) ∧ so_R (j + 1) m2 := by
  refine ⟨m.I 0 12, (m.T, sh_u2 m.I 66 0 0, m.J, m.s), rfl, ?_, so_Mw.R r hj r.tx.w⟩
  unfold sf_332
  rw [r.pl]
theorem so_coin {x1 x2 x3 : Int32} (r : so_R j m) (hj : j ≤ 600) : ∃ m1 m2 : sh_X, sf_217 x1 x2 x3 m = some ((), m1) ∧ sf_337 x1 x2 x3 m1 = some ((), m2) ∧ so_R (j + 1) m2 := by
  have key : ∃ J2 : Nat → Nat → Int64, sf_217 x1 x2 x3 m = some ((), (m.T, m.I, J2, m.s)) ∧ ∀ c, c ≠ 62 → J2 c = m.J c := by
    have nine : ∀ k : Nat, k < 2 → x1 = Int32.ofNat k → ∃ J2 : Nat → Nat → Int64, sf_217_9 x1 x2 x3 m = some ((), (m.T, m.I, J2, m.s)) ∧ ∀ c, c ≠ 62 → J2 c = m.J c := fun k hk e => by
      subst e
      refine ⟨sh_u2 m.J 62 k (((Int32.toInt64 x2) <<< (Int32.toInt64 32 &&& 63)) ||| ((Int32.toInt64 x3) &&& (4294967295 : Int64))), ?_, fun c hc => sh_u2_cell hc⟩
      unfold sf_217_9 sf_218
      rw [if_neg (sh_nI0 (by omega)), if_pos (show Int32.ofNat k < 2 from (sh_nIlt (b := 2) (by omega) (by omega)).mpr hk), if_pos (sh_okn' hk (by omega)), sh_nIc (by omega)]
      rfl
    unfold sf_217
    by_cases h0 : x1 = 0
    · rw [if_pos h0]
      exact nine 0 (by omega) h0
    · rw [if_neg h0]
      by_cases h1 : x1 = 1
      · rw [if_pos h1]
        exact nine 1 (by omega) h1
      · rw [if_neg h1]
        exact ⟨m.J, rfl, fun _ _ => rfl⟩
  obtain ⟨J2, k1, k2⟩ := key
  refine ⟨_, _, k1, rfl, so_M.R (m := m) (so_M.mk (m := m) (fun c t h => h) (Nat.le_refl _) (Nat.le_succ _) (by show m.s ≤ m.s + 6; omega) (fun c _ _ a _ => se_Ic a) (fun f _ => by rw [se_Ic (by omega)]) (fun f a _ => se_In (fun _ => a)) (fun c _ _ a _ _ => k2 c a) (fun X hX k hk e => ?_)) r hj ?_⟩
  · show J2 (16 + 5 * X) k = J2 103 (256 * X + k)
    rw [k2 _ (by omega), k2 _ (by omega)]
    exact e
  · exact so_T.w (m := (m.T, m.I, J2, m.s)) r.tx
theorem so_cnt {x : Int32} (r : so_R j m) (hj : j ≤ 600) : ∃ (b : Int32) (m1 m2 : sh_X), sf_214 x m = some (b, m1) ∧ sf_333 x m1 = some (b, m2) ∧ so_R (j + 1) m2 := by
  have key : ∃ b, sf_214 x m = some (b, m) ∧ sf_333 x m = some (b, (m.T, sh_u2 m.I 66 0 0, m.J, m.s)) := by
    rcases r.S with ⟨s0, gs, x0, g⟩ | ⟨s1, R, n, W, f, gs, E, g, D, O⟩ | ⟨s2, a, b, o, nw, ng, f, gs, Y, D, O⟩
    · exact sj_cnt (n := fun _ => 0) (W := fun _ _ => 0) (f := fun _ _ _ => 0) r.e4 (Or.inl s0)
    · exact sj_cnt r.e4 (Or.inr (Or.inl ⟨s1, E⟩))
    · exact sj_cnt r.e4 (Or.inr (Or.inr ⟨s2, Y.e, Y.cl.1.trans Y.md.2.2.2.2.symm, Y.cl.2.1.trans Y.md.2.2.2.1.symm, Y.cl.2.2⟩))
  obtain ⟨b, k1, k2⟩ := key
  exact ⟨b, m, _, k1, k2, so_Mw.R r hj r.tx.w⟩
end
