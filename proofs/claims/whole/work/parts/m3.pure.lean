/-! BOTH OBJECTS IN ONE MEMORY: bits, values, what is given -/
section
variable {j : Nat} {m : sh_X}
theorem so_Mj {J2 : Nat → Nat → Int64} {x : Int32} (hJ : ∀ c, c ≠ 62 → c ≠ 124 → J2 c = m.J c) : so_M m (m.T, sh_u2 m.I 66 0 x, J2, m.s) :=
  so_M.mk (fun c t h => h) (Nat.le_refl _) (Nat.le_succ _) (by show m.s ≤ m.s + 6; omega) (fun c _ _ a _ => se_Ic a) (fun f _ => by rw [se_Ic (by omega)]) (fun f a _ => se_In (fun _ => a)) (fun c _ _ a _ b => hJ c a b) (fun X hX k hk e => by
    show J2 (16 + 5 * X) k = J2 103 (256 * X + k)
    rw [hJ _ (by omega) (by omega), hJ _ (by omega) (by omega)]
    exact e)
theorem so_Mx {x : Int32} : so_M m ((sj_nx m).T, sh_u2 (sj_nx m).I 66 0 x, (sj_nx m).J, (sj_nx m).s) :=
  so_M.mk (fun c t h => by
      show (m.T ++ ([.inr (14, [])] : List sh_Tg))[c]? = some t
      rw [List.getElem?_append_left (by
        rcases Nat.lt_or_ge c m.T.length with q | q
        · exact q
        · rw [List.getElem?_eq_none q] at h; cases h)]
      exact h)
    (by show m.T.length ≤ (m.T ++ ([.inr (14, [])] : List sh_Tg)).length; rw [List.length_append]; exact Nat.le_add_right _ _)
    (by show (m.T ++ ([.inr (14, [])] : List sh_Tg)).length ≤ m.T.length + 1; rw [List.length_append]; exact Nat.le_refl _)
    (Nat.le_refl _) (fun c _ _ a _ => se_Ic a) (fun f _ => by rw [se_Ic (by omega)]; rfl) (fun f a _ => se_In (fun _ => a)) (fun c _ _ _ _ _ => rfl) (fun X hX k hk e => e)
theorem so_bit {x1 x2 : Int32} (r : so_R j m) (hj : j ≤ 600) :
    (∃ (v : Int32) (m1 m2 : sh_X), sf_236 x1 x2 m = some (0, m1) ∧ sf_334 x1 x2 m1 = some (v, m2) ∧ sf_243 m2 = some 0 ∧ m2.J 124 0 = Int32.toInt64 v ∧ so_R (j + 1) m2) ∨
    (∃ (v : Int32) (m1 m2 : sh_X), sf_236 x1 x2 m = some (1, m1) ∧ sf_334 x1 x2 m1 = some (v, m2) ∧ sf_243 m2 = some 1 ∧ so_R (j + 1) m2) := by
  have len := r.len hj
  have key : ∀ mm : sh_X, mm.I = m.I → (∃ v : Int32, sf_236 x1 x2 m = some (0, (m.T, m.I, sh_u2 m.J 124 0 (Int32.toInt64 v), m.s)) ∧ sf_334 x1 x2 mm = some (v, (mm.T, sh_u2 mm.I 66 0 0, mm.J, mm.s))) ∨ (sf_236 x1 x2 m = some (1, sj_nx m) ∧ sf_334 x1 x2 mm = some (0, (mm.T, sh_u2 mm.I 66 0 1, mm.J, mm.s))) := fun mm hI => by
    have h13 : m.I 0 13 = mm.I 66 4 := by rw [hI]; exact r.e4
    rcases r.S with ⟨s0, gs, x0, g⟩ | ⟨s1, R, n, W, f, gs, E, g, D, O⟩ | ⟨s2, a, b, o, nw, ng, f, gs, Y, D, O⟩
    · exact sj_bit (n := fun _ => 0) (W := fun _ _ => 0) (f := fun _ _ _ => 0) (by omega) h13 (Or.inl (by rw [hI]; exact s0))
    · have s1' : mm.I 66 4 = 1 := by rw [hI]; exact s1
      exact sj_bit (by omega) h13 (Or.inr ⟨by rw [s1']; decide, by rw [s1']; decide, E.cong (fun _ _ _ => rfl) (fun c _ _ => by rw [hI])⟩)
    · have s2' : mm.I 66 4 = 2 := by rw [hI]; exact s2
      exact sj_bit (by omega) h13 (Or.inr ⟨by rw [s2']; decide, by rw [s2']; decide, Y.e.cong (fun _ _ _ => rfl) (fun c _ _ => by rw [hI])⟩)
  rcases key m rfl with ⟨v, c1, _⟩ | ⟨c1, _⟩
  · left
    rcases key (m.T, m.I, sh_u2 m.J 124 0 (Int32.toInt64 v), m.s) rfl with ⟨v2, d1, d2⟩ | ⟨d1, _⟩
    · have e : (m.T, m.I, sh_u2 m.J 124 0 (Int32.toInt64 v), m.s) = ((m.T, m.I, sh_u2 m.J 124 0 (Int32.toInt64 v2), m.s) : sh_X) := by rw [c1] at d1; exact congrArg Prod.snd (Option.some.inj d1)
      have e2 : Int32.toInt64 v = Int32.toInt64 v2 := by
        have q := congrArg (fun z : sh_X => z.J 124 0) e
        have q1 : sh_u2 m.J 124 0 (Int32.toInt64 v) 124 0 = sh_u2 m.J 124 0 (Int32.toInt64 v2) 124 0 := q
        rw [sh_u2_same, sh_u2_same] at q1
        exact q1
      refine ⟨v2, _, _, c1, d2, ?_, ?_, so_M.R (m := m) (so_Mj (m := m) (fun c _ a => sh_u2_cell a)) r hj (so_T.w (m := (m.T, m.I, sh_u2 m.J 124 0 (Int32.toInt64 v), m.s)) r.tx)⟩
      · unfold sf_243
        rw [se_Is]
      · show sh_u2 m.J 124 0 (Int32.toInt64 v) 124 0 = _
        rw [sh_u2_same, e2]
    · rw [c1] at d1
      cases d1
  · right
    rcases key (sj_nx m) rfl with ⟨v2, d1, _⟩ | ⟨_, d2⟩
    · rw [c1] at d1
      cases d1
    · refine ⟨0, _, _, c1, d2, ?_, so_Mx.R r hj (so_T.w (m := sj_nx m) r.tx)⟩
      unfold sf_243
      rw [se_Is]
theorem so_val {x : Int32} (r : so_R j m) (hj : j ≤ 600) :
    (∃ (v : Int64) (m1 m2 : sh_X), sf_240 x m = some (0, m1) ∧ sf_340 x m1 = some (v, m2) ∧ sf_243 m2 = some 0 ∧ m2.J 124 0 = v ∧ so_R (j + 1) m2) ∨
    (∃ (v : Int64) (m1 m2 : sh_X), sf_240 x m = some (1, m1) ∧ sf_340 x m1 = some (v, m2) ∧ sf_243 m2 = some 1 ∧ so_R (j + 1) m2) := by
  have len := r.len hj
  have key : ∀ mm : sh_X, mm.I = m.I → mm.J 104 = m.J 104 → (∃ v, sf_240 x m = some (0, (m.T, m.I, sh_u2 m.J 124 0 v, m.s)) ∧ sf_340 x mm = some (v, (mm.T, sh_u2 mm.I 66 0 0, mm.J, mm.s))) ∨ (sf_240 x m = some (1, sj_nx m) ∧ sf_340 x mm = some (0, (mm.T, sh_u2 mm.I 66 0 1, mm.J, mm.s))) := fun mm hI hJ => by
    have h13 : m.I 0 13 = mm.I 66 4 := by rw [hI]; exact r.e4
    have h14 : m.I 0 14 = mm.I 66 5 := by rw [hI]; exact r.e5
    rcases r.S with ⟨s0, gs, x0, g⟩ | ⟨s1, R, n, W, f, gs, E, g, D, O⟩ | ⟨s2, a, b, o, nw, ng, f, gs, Y, D, O⟩
    · exact sj_val (n := 0) (by omega) h13 h14 (Or.inl (by rw [hI]; exact s0))
    · have s1' : mm.I 66 4 = 1 := by rw [hI]; exact s1
      obtain ⟨e1, e2, _⟩ := E 2 (by omega)
      exact sj_val (n := n 2) (by omega) h13 h14 (Or.inr ⟨by rw [s1']; decide, by rw [s1']; decide, e1.am, by rw [hI]; exact e2, e1.n1, fun h5 k hk => by rw [hJ]; exact O (by rw [← hI]; exact h5) k hk⟩)
    · have s2' : mm.I 66 4 = 2 := by rw [hI]; exact s2
      obtain ⟨e1, e2, _⟩ := Y.e 2 (by omega)
      exact sj_val (n := sj_n o) (by omega) h13 h14 (Or.inr ⟨by rw [s2']; decide, by rw [s2']; decide, e1.am, by rw [hI]; exact e2, e1.n1, fun h5 k hk => by rw [hJ]; exact O (by rw [← hI]; exact h5) k hk⟩)
  rcases key m rfl rfl with ⟨v, c1, _⟩ | ⟨c1, _⟩
  · left
    rcases key (m.T, m.I, sh_u2 m.J 124 0 v, m.s) rfl (show sh_u2 m.J 124 0 v 104 = m.J 104 from sh_u2_cell (by omega)) with ⟨v2, d1, d2⟩ | ⟨d1, _⟩
    · have e : (m.T, m.I, sh_u2 m.J 124 0 v, m.s) = ((m.T, m.I, sh_u2 m.J 124 0 v2, m.s) : sh_X) := by rw [c1] at d1; exact congrArg Prod.snd (Option.some.inj d1)
      have e2 : v = v2 := by
        have q := congrArg (fun z : sh_X => z.J 124 0) e
        have q1 : sh_u2 m.J 124 0 v 124 0 = sh_u2 m.J 124 0 v2 124 0 := q
        rw [sh_u2_same, sh_u2_same] at q1
        exact q1
      refine ⟨v2, _, _, c1, d2, ?_, ?_, so_M.R (m := m) (so_Mj (m := m) (fun c _ a => sh_u2_cell a)) r hj (so_T.w (m := (m.T, m.I, sh_u2 m.J 124 0 v, m.s)) r.tx)⟩
      · unfold sf_243
        rw [se_Is]
      · show sh_u2 m.J 124 0 v 124 0 = _
        rw [sh_u2_same, e2]
    · rw [c1] at d1
      cases d1
  · right
    rcases key (sj_nx m) rfl rfl with ⟨v2, d1, _⟩ | ⟨_, d2⟩
    · rw [c1] at d1
      cases d1
    · refine ⟨0, _, _, c1, d2, ?_, so_Mx.R r hj (so_T.w (m := sj_nx m) r.tx)⟩
      unfold sf_243
      rw [se_Is]
theorem so_give {x1 x2 x3 x4 : Int32} (r : so_R j m) (hj : j ≤ 600) :
    ∃ (v : Int32) (m1 m2 : sh_X), sf_238 x1 x2 x3 x4 m = some (v, m1) ∧ sf_336 x1 x2 x3 x4 m1 = some ((), m2) ∧ sf_243 m2 = some v ∧ so_R (j + 1) m2 := by
  have len := r.len hj
  have key : ∀ mm : sh_X, mm.I = m.I → (∃ (X k : Nat) (v : Int64), X < 2 ∧ k < 256 ∧ sf_238 x1 x2 x3 x4 m = some (0, (m.T, m.I, sh_u2 m.J (16 + 5 * X) k v, m.s)) ∧ sf_336 x1 x2 x3 x4 mm = some ((), (mm.T, sh_u2 mm.I 66 0 0, sh_u2 mm.J 103 (256 * X + k) v, mm.s))) ∨ (sf_238 x1 x2 x3 x4 m = some (1, sj_nx m) ∧ sf_336 x1 x2 x3 x4 mm = some ((), (mm.T, sh_u2 mm.I 66 0 1, mm.J, mm.s))) := fun mm hI => by
    have h13 : m.I 0 13 = mm.I 66 4 := by rw [hI]; exact r.e4
    rcases r.S with ⟨s0, gs, x0, g⟩ | ⟨s1, R, n, W, f, gs, E, g, D, O⟩ | ⟨s2, a, b, o, nw, ng, f, gs, Y, D, O⟩
    · rcases sj_give (x1 := x1) (x2 := x2) (x3 := x3) (x4 := x4) (n := fun _ => 0) (W := fun _ _ => 0) (f := fun _ _ _ => 0) (mc := m) (mm := mm) (by omega) h13 (Or.inl (by rw [hI]; exact s0)) with ⟨X, k, v, q1, q2, q3, q4, q5⟩ | q
      · exact absurd (by rw [hI]; exact s0) q2
      · exact Or.inr q
    · have s1' : mm.I 66 4 = 1 := by rw [hI]; exact s1
      rcases sj_give (x1 := x1) (x2 := x2) (x3 := x3) (x4 := x4) (mc := m) (mm := mm) (by omega) h13 (Or.inr ⟨by rw [s1']; decide, by rw [s1']; decide, E.cong (fun _ _ _ => rfl) (fun c _ _ => by rw [hI])⟩) with ⟨X, k, v, q1, q2, q3, q4, q5⟩ | q
      · exact Or.inl ⟨X, k, v, q1, Nat.lt_of_lt_of_le q3 (E X (by omega)).1.n1, q4, q5⟩
      · exact Or.inr q
    · have s2' : mm.I 66 4 = 2 := by rw [hI]; exact s2
      rcases sj_give (x1 := x1) (x2 := x2) (x3 := x3) (x4 := x4) (mc := m) (mm := mm) (by omega) h13 (Or.inr ⟨by rw [s2']; decide, by rw [s2']; decide, Y.e.cong (fun _ _ _ => rfl) (fun c _ _ => by rw [hI])⟩) with ⟨X, k, v, q1, q2, q3, q4, q5⟩ | q
      · exact Or.inl ⟨X, k, v, q1, Nat.lt_of_lt_of_le q3 (Y.e X (by omega)).1.n1, q4, q5⟩
      · exact Or.inr q
  rcases key m rfl with ⟨X0, k0, v0, _, _, c1, _⟩ | ⟨c1, _⟩
  · rcases key (m.T, m.I, sh_u2 m.J (16 + 5 * X0) k0 v0, m.s) rfl with ⟨X, k, v, hX, hk, d1, d2⟩ | ⟨d1, _⟩
    · have e : (m.T, m.I, sh_u2 m.J (16 + 5 * X0) k0 v0, m.s) = ((m.T, m.I, sh_u2 m.J (16 + 5 * X) k v, m.s) : sh_X) := by rw [c1] at d1; exact congrArg Prod.snd (Option.some.inj d1)
      have d2' : sf_336 x1 x2 x3 x4 (m.T, m.I, sh_u2 m.J (16 + 5 * X0) k0 v0, m.s) = some ((), (m.T, sh_u2 m.I 66 0 0, sh_u2 (sh_u2 m.J (16 + 5 * X) k v) 103 (256 * X + k) v, m.s)) := by
        rw [d2]
        have eJ : sh_u2 m.J (16 + 5 * X0) k0 v0 = sh_u2 m.J (16 + 5 * X) k v := congrArg (fun z : sh_X => z.J) e
        show some ((), (m.T, sh_u2 m.I 66 0 0, sh_u2 (sh_u2 m.J (16 + 5 * X0) k0 v0) 103 (256 * X + k) v, m.s)) = _
        rw [eJ]
      refine ⟨0, _, _, c1, d2', ?_, so_M.R (m := m) (so_M.mk (m := m) (fun c t h => h) (Nat.le_refl _) (Nat.le_succ _) (by show m.s ≤ m.s + 6; omega) (fun c _ _ a _ => se_Ic a) (fun f _ => by rw [se_Ic (by omega)]) (fun f a _ => se_In (fun _ => a)) (fun c a b _ d _ => ?_) (fun Y hY l hl eD => ?_)) r hj (so_T.w (m := (m.T, m.I, sh_u2 m.J (16 + 5 * X0) k0 v0, m.s)) r.tx)⟩
      · unfold sf_243
        rw [se_Is]
      · show sh_u2 (sh_u2 m.J (16 + 5 * X) k v) 103 (256 * X + k) v c = m.J c
        rw [sh_u2_cell d, sh_u2_cell (by omega)]
      · show sh_u2 (sh_u2 m.J (16 + 5 * X) k v) 103 (256 * X + k) v (16 + 5 * Y) l = sh_u2 (sh_u2 m.J (16 + 5 * X) k v) 103 (256 * X + k) v 103 (256 * Y + l)
        rw [sh_u2_cell (show 16 + 5 * Y ≠ 103 by omega)]
        by_cases q : Y = X ∧ l = k
        · obtain ⟨q1, q2⟩ := q
          subst q1
          subst q2
          rw [sh_u2_same, sh_u2_same]
        · rw [sh_u2_idx (show 256 * Y + l ≠ 256 * X + k by omega), sh_u2_cell (show 103 ≠ 16 + 5 * X by omega)]
          by_cases qX : Y = X
          · subst qX
            rw [sh_u2_idx (show l ≠ k from fun h => q ⟨rfl, h⟩)]
            exact eD
          · rw [sh_u2_cell (show 16 + 5 * Y ≠ 16 + 5 * X by omega)]
            exact eD
    · rw [c1] at d1
      cases d1
  · rcases key (sj_nx m) rfl with ⟨_, _, _, _, _, d1, _⟩ | ⟨_, d2⟩
    · rw [c1] at d1
      cases d1
    · refine ⟨1, _, _, c1, d2, ?_, so_Mx.R r hj (so_T.w (m := sj_nx m) r.tx)⟩
      unfold sf_243
      rw [se_Is]
end
