/-! SMALL CALLS: bits -/
theorem sj_335 {X n : Nat} {x2 : Int32} {mm : sh_X} (p0 : 0 < mm.I 66 4) (hX : X < 3) (e : mm.I 99 X = Int32.ofNat n) : sf_335 (Int32.ofNat X) x2 mm = some (decide (¬ x2 < 0 ∧ x2 < Int32.ofNat n)) := by
  unfold sf_335
  rw [if_pos p0, if_neg (sh_nI0 (by omega)), if_pos (show Int32.ofNat X < 3 from (sh_nIlt (b := 3) (by omega) (by omega)).mpr hX)]
  by_cases a : x2 < 0
  · rw [if_pos a, decide_eq_false (fun q => q.1 a)]
  · rw [if_neg a, if_pos (sh_okn' hX (by omega)), sh_nIc (by omega), e]
    by_cases b : x2 < Int32.ofNat n
    · rw [if_pos b, decide_eq_true ⟨a, b⟩]
    · rw [if_neg b, decide_eq_false (fun q => b q.2)]
theorem sj_335o {x1 x2 : Int32} {mm : sh_X} (h : mm.I 66 4 = 0 ∨ (¬ x1 = 0 ∧ ¬ x1 = 1 ∧ ¬ x1 = 2)) : sf_335 x1 x2 mm = some false := by
  unfold sf_335
  by_cases p0 : 0 < mm.I 66 4
  · rw [if_pos p0]
    rcases h with h | ⟨h0, h1, h2⟩
    · rw [h] at p0
      exact absurd p0 (by decide)
    · by_cases a : x1 < 0
      · rw [if_pos a]
      · rw [if_neg a]
        by_cases b : x1 < 3
        · exfalso
          have z : (0 : Int32).toInt = 0 := by decide
          have z3 : (3 : Int32).toInt = 3 := by decide
          have a1 : ¬ x1.toInt < (0 : Int32).toInt := fun q => a (Int32.lt_iff_toInt_lt.mpr q)
          have b1 := Int32.lt_iff_toInt_lt.mp b
          have c : x1.toInt = 0 ∨ x1.toInt = 1 ∨ x1.toInt = 2 := by omega
          rcases c with c | c | c
          · exact h0 (Int32.toInt_inj.mp (c.trans (by decide)))
          · exact h1 (Int32.toInt_inj.mp (c.trans (by decide)))
          · exact h2 (Int32.toInt_inj.mp (c.trans (by decide)))
        · rw [if_neg b]
  · rw [if_neg p0]
theorem sj_bit {n : Nat → Nat} {W : Nat → Nat → Nat} {f : Nat → Nat → Nat → Nat} {x1 x2 : Int32} {mc mm : sh_X} (tl : mc.T.length < 1000000) (h13 : mc.I 0 13 = mm.I 66 4) (h012 : mm.I 66 4 = 0 ∨ (0 < mm.I 66 4 ∧ ¬ mm.I 66 4 = 0 ∧ sj_E n W f mc mm)) :
    (∃ v : Int32, sf_236 x1 x2 mc = some (0, (mc.T, mc.I, sh_u2 mc.J 124 0 (Int32.toInt64 v), mc.s)) ∧ sf_334 x1 x2 mm = some (v, (mm.T, sh_u2 mm.I 66 0 0, mm.J, mm.s))) ∨ (sf_236 x1 x2 mc = some (1, sj_nx mc) ∧ sf_334 x1 x2 mm = some (0, (mm.T, sh_u2 mm.I 66 0 1, mm.J, mm.s))) := by
  have no : sf_237 x1 x2 mc = some (none, sj_nx mc) → sf_236 x1 x2 mc = some (1, sj_nx mc) := fun h => by
    unfold sf_236
    rw [h]
    rfl
  have n25 : sf_237_25 mc = some (none, sj_nx mc) := by
    unfold sf_237_25
    rw [if_pos tl]
    rfl
  have mno : sf_335 x1 x2 mm = some false → sf_334 x1 x2 mm = some (0, (mm.T, sh_u2 mm.I 66 0 1, mm.J, mm.s)) := fun h => by
    unfold sf_334 sf_334_15
    rw [h, sh_bc_some, if_neg (by decide), if_neg (by decide)]
    rfl
  by_cases hs : mm.I 66 4 = 0
  · refine Or.inr ⟨no ?_, mno (sj_335o (Or.inl hs))⟩
    unfold sf_237
    rw [h13, if_pos hs, if_pos hs, if_pos hs, if_pos hs, n25]
    by_cases q0 : x1 = 0
    · rw [if_pos q0]
    · rw [if_neg q0]
      by_cases q1 : x1 = 1
      · rw [if_pos q1]
      · rw [if_neg q1]
        by_cases q2 : x1 = 2
        · rw [if_pos q2]
        · rw [if_neg q2]
  · obtain ⟨p0, _, E⟩ := h012.resolve_left hs
    have main : ∀ X, X < 3 → x1 = Int32.ofNat X → (∀ b, sf_228 (13 + 5 * X) x2 mc = some b → sf_237 x1 x2 mc = if b = true then (if sh_okb x2 256 = true then some (some (mc.I (15 + 5 * X) (Int32.toNatClampNeg x2)), mc) else none) else sf_237_25 mc) → (∃ v : Int32, sf_236 x1 x2 mc = some (0, (mc.T, mc.I, sh_u2 mc.J 124 0 (Int32.toInt64 v), mc.s)) ∧ sf_334 x1 x2 mm = some (v, (mm.T, sh_u2 mm.I 66 0 0, mm.J, mm.s))) ∨ (sf_236 x1 x2 mc = some (1, sj_nx mc) ∧ sf_334 x1 x2 mm = some (0, (mm.T, sh_u2 mm.I 66 0 1, mm.J, mm.s))) := fun X hX e h => by
      obtain ⟨Ev, e99, _, e101⟩ := E X hX
      have n1 := Ev.n1
      rcases sj_228 (x := 13 + 5 * X) (x2 := x2) Ev.am n1 with ⟨k, hk, ek, c⟩ | ⟨c, d⟩
      · have w := Ev.wi k hk
        rw [show 13 + 5 * X + 2 = 15 + 5 * X by omega] at w
        have h := h true c
        rw [if_pos rfl, ek, if_pos (sh_okn' (by omega) (by omega)), sh_nIc (by omega), w, ← ek] at h
        refine Or.inl ⟨Int32.ofNat (W X k), ?_, ?_⟩
        · unfold sf_236
          rw [h]
          rfl
        · have ix : 256 * Int32.ofNat X + Int32.ofNat k = Int32.ofNat (256 * X + k) := (congrArg (· + Int32.ofNat k) (sh_nImul (a := 256) (b := X))).trans sh_nIadd
          unfold sf_334 sf_334_15
          rw [e, ek, sj_335 p0 hX e99, decide_eq_true (show ¬ Int32.ofNat k < 0 ∧ Int32.ofNat k < Int32.ofNat (n X) from ⟨sh_nI0 (by omega), (sh_nIlt (by omega) (by omega)).mpr hk⟩), sh_bc_some, if_pos rfl, if_pos (show sh_b2 false = 0 from rfl), ix, if_pos (sh_okn' (by omega) (by omega)), sh_nIc (by omega), e101 k hk]
          rfl
      · refine Or.inr ⟨no ?_, mno ?_⟩
        · rw [h false c, if_neg (by decide), n25]
        · rw [e, sj_335 p0 hX e99, decide_eq_false (fun q => d.elim q.1 (fun r => r q.2))]
    have h0 : ¬ mc.I 0 13 = 0 := by rw [h13]; exact hs
    by_cases q0 : x1 = 0
    · refine main 0 (by omega) q0 (fun b hb => ?_)
      unfold sf_237
      rw [if_pos q0, if_neg h0, show sf_228 13 x2 mc = some b from hb, sh_bc_some]
    · by_cases q1 : x1 = 1
      · refine main 1 (by omega) q1 (fun b hb => ?_)
        unfold sf_237
        rw [if_neg q0, if_pos q1, if_neg h0, show sf_228 18 x2 mc = some b from hb, sh_bc_some]
      · by_cases q2 : x1 = 2
        · refine main 2 (by omega) q2 (fun b hb => ?_)
          unfold sf_237
          rw [if_neg q0, if_neg q1, if_pos q2, if_neg h0, show sf_228 23 x2 mc = some b from hb, sh_bc_some]
        · refine Or.inr ⟨no ?_, mno (sj_335o (Or.inr ⟨q0, q1, q2⟩))⟩
          unfold sf_237
          rw [if_neg q0, if_neg q1, if_neg q2, if_neg h0, n25]
