/-! SMALL CALLS: bits, value -/
/-- a refusal of the class -/
def sj_nx (m : sh_X) : sh_X := ⟨m.T ++ [.inr (14, [])], m.I, m.J, m.s + 6⟩
theorem sj_228 {x n : Nat} {x2 : Int32} {m : sh_X} (h : m.I x 4 = Int32.ofNat n) (hn : n ≤ 256) : (∃ k, k < n ∧ x2 = Int32.ofNat k ∧ sf_228 x x2 m = some true) ∨ (sf_228 x x2 m = some false ∧ (x2 < 0 ∨ ¬ x2 < Int32.ofNat n)) := by
  unfold sf_228
  rw [h]
  by_cases a : x2 < 0
  · rw [if_pos a]
    exact Or.inr ⟨rfl, Or.inl a⟩
  · rw [if_neg a]
    by_cases b : x2 < Int32.ofNat n
    · rw [if_pos b]
      have z : (0 : Int32).toInt = 0 := by decide
      have a1 : ¬ x2.toInt < (0 : Int32).toInt := fun q => a (Int32.lt_iff_toInt_lt.mpr q)
      have b1 := Int32.lt_iff_toInt_lt.mp b
      rw [sh_nI (by omega)] at b1
      refine Or.inl ⟨x2.toInt.toNat, by omega, ?_, rfl⟩
      apply Int32.toInt_inj.mp
      rw [sh_nI (by omega)]
      omega
    · rw [if_neg b]
      exact Or.inr ⟨rfl, Or.inr b⟩
/-- value -/
theorem sj_val {n : Nat} {x : Int32} {mc mm : sh_X} (tl : mc.T.length < 1000000) (h13 : mc.I 0 13 = mm.I 66 4) (h14 : mc.I 0 14 = mm.I 66 5) (h012 : mm.I 66 4 = 0 ∨ (0 < mm.I 66 4 ∧ ¬ mm.I 66 4 = 0 ∧ mc.I 23 4 = Int32.ofNat n ∧ mm.I 99 2 = Int32.ofNat n ∧ n ≤ 256 ∧ (¬ mm.I 66 5 = 0 → ∀ k, k < n → mc.J 26 k = mm.J 104 k))) :
    (∃ v, sf_240 x mc = some (0, (mc.T, mc.I, sh_u2 mc.J 124 0 v, mc.s)) ∧ sf_340 x mm = some (v, (mm.T, sh_u2 mm.I 66 0 0, mm.J, mm.s))) ∨ (sf_240 x mc = some (1, sj_nx mc) ∧ sf_340 x mm = some (0, (mm.T, sh_u2 mm.I 66 0 1, mm.J, mm.s))) := by
  have no : sf_241 x mc = some (none, sj_nx mc) → sf_240 x mc = some (1, sj_nx mc) := fun h => by
    unfold sf_240
    rw [h]
    rfl
  have n25 : sf_241_25 mc = some (none, sj_nx mc) := by
    unfold sf_241_25
    rw [if_pos tl]
    rfl
  have m33 : sf_340_33 x mm = some (0, (mm.T, sh_u2 mm.I 66 0 1, mm.J, mm.s)) := by
    unfold sf_340_33 sf_340_34
    rw [if_neg (by decide)]
    rfl
  rcases h012 with h0 | ⟨p0, h0, e1, e2, n1, hO⟩
  · refine Or.inr ⟨no ?_, ?_⟩
    · unfold sf_241
      rw [h13, if_pos h0, n25]
    · unfold sf_340
      rw [h0, m33]
      by_cases q : mm.I 66 5 = 0
      · rw [if_pos q]
      · rw [if_neg q, if_neg (by decide)]
  · by_cases q : mm.I 66 5 = 0
    · refine Or.inr ⟨no ?_, ?_⟩
      · unfold sf_241
        rw [h13, if_neg h0, h14, if_pos q, n25]
      · unfold sf_340
        rw [if_pos q, m33]
    · rcases sj_228 (x := 23) (x2 := x) e1 n1 with ⟨k, hk, ek, c⟩ | ⟨c, d⟩
      · left
        refine ⟨mc.J 26 k, ?_, ?_⟩
        · unfold sf_240 sf_241
          rw [h13, if_neg h0, h14, if_neg q, c, sh_bc_some, if_pos rfl, ek, if_pos (sh_okn' (by omega) (by omega)), sh_nIc (by omega)]
          rfl
        · unfold sf_340 sf_340_34
          rw [if_neg q, if_pos p0, ek, if_neg (sh_nI0 (by omega)), e2, if_pos ((sh_nIlt (by omega) (by omega)).mpr hk), if_pos (by decide), if_pos (sh_okn' (by omega) (by omega)), sh_nIc (by omega), hO q k hk]
          rfl
      · refine Or.inr ⟨no ?_, ?_⟩
        · unfold sf_241
          rw [h13, if_neg h0, h14, if_neg q, c, sh_bc_some, if_neg (by decide), n25]
        · unfold sf_340
          rw [if_neg q, if_pos p0, m33]
          rcases d with d | d
          · rw [if_pos d]
          · by_cases r : x < 0
            · rw [if_pos r]
            · rw [if_neg r, e2, if_neg d]
