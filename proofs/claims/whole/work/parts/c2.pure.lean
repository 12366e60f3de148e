/-! LOOSE numbers that fit a type; indexes -/
/-- a loose number -/
def sh_lo (v : Int64) : Prop := -1000000000000000000 < v.toInt ∧ v.toInt < 1000000000000000000
theorem sh_one_shl : ∀ j : Fin 63, ((1 : Int64) <<< (Int32.toInt64 (Int32.ofNat j.1) &&& 63)).toInt = 2 ^ j.1 ∧ (-((1 : Int64) <<< (Int32.toInt64 (Int32.ofNat j.1) &&& 63))).toInt = -(2 ^ j.1) := by decide +kernel
theorem sh_pw {j : Nat} (h : 60 ≤ j) : (1152921504606846976 : Int) ≤ 2 ^ j := by
  have : 2 ^ 60 ≤ 2 ^ j := Nat.pow_le_pow_right (by omega) h
  have e : ((2 ^ j : Nat) : Int) = 2 ^ j := by push_cast; rfl
  rw [← e]
  omega
theorem sh_pw0 {j : Nat} : (1 : Int) ≤ 2 ^ j := by
  have : 1 ≤ 2 ^ j := Nat.one_le_two_pow
  have e : ((2 ^ j : Nat) : Int) = 2 ^ j := by push_cast; rfl
  rw [← e]
  omega
/-- does a loose number fit? -/
def sh_hs (k b : Nat) (v : Int64) : Prop := (k = 1 ∧ 0 ≤ v.toInt ∧ (60 ≤ b ∨ v.toInt < 2 ^ b)) ∨ (k = 2 ∧ (60 < b ∨ (-(2 ^ (b - 1)) ≤ v.toInt ∧ v.toInt < 2 ^ (b - 1))))
theorem sh_lt0 {v : Int64} : v < 0 ↔ v.toInt < 0 := by rw [Int64.lt_iff_toInt_lt]; rfl
theorem sh_300 {k b : Nat} (hk : k = 1 ∨ k = 2) (h1 : 1 ≤ b) (hb : b ≤ 64) {v : Int64} : sf_300 (Int32.ofNat k) (Int32.ofNat b) v = true ↔ sh_hs k b v := by
  unfold sf_300 sf_300_25 sf_300_58 sh_hs
  have ff : ¬ false = true := by decide
  rcases hk with rfl | rfl
  · rw [if_pos (show Int32.ofNat 1 = 1 from rfl)]
    by_cases h0 : v < 0
    · rw [if_pos h0]
      rw [sh_lt0] at h0
      exact ⟨fun q => absurd q ff, fun q => by omega⟩
    · rw [if_neg h0]
      rw [sh_lt0] at h0
      by_cases h60 : b < 60
      · rw [if_pos (show Int32.ofNat b < 60 from (sh_nIlt (b := 60) (by omega) (by omega)).mpr h60)]
        have e := (sh_one_shl ⟨b, by omega⟩).1
        by_cases hl : v < (1 : Int64) <<< (Int32.toInt64 (Int32.ofNat b) &&& 63)
        · rw [if_pos hl]
          rw [Int64.lt_iff_toInt_lt, e] at hl
          exact ⟨fun _ => Or.inl ⟨rfl, by omega, Or.inr hl⟩, fun _ => rfl⟩
        · rw [if_neg hl]
          rw [Int64.lt_iff_toInt_lt, e] at hl
          exact ⟨fun q => absurd q ff, fun q => by
            rcases q with ⟨_, _, q | q⟩ | ⟨q, _⟩
            · omega
            · exact absurd q hl
            · omega⟩
      · rw [if_neg (show ¬ Int32.ofNat b < 60 from fun q => h60 ((sh_nIlt (b := 60) (by omega) (by omega)).mp q))]
        exact ⟨fun _ => Or.inl ⟨rfl, by omega, Or.inl (by omega)⟩, fun _ => rfl⟩
  · rw [if_neg (show ¬ Int32.ofNat 2 = 1 by decide)]
    by_cases h60 : 60 < b
    · rw [if_pos (show 60 < Int32.ofNat b from (sh_nIlt (a := 60) (by omega) (by omega)).mpr h60)]
      exact ⟨fun _ => Or.inr ⟨rfl, Or.inl h60⟩, fun _ => rfl⟩
    · rw [if_neg (show ¬ 60 < Int32.ofNat b from fun q => h60 ((sh_nIlt (a := 60) (by omega) (by omega)).mp q)), show Int32.ofNat b - 1 = Int32.ofNat (b - 1) from sh_nIsub (b := 1) h1]
      have e := sh_one_shl ⟨b - 1, by omega⟩
      by_cases hl : v < -((1 : Int64) <<< (Int32.toInt64 (Int32.ofNat (b - 1)) &&& 63))
      · rw [if_pos hl]
        rw [Int64.lt_iff_toInt_lt, e.2] at hl
        exact ⟨fun q => absurd q ff, fun q => by
          rcases q with ⟨q, _⟩ | ⟨_, q | q⟩
          · omega
          · omega
          · exact absurd q.1 (by simp only at hl; omega)⟩
      · rw [if_neg hl]
        rw [Int64.lt_iff_toInt_lt, e.2] at hl
        by_cases hl2 : v < (1 : Int64) <<< (Int32.toInt64 (Int32.ofNat (b - 1)) &&& 63)
        · rw [if_pos hl2]
          rw [Int64.lt_iff_toInt_lt, e.1] at hl2
          exact ⟨fun _ => Or.inr ⟨rfl, Or.inr ⟨by simp only at hl; omega, hl2⟩⟩, fun _ => rfl⟩
        · rw [if_neg hl2]
          rw [Int64.lt_iff_toInt_lt, e.1] at hl2
          exact ⟨fun q => absurd q ff, fun q => by
            rcases q with ⟨q, _⟩ | ⟨_, q | q⟩
            · omega
            · omega
            · exact absurd q.2 hl2⟩
/-- holds -/
theorem sh_112 {k b n : Nat} (h : sh_typ k b n) {v : Int64} (hv : sh_lo v) : sf_112 (Int32.ofNat (sh_te k b n)) v = true ↔ (n = 0 ∧ sh_hs k b v) := by
  have ff : ¬ false = true := by decide
  have b1 := h.b1
  have b2 := h.b2
  have k2 := h.k2
  unfold sh_lo at hv
  unfold sf_112
  rw [sh_113 h, sh_114 h, sh_94 h]
  by_cases hk0 : ¬ k = 0 ∧ n = 0
  · rw [if_pos (decide_eq_true hk0)]
    have main : ∀ (y : Nat) , y ≤ 64 → (if k = 2 then y + 1 = b else y = b) → (sf_112_29 (Int32.ofNat (sh_te k b n)) v (Int32.ofNat y) = true ↔ sh_hs k b v) := by
      intro y hy hyb
      unfold sf_112_29 sf_112_58 sf_112_78 sh_hs
      rw [sh_114 h]
      have lt63 : Int32.ofNat y < 63 ↔ y < 63 := sh_nIlt (b := 63) (by omega) (by omega)
      by_cases h0 : v < 0
      · rw [if_pos h0]
        rw [sh_lt0] at h0
        by_cases hk2 : k = 2
        · rw [if_pos (decide_eq_true hk2)]
          rw [if_pos hk2] at hyb
          have yb : b - 1 = y := by omega
          rw [yb]
          by_cases h63 : y < 63
          · rw [if_pos (lt63.mpr h63)]
            have e := (sh_one_shl ⟨y, h63⟩).2
            simp only at e
            by_cases hl : v < -((1 : Int64) <<< (Int32.toInt64 (Int32.ofNat y) &&& 63))
            · rw [if_pos hl]
              rw [Int64.lt_iff_toInt_lt, e] at hl
              refine ⟨fun q => absurd q ff, fun q => ?_⟩
              rcases q with ⟨q, _⟩ | ⟨_, q | q⟩
              · omega
              · have := sh_pw (j := y) (by omega); omega
              · omega
            · rw [if_neg hl]
              rw [Int64.lt_iff_toInt_lt, e] at hl
              have := sh_pw0 (j := y)
              exact ⟨fun _ => Or.inr ⟨hk2, Or.inr ⟨by omega, by omega⟩⟩, fun _ => rfl⟩
          · rw [if_neg (fun q => h63 (lt63.mp q))]
            exact ⟨fun _ => Or.inr ⟨hk2, Or.inl (by omega)⟩, fun _ => rfl⟩
        · rw [if_neg (by rw [decide_eq_false hk2]; exact ff)]
          exact ⟨fun q => absurd q ff, fun q => by omega⟩
      · rw [if_neg h0]
        rw [sh_lt0] at h0
        by_cases h63 : y < 63
        · rw [if_pos (lt63.mpr h63)]
          have e := (sh_one_shl ⟨y, h63⟩).1
          simp only at e
          have p0 := sh_pw0 (j := y)
          by_cases hl : v < (1 : Int64) <<< (Int32.toInt64 (Int32.ofNat y) &&& 63)
          · rw [if_pos hl]
            rw [Int64.lt_iff_toInt_lt, e] at hl
            refine ⟨fun _ => ?_, fun _ => rfl⟩
            by_cases hk2 : k = 2
            · rw [if_pos hk2] at hyb
              have yb : b - 1 = y := by omega
              rw [yb]
              exact Or.inr ⟨hk2, Or.inr ⟨by omega, hl⟩⟩
            · rw [if_neg hk2] at hyb
              rw [← hyb]
              exact Or.inl ⟨by omega, by omega, Or.inr hl⟩
          · rw [if_neg hl]
            rw [Int64.lt_iff_toInt_lt, e] at hl
            refine ⟨fun q => absurd q ff, fun q => ?_⟩
            have big : y < 60 := by
              rcases Nat.lt_or_ge y 60 with g | g
              · exact g
              · have := sh_pw g; omega
            by_cases hk2 : k = 2
            · rw [if_pos hk2] at hyb
              have yb : b - 1 = y := by omega
              rw [yb] at q
              omega
            · rw [if_neg hk2] at hyb
              rw [← hyb] at q
              omega
        · rw [if_neg (fun q => h63 (lt63.mp q))]
          refine ⟨fun _ => ?_, fun _ => rfl⟩
          by_cases hk2 : k = 2
          · rw [if_pos hk2] at hyb
            exact Or.inr ⟨hk2, Or.inl (by omega)⟩
          · rw [if_neg hk2] at hyb
            exact Or.inl ⟨by omega, by omega, Or.inl (by omega)⟩
    by_cases hk2 : k = 2
    · rw [if_pos (decide_eq_true hk2), show Int32.ofNat b - 1 = Int32.ofNat (b - 1) from sh_nIsub (b := 1) b1, main (b - 1) (by omega) (by rw [if_pos hk2]; omega)]
      exact ⟨fun q => ⟨hk0.2, q⟩, fun q => q.2⟩
    · rw [if_neg (by rw [decide_eq_false hk2]; exact ff), main b (by omega) (by rw [if_neg hk2])]
      exact ⟨fun q => ⟨hk0.2, q⟩, fun q => q.2⟩
  · rw [if_neg (by rw [decide_eq_false hk0]; exact ff)]
    refine ⟨fun q => absurd q ff, fun q => ?_⟩
    unfold sh_hs at q
    omega
