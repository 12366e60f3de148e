/-! numbers: alike up to a multiple -/
def sh_cg (M x y : Int) : Prop := ∃ k, x = y + M * k
theorem sh_cg.refl {M x : Int} : sh_cg M x x := ⟨0, by rw [Int.mul_zero, Int.add_zero]⟩
theorem sh_cg.symm {M x y : Int} (h : sh_cg M x y) : sh_cg M y x := by
  obtain ⟨k, rfl⟩ := h
  exact ⟨-k, by rw [Int.mul_neg]; omega⟩
theorem sh_cg.trans {M x y z : Int} (h : sh_cg M x y) (g : sh_cg M y z) : sh_cg M x z := by
  obtain ⟨k, rfl⟩ := h
  obtain ⟨l, rfl⟩ := g
  exact ⟨l + k, by rw [Int.mul_add]; omega⟩
theorem sh_cg.neg {M x y : Int} (h : sh_cg M x y) : sh_cg M (-x) (-y) := by
  obtain ⟨k, rfl⟩ := h
  exact ⟨-k, by rw [Int.mul_neg]; omega⟩
theorem sh_cg.sub {M x y z w : Int} (h : sh_cg M x y) (g : sh_cg M z w) : sh_cg M (x - z) (y - w) := by
  obtain ⟨k, rfl⟩ := h
  obtain ⟨l, rfl⟩ := g
  exact ⟨k - l, by rw [Int.mul_sub]; omega⟩
theorem sh_cg.mul {M x y z w : Int} (h : sh_cg M x y) (g : sh_cg M z w) : sh_cg M (x * z) (y * w) := by
  obtain ⟨k, rfl⟩ := h
  obtain ⟨l, rfl⟩ := g
  exact ⟨k * w + y * l + M * k * l, by grind⟩
theorem sh_cg.dvd {M N x y : Int} (h : sh_cg M x y) (hd : N ∣ M) : sh_cg N x y := by
  obtain ⟨k, rfl⟩ := h
  obtain ⟨l, rfl⟩ := hd
  exact ⟨l * k, by rw [Int.mul_assoc]⟩
theorem sh_cg_bmod {x : Int} {M : Nat} : sh_cg M (x.bmod M) x := by
  have h := Int.bmod_emod (x := x) (m := M)
  have e1 := Int.mul_ediv_add_emod (x.bmod M) M
  have e2 := Int.mul_ediv_add_emod x M
  exact ⟨(x.bmod M) / M - x / M, by rw [Int.mul_sub]; omega⟩
theorem sh_cg_nat {M a b : Nat} (h : sh_cg M a b) (ha : a < M) (hb : b < M) : a = b := by
  obtain ⟨k, e⟩ := h
  have h1 : (a : Int) % M = (b : Int) % M := by rw [e, Int.add_mul_emod_self_left]
  rw [Int.emod_eq_of_lt (by omega) (by omega), Int.emod_eq_of_lt (by omega) (by omega)] at h1
  omega
theorem sh_cg_u (v : Int64) : sh_cg (2 ^ 64 : Nat) v.toInt v.toBitVec.toNat := by
  show sh_cg _ v.toBitVec.toInt _
  rw [BitVec.toInt_eq_toNat_bmod]
  exact sh_cg_bmod
/-- bits out of a congruence -/
theorem sh_cg_bits {x : Int64} {n : Nat} (hn : n ≤ 64) {c : Nat → Bool} (h : sh_cg (2 ^ n : Nat) x.toInt (sh_nv c n)) {j : Nat} (hj : j < n) : sh_b x j = c j := by
  refine sh_nv_inj (n := n) ?_ hj
  have hd : ((2 ^ n : Nat) : Int) ∣ ((2 ^ 64 : Nat) : Int) := Int.natCast_dvd_natCast.mpr (Nat.pow_dvd_pow 2 hn)
  refine sh_cg_nat ?_ (sh_nv_lt _ n) (sh_nv_lt _ n)
  refine sh_cg.trans ?_ h
  refine sh_cg.trans ?_ ((sh_cg_u x).dvd hd).symm
  rw [sh_nv_long]
  refine ⟨-((x.toBitVec.toNat / 2 ^ n : Nat) : Int), ?_⟩
  have := Nat.div_add_mod x.toBitVec.toNat (2 ^ n)
  have e : ((2 ^ n : Nat) : Int) * ((x.toBitVec.toNat / 2 ^ n : Nat) : Int) = ((2 ^ n * (x.toBitVec.toNat / 2 ^ n) : Nat) : Int) := by push_cast; rfl
  rw [Int.mul_neg, e]
  omega
/-! the quotient of the model, sizes -/
theorem sh_sdiv_u {v w : Int64} (hv : v.toBitVec.toNat < 2 ^ 63) (hw : w.toBitVec.toNat < 2 ^ 63) : (v / w).toBitVec.toNat = v.toBitVec.toNat / w.toBitVec.toNat := by
  rw [Int64.toBitVec_div, BitVec.sdiv_eq]
  have h1 : v.toBitVec.msb = false := by rw [BitVec.msb_eq_false_iff_two_mul_lt]; omega
  have h2 : w.toBitVec.msb = false := by rw [BitVec.msb_eq_false_iff_two_mul_lt]; omega
  rw [h1, h2]
  rfl
theorem sh_neg_iff (v : Int64) : v < 0 ↔ 2 ^ 63 ≤ v.toBitVec.toNat := by
  rw [Int64.lt_iff_toInt_lt]
  show v.toBitVec.toInt < 0 ↔ _
  rw [BitVec.toInt_eq_toNat_cond]
  have := v.toBitVec.isLt
  split <;> omega
theorem sh_zero_iff (v : Int64) : v = 0 ↔ v.toBitVec.toNat = 0 := by
  rw [← Int64.toBitVec_inj]
  constructor
  · intro h; rw [h]; rfl
  · intro h; exact BitVec.eq_of_toNat_eq h
theorem sh_half (v : Int64) : ((v.toUInt64 >>> ((Int32.toInt64 1).toUInt64 &&& Int64.toUInt64 63)).toInt64).toBitVec.toNat = v.toBitVec.toNat / 2 := by
  show ((v.toUInt64 >>> ((Int32.toInt64 1).toUInt64 &&& Int64.toUInt64 63)).toBitVec).toNat = _
  rw [UInt64.toBitVec_shiftRight]
  have : (((Int32.toInt64 1).toUInt64 &&& Int64.toUInt64 63).toBitVec % 64) = 1#64 := by decide
  rw [this]
  show (v.toBitVec >>> 1#64).toNat = _
  rw [BitVec.ushiftRight_eq', BitVec.toNat_ushiftRight]
  show v.toBitVec.toNat >>> 1 = _
  rw [Nat.shiftRight_eq_div_pow]
theorem sh_twice (v : Int64) : (v <<< (Int32.toInt64 1 &&& 63)).toBitVec.toNat = (2 * v.toBitVec.toNat) % 2 ^ 64 := by
  rw [Int64.toBitVec_shiftLeft]
  have : (Int32.toInt64 1 &&& 63).toBitVec.smod 64 = 1#64 := by decide
  rw [this, BitVec.shiftLeft_eq', BitVec.toNat_shiftLeft]
  show v.toBitVec.toNat <<< 1 % 2 ^ 64 = _
  rw [Nat.shiftLeft_eq, Nat.mul_comm]
theorem sh_308u {v w : Int64} {m : sh_X} {k : Int32} (hk : ¬ k = 2) (hw : ¬ w = 0) : ∃ q, sf_308 k v w m = some q ∧ q.toBitVec.toNat = v.toBitVec.toNat / w.toBitVec.toNat := by
  have lv := v.toBitVec.isLt
  have lw := w.toBitVec.isLt
  have w0 : 0 < w.toBitVec.toNat := by
    have : ¬ w.toBitVec.toNat = 0 := fun q => hw ((sh_zero_iff w).mpr q)
    omega
  unfold sf_308
  rw [if_neg hw, if_neg hk]
  by_cases hwn : w < 0
  · have g := (sh_neg_iff w).mp hwn
    rw [if_pos hwn, sh_307u]
    by_cases h : v.toBitVec.toNat < w.toBitVec.toNat
    · rw [decide_eq_true h, if_pos rfl, Nat.div_eq_of_lt h]; exact ⟨0, rfl, rfl⟩
    · rw [decide_eq_false h, if_neg (by decide), Nat.div_eq_sub_div w0 (by omega), Nat.div_eq_of_lt (by omega)]; exact ⟨1, rfl, rfl⟩
  · have g : ¬ 2 ^ 63 ≤ w.toBitVec.toNat := fun q => hwn ((sh_neg_iff w).mpr q)
    rw [if_neg hwn]
    by_cases hvn : v < 0
    · rw [if_pos hvn, if_pos hw]
      have eh := sh_half v
      generalize (v.toUInt64 >>> ((Int32.toInt64 1).toUInt64 &&& Int64.toUInt64 63)).toInt64 = hv at eh ⊢
      have e1 := sh_sdiv_u (v := hv) (w := w) (by omega) (by omega)
      generalize hv / w = d at e1 ⊢
      have e2 := sh_twice d
      generalize d <<< (Int32.toInt64 1 &&& 63) = t at e2 ⊢
      rw [eh] at e1
      have dm := Nat.div_add_mod (v.toBitVec.toNat / 2) w.toBitVec.toNat
      rw [← e1] at dm
      have ml := Nat.mod_lt (v.toBitVec.toNat / 2) w0
      have dle : d.toBitVec.toNat ≤ w.toBitVec.toNat * d.toBitVec.toNat := Nat.le_mul_of_pos_left _ w0
      have e3 : t.toBitVec.toNat = 2 * d.toBitVec.toNat := by rw [e2]; exact Nat.mod_eq_of_lt (by omega)
      have e4 : (v - t * w).toBitVec.toNat = v.toBitVec.toNat - w.toBitVec.toNat * (2 * d.toBitVec.toNat) := by
        have m2 : w.toBitVec.toNat * (2 * d.toBitVec.toNat) = 2 * (w.toBitVec.toNat * d.toBitVec.toNat) := by rw [← Nat.mul_assoc, Nat.mul_comm _ 2, Nat.mul_assoc]
        rw [Int64.toBitVec_sub, Int64.toBitVec_mul, BitVec.toNat_sub, BitVec.toNat_mul, e3, Nat.mul_comm (2 * d.toBitVec.toNat), m2, Nat.mod_eq_of_lt (a := 2 * (w.toBitVec.toNat * d.toBitVec.toNat)) (by omega)]
        omega
      have m2 : w.toBitVec.toNat * (2 * d.toBitVec.toNat) = 2 * (w.toBitVec.toNat * d.toBitVec.toNat) := by rw [← Nat.mul_assoc, Nat.mul_comm _ 2, Nat.mul_assoc]
      rw [sh_307u, e4]
      by_cases h : v.toBitVec.toNat - w.toBitVec.toNat * (2 * d.toBitVec.toNat) < w.toBitVec.toNat
      · rw [decide_eq_true h, if_pos rfl]
        refine ⟨_, rfl, ?_⟩
        rw [e3]
        symm
        rw [Nat.div_eq_iff w0, Nat.mul_comm]
        omega
      · rw [decide_eq_false h, if_neg (by decide)]
        refine ⟨_, rfl, ?_⟩
        have l2 : t.toBitVec.toNat + 1 < 2 ^ 64 := by omega
        have : (t + 1).toBitVec.toNat = t.toBitVec.toNat + 1 := by
          rw [Int64.toBitVec_add, BitVec.toNat_add]
          exact Nat.mod_eq_of_lt l2
        rw [this, e3]
        symm
        rw [Nat.div_eq_iff w0, Nat.add_mul, Nat.mul_comm]
        omega
    · have g2 : ¬ 2 ^ 63 ≤ v.toBitVec.toNat := fun q => hvn ((sh_neg_iff v).mpr q)
      rw [if_neg hvn, if_pos hw]
      exact ⟨_, rfl, sh_sdiv_u (by omega) (by omega)⟩
theorem sh_308i {v w : Int64} {m : sh_X} (hw : ¬ w = 0) : ∃ q, sf_308 2 v w m = some q ∧ sh_cg (2 ^ 64 : Nat) q.toInt (v.toInt.tdiv w.toInt) := by
  unfold sf_308
  rw [if_neg hw, if_pos rfl]
  by_cases h : w = -1
  · rw [if_pos h]
    refine ⟨_, rfl, ?_⟩
    rw [h, Int64.toInt_neg]
    have : v.toInt.tdiv ((-1 : Int64).toInt) = -v.toInt := by
      rw [show ((-1 : Int64).toInt) = -1 from by decide, Int.tdiv_neg, Int.tdiv_one]
    rw [this]
    exact sh_cg_bmod
  · rw [if_neg h, if_pos hw]
    refine ⟨_, rfl, ?_⟩
    rw [Int64.toInt_div]
    exact sh_cg_bmod
theorem sh_308z {v : Int64} {m : sh_X} {k : Int32} : sf_308 k v 0 m = some (-1) := by
  unfold sf_308
  rw [if_pos rfl]
