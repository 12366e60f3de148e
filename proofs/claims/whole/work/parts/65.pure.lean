/-! BYTES of the text, and what letters, digits and parts of names are -/
def sh_by (I : Nat → Int32) (n i : Nat) : Int32 := if i < n then I i &&& 255 else -1
theorem sh_by_in {I : Nat → Int32} {n i : Nat} (h : i < n) : sh_by I n i = I i &&& 255 := if_pos h
theorem sh_by_out {I : Nat → Int32} {n i : Nat} (h : ¬ i < n) : sh_by I n i = -1 := if_neg h
/-- the text of the class; the text of the model -/
def sh_Bc (n : Nat) (m : sh_X) : Prop := (sh_rf m.T 2 5 = 1) ∧ (sh_ln m.T 1 = 4000) ∧ (m.I 2 6 = Int32.ofNat n) ∧ (n ≤ 4000)
theorem sh_Bc.rf {n : Nat} {m : sh_X} (h : sh_Bc n m) : sh_rf m.T 2 5 = 1 := h.1
theorem sh_Bc.ln {n : Nat} {m : sh_X} (h : sh_Bc n m) : sh_ln m.T 1 = 4000 := h.2.1
theorem sh_Bc.le {n : Nat} {m : sh_X} (h : sh_Bc n m) : m.I 2 6 = Int32.ofNat n := h.2.2.1
theorem sh_Bc.n4 {n : Nat} {m : sh_X} (h : sh_Bc n m) : n ≤ 4000 := h.2.2.2
theorem sh_Bc.mk {n : Nat} {m : sh_X} (rf : sh_rf m.T 2 5 = 1) (ln : sh_ln m.T 1 = 4000) (le : m.I 2 6 = Int32.ofNat n) (n4 : n ≤ 4000) : sh_Bc n m := ⟨rf, ln, le, n4⟩
theorem sh_26 {n i : Nat} {m : sh_X} (h : sh_Bc n m) (hi : i < 100000) : sf_26 (Int32.ofNat i) m = some (sh_by (m.I 1) n i) := by
  have n4 := h.n4
  unfold sf_26
  rw [if_neg (sh_nI0 (by omega)), h.le, h.rf, h.ln]
  by_cases hn : i < n
  · rw [if_pos ((sh_nIlt (by omega) (by omega)).mpr hn), if_pos ((sh_nIlt (by omega) (by omega)).mpr (by omega)), if_pos ((sh_okn (by omega)).mpr (by omega)), sh_nIc (by omega), sh_by_in hn]
  · rw [if_neg (fun q => hn ((sh_nIlt (by omega) (by omega)).mp q)), sh_by_out hn]
def sh_Bm (n : Nat) (m : sh_X) : Prop := (m.I 66 3 = Int32.ofNat n) ∧ (n ≤ 4000)
theorem sh_Bm.le {n : Nat} {m : sh_X} (h : sh_Bm n m) : m.I 66 3 = Int32.ofNat n := h.1
theorem sh_Bm.n4 {n : Nat} {m : sh_X} (h : sh_Bm n m) : n ≤ 4000 := h.2
theorem sh_Bm.mk {n : Nat} {m : sh_X} (le : m.I 66 3 = Int32.ofNat n) (n4 : n ≤ 4000) : sh_Bm n m := ⟨le, n4⟩
theorem sh_249 {n i : Nat} {m : sh_X} (h : sh_Bm n m) (hi : i < 100000) : sf_249 (Int32.ofNat i) m = some (sh_by (m.I 67) n i) := by
  have n4 := h.n4
  unfold sf_249
  rw [h.le]
  by_cases hn : i < n
  · rw [if_pos ((sh_nIlt (by omega) (by omega)).mpr hn), if_pos ((sh_okn (by omega)).mpr (by omega)), sh_nIc (by omega), sh_by_in hn]
  · rw [if_neg (fun q => hn ((sh_nIlt (by omega) (by omega)).mp q)), sh_by_out hn]
theorem sh_250 (c : Int32) : sf_250 c = sf_28 c := rfl
theorem sh_251 (c : Int32) : sf_251 c = sf_31 c := rfl
theorem sh_and255 (x : Int32) : 0 ≤ (x &&& 255).toInt ∧ (x &&& 255).toInt < 256 := by
  have h : (x &&& 255).toBitVec.toNat ≤ 255 := by
    show (x.toBitVec &&& (255 : Int32).toBitVec).toNat ≤ 255
    rw [BitVec.toNat_and]
    exact Nat.and_le_right
  have e : (x &&& 255).toInt = ((x &&& 255).toBitVec.toNat : Int) := by
    show (x &&& 255).toBitVec.toInt = _
    rw [BitVec.toInt_eq_toNat_of_lt (by omega)]
  omega
theorem sh_by_rng (I : Nat → Int32) (n i : Nat) : -1 ≤ (sh_by I n i).toInt ∧ (sh_by I n i).toInt < 256 := by
  unfold sh_by
  split
  · have := sh_and255 (I i); omega
  · exact ⟨by decide, by decide⟩
theorem sh_Ilt {a b : Int32} : a < b ↔ a.toInt < b.toInt := Int32.lt_iff_toInt_lt
theorem sh_Ieq {a b : Int32} : a = b ↔ a.toInt = b.toInt := Int32.toInt_inj.symm
theorem sh_dig (c : Int32) : sf_31 c = true ↔ (48 ≤ c.toInt ∧ c.toInt ≤ 57) := by
  have h1 : c < 48 ↔ c.toInt < 48 := sh_Ilt
  have h2 : 57 < c ↔ 57 < c.toInt := sh_Ilt
  unfold sf_31
  simp only [h1, h2]
  repeat' split
  all_goals (constructor <;> intro h <;> first | rfl | (cases h; done) | omega)
theorem sh_let (c : Int32) : sf_28 c = true ↔ ((97 ≤ c.toInt ∧ c.toInt ≤ 122) ∨ (65 ≤ c.toInt ∧ c.toInt ≤ 90)) := by
  have h1 : c < 97 ↔ c.toInt < 97 := sh_Ilt
  have h2 : 122 < c ↔ 122 < c.toInt := sh_Ilt
  have h3 : c < 65 ↔ c.toInt < 65 := sh_Ilt
  have h4 : 90 < c ↔ 90 < c.toInt := sh_Ilt
  unfold sf_28 sf_28_12 sf_28_24
  simp only [h1, h2, h3, h4]
  repeat' split
  all_goals (constructor <;> intro h <;> first | rfl | (cases h; done) | omega)
theorem sh_npt (c : Int32) : sf_30 c = true ↔ (sf_28 c = true ∨ sf_31 c = true ∨ c = 95) := by
  unfold sf_30 sf_30_20
  repeat' split
  all_goals simp_all
theorem sh_np_rng {c : Int32} (h : sf_30 c = true) : 48 ≤ c.toInt ∧ c.toInt ≤ 122 := by
  rcases (sh_npt c).mp h with h | h | h
  · have := (sh_let c).mp h; omega
  · have := (sh_dig c).mp h; omega
  · subst h; exact ⟨by decide, by decide⟩
theorem sh_np_m1 : ¬ sf_30 (-1) = true := fun h => absurd (sh_np_rng h).1 (by decide)
theorem sh_dig_m1 : ¬ sf_31 (-1) = true := fun h => absurd ((sh_dig _).mp h).1 (by decide)
theorem sh_let_m1 : ¬ sf_28 (-1) = true := fun h => sh_np_m1 ((sh_npt _).mpr (Or.inl h))
theorem sh_raw {x : Int32} (h0 : -128 ≤ x.toInt) (h1 : x.toInt ≤ 127) (h : (x &&& 255).toInt < 128) : x &&& 255 = x := by
  have e : (x &&& 255).toBitVec.toNat = x.toBitVec.toNat % 256 := by
    show (x.toBitVec &&& (255 : Int32).toBitVec).toNat = _
    rw [BitVec.toNat_and]
    exact Nat.and_two_pow_sub_one_eq_mod _ 8
  have e2 : (x &&& 255).toInt = ((x &&& 255).toBitVec.toNat : Int) := by
    show (x &&& 255).toBitVec.toInt = _
    rw [BitVec.toInt_eq_toNat_of_lt (by omega)]
  have e3 : x.toInt = if 2 * x.toBitVec.toNat < 2 ^ 32 then (x.toBitVec.toNat : Int) else (x.toBitVec.toNat : Int) - (2 ^ 32 : Nat) := BitVec.toInt_eq_toNat_cond x.toBitVec
  have := x.toBitVec.isLt
  apply sh_Ieq.mpr
  rw [e2, e]
  rw [e2, e] at h
  split at e3 <;> omega
