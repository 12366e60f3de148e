/-! NUMBERS: ints that are naturals -/
theorem sh_nI {n : Nat} (h : n < 2147483648) : (Int32.ofNat n).toInt = (n : Int) := Int32.toInt_ofNat_of_lt (by omega)
theorem sh_nI0 {n : Nat} (h : n < 2147483648) : ¬ Int32.ofNat n < 0 := by
  rw [Int32.lt_iff_toInt_lt, sh_nI h]
  show ¬ (n : Int) < 0
  omega
theorem sh_nIc {n : Nat} (h : n < 2147483648) : (Int32.ofNat n).toNatClampNeg = n := by
  show (Int32.ofNat n).toInt.toNat = n
  rw [sh_nI h]
  rfl
theorem sh_nIlt {a b : Nat} (ha : a < 2147483648) (hb : b < 2147483648) : Int32.ofNat a < Int32.ofNat b ↔ a < b := by
  rw [Int32.lt_iff_toInt_lt, sh_nI ha, sh_nI hb]
  omega
theorem sh_nIeq {a b : Nat} (ha : a < 2147483648) (hb : b < 2147483648) : Int32.ofNat a = Int32.ofNat b ↔ a = b := by
  rw [← Int32.toInt_inj, sh_nI ha, sh_nI hb]
  omega
theorem sh_nIadd {a b : Nat} : Int32.ofNat a + Int32.ofNat b = Int32.ofNat (a + b) := (Int32.ofNat_add a b).symm
theorem sh_nIsub {a b : Nat} (h : b ≤ a) : Int32.ofNat a - Int32.ofNat b = Int32.ofNat (a - b) := by
  have e : Int32.ofNat a = Int32.ofNat (a - b) + Int32.ofNat b := by rw [sh_nIadd, Nat.sub_add_cancel h]
  rw [e, Int32.add_sub_cancel]
theorem sh_okn {n k : Nat} (h : n < 2147483648) : sh_okb (Int32.ofNat n) k = true ↔ n < k := by
  unfold sh_okb
  rw [sh_nIc h, Bool.and_eq_true, decide_eq_true_eq]
  exact ⟨fun q => q.2, fun q => ⟨by rw [decide_eq_false (sh_nI0 h)]; rfl, q⟩⟩
theorem sh_nar {n : Nat} (h : n < 128) : vp_nar .byte (Int32.ofNat n).toInt8.toInt32 = Int32.ofNat n := by
  have : ∀ n : Fin 128, vp_nar .byte (Int32.ofNat n.1).toInt8.toInt32 = Int32.ofNat n.1 := by decide +kernel
  exact this ⟨n, h⟩
