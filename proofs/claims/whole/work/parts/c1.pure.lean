/-! TYPES: the model's kind, bits and elements, and the class's number of a type -/
def sh_te (k b n : Nat) : Nat := (if k = 0 then 257 else if k = 1 then b else 128 + b) + 512 * n
def sh_typ (k b n : Nat) : Prop := ((k = 0 ∧ b = 1) ∨ (k = 1 ∧ 1 ≤ b ∧ b ≤ 64) ∨ (k = 2 ∧ 2 ≤ b ∧ b ≤ 64)) ∧ n ≤ 32
theorem sh_typ.kd {k b n : Nat} (h : sh_typ k b n) : sh_kd k b := by unfold sh_typ at h; unfold sh_kd; omega
theorem sh_typ.b1 {k b n : Nat} (h : sh_typ k b n) : 1 ≤ b := h.kd.n1
theorem sh_typ.b2 {k b n : Nat} (h : sh_typ k b n) : b ≤ 64 := h.kd.n2
theorem sh_typ.k2 {k b n : Nat} (h : sh_typ k b n) : k ≤ 2 := h.kd.k2
theorem sh_typ.n2 {k b n : Nat} (h : sh_typ k b n) : n ≤ 32 := h.2
theorem sh_typ.el {k b n : Nat} (h : sh_typ k b n) : sh_typ k b 0 := ⟨h.1, by omega⟩
theorem sh_te_lt {k b n : Nat} (h : sh_typ k b n) : sh_te k b n < 20000 ∧ 1 ≤ sh_te k b n := by
  unfold sh_typ at h
  unfold sh_te
  split
  · omega
  · split <;> omega
theorem sh_te_eq {k b n k2 b2 n2 : Nat} (h : sh_typ k b n) (g : sh_typ k2 b2 n2) : sh_te k b n = sh_te k2 b2 n2 ↔ (k = k2 ∧ b = b2 ∧ n = n2) := by
  unfold sh_typ at h g
  unfold sh_te
  constructor
  · intro q
    split at q <;> split at q <;> (try split at q) <;> (try split at q) <;> omega
  · rintro ⟨rfl, rfl, rfl⟩; rfl
theorem sh_te_I {k b n k2 b2 n2 : Nat} (h : sh_typ k b n) (g : sh_typ k2 b2 n2) : Int32.ofNat (sh_te k b n) = Int32.ofNat (sh_te k2 b2 n2) ↔ (k = k2 ∧ b = b2 ∧ n = n2) := by
  have := sh_te_lt h
  have := sh_te_lt g
  rw [sh_nIeq (by omega) (by omega), sh_te_eq h g]
theorem sh_te_0 {k b n : Nat} (h : sh_typ k b n) : ¬ Int32.ofNat (sh_te k b n) = 0 := by
  have := sh_te_lt h
  exact fun q => absurd ((sh_nIeq (b := 0) (by omega) (by omega)).mp q) (by omega)
theorem sh_iand {x k : Nat} : Int32.ofNat x &&& Int32.ofNat k = Int32.ofNat (x &&& k) := by
  rw [← Int32.toBitVec_inj, Int32.toBitVec_and]
  show BitVec.ofNat 32 x &&& BitVec.ofNat 32 k = BitVec.ofNat 32 (x &&& k)
  rw [BitVec.ofNat_and]
theorem sh_idiv {a b : Nat} (ha : a < 2147483648) (hb : b < 2147483648) : Int32.ofNat a / Int32.ofNat b = Int32.ofNat (a / b) := by
  have hd : a / b ≤ a := Nat.div_le_self a b
  have e : ((a : Int).tdiv (b : Int)) = ((a / b : Nat) : Int) := rfl
  rw [← Int32.toInt_inj, Int32.toInt_div, sh_nI ha, sh_nI hb, sh_nI (show a / b < 2147483648 by omega), e]
  generalize a / b = c at hd ⊢
  exact Int.bmod_eq_of_le (by omega) (by omega)
/-- width -/
theorem sh_94 {k b n : Nat} (h : sh_typ k b n) : sf_94 (Int32.ofNat (sh_te k b n)) = Int32.ofNat b := by
  unfold sf_94
  rw [show (127 : Int32) = Int32.ofNat 127 from rfl, sh_iand, Nat.and_two_pow_sub_one_eq_mod _ 7]
  congr 1
  unfold sh_typ at h
  unfold sh_te
  split
  · omega
  · split <;> omega
/-- elements -/
theorem sh_93 {k b n : Nat} (h : sh_typ k b n) : sf_93 (Int32.ofNat (sh_te k b n)) = Int32.ofNat n := by
  have l := sh_te_lt h
  unfold sf_93
  rw [show (512 : Int32) = Int32.ofNat 512 from rfl, sh_idiv (by omega) (by omega)]
  congr 1
  unfold sh_typ at h
  unfold sh_te
  split
  · omega
  · split <;> omega
def sh_mx (n : Nat) : Nat := if n = 0 then 1 else n
theorem sh_mx_1 (n : Nat) : 1 ≤ sh_mx n := by unfold sh_mx; split <;> omega
theorem sh_mx_le {n : Nat} (h : n ≤ 32) : sh_mx n ≤ 32 := by unfold sh_mx; split <;> omega
theorem sh_mx_pos {n : Nat} (h : 0 < n) : sh_mx n = n := by unfold sh_mx; split <;> omega
theorem sh_42_mx {n : Nat} (h : n < 2147483648) : sf_42 1 (Int32.ofNat n) = Int32.ofNat (sh_mx n) := by
  rw [show (1 : Int32) = Int32.ofNat 1 from rfl, sh_max (by omega) (by omega)]
  congr 1
  unfold sh_mx
  split <;> omega
/-- all bits -/
theorem sh_96t {k b n : Nat} (h : sh_typ k b n) : sf_96 (Int32.ofNat (sh_te k b n)) = Int32.ofNat (b * sh_mx n) := by
  have := h.n2
  unfold sf_96
  rw [sh_94 h, sh_93 h, sh_42_mx (by omega), sh_nImul]
theorem sh_123 {k b n : Nat} (h : sh_typ k b n) : sf_123 (Int32.ofNat (sh_te k b n)) = decide (0 < n) := by
  have l := sh_te_lt h
  unfold sf_123
  rw [show (512 : Int32) = Int32.ofNat 512 from rfl]
  have e : sh_te k b n < 512 ↔ ¬ 0 < n := by
    unfold sh_typ at h
    unfold sh_te
    split
    · omega
    · split <;> omega
  by_cases hn : 0 < n
  · rw [if_neg (fun q => (e.mp ((sh_nIlt (by omega) (by omega)).mp q)) hn), decide_eq_true hn]
  · rw [if_pos ((sh_nIlt (by omega) (by omega)).mpr (e.mpr hn)), decide_eq_false hn]
theorem sh_113 {k b n : Nat} (h : sh_typ k b n) : sf_113 (Int32.ofNat (sh_te k b n)) = decide (¬ k = 0 ∧ n = 0) := by
  have l := sh_te_lt h
  have e : sh_te k b n < 512 ↔ n = 0 := by
    unfold sh_typ at h
    unfold sh_te
    split
    · omega
    · split <;> omega
  have e2 : sh_te k b n = 257 ↔ (k = 0 ∧ n = 0) := by
    unfold sh_typ at h
    unfold sh_te
    split
    · omega
    · split <;> omega
  have c1 : Int32.ofNat (sh_te k b n) = 257 ↔ sh_te k b n = 257 := sh_nIeq (b := 257) (by omega) (by omega)
  have c2 : Int32.ofNat (sh_te k b n) < 512 ↔ sh_te k b n < 512 := sh_nIlt (b := 512) (by omega) (by omega)
  unfold sf_113
  rw [if_neg (sh_te_0 h)]
  by_cases h1 : sh_te k b n = 257
  · rw [if_pos (c1.mpr h1), decide_eq_false (by omega)]
  · rw [if_neg (fun q => h1 (c1.mp q))]
    by_cases h2 : sh_te k b n < 512
    · rw [if_pos (c2.mpr h2), decide_eq_true (by omega)]
    · rw [if_neg (fun q => h2 (c2.mp q)), decide_eq_false (by omega)]
theorem sh_sgb : ∀ x : Fin 512, (x.1 &&& 128 = 0) ↔ x.1 % 256 < 128 := by decide +kernel
theorem sh_and128 (x : Nat) : (x &&& 128 = 0) ↔ x % 256 < 128 := by
  have e : x &&& 128 = (x % 512) &&& 128 := by
    apply Nat.eq_of_testBit_eq
    intro i
    rw [Nat.testBit_and, Nat.testBit_and, show (512 : Nat) = 2 ^ 9 from rfl, Nat.testBit_mod_two_pow]
    by_cases hi : i < 9
    · rw [decide_eq_true hi, Bool.true_and]
    · rw [decide_eq_false hi, Bool.false_and, Bool.false_and]
      have : (128 : Nat).testBit i = false := Nat.testBit_lt_two_pow (Nat.lt_of_lt_of_le (by decide : 128 < 2 ^ 9) (Nat.pow_le_pow_right (by omega) (by omega)))
      rw [this, Bool.and_false]
  rw [e, sh_sgb ⟨x % 512, Nat.mod_lt _ (by omega)⟩]
  show x % 512 % 256 < 128 ↔ _
  omega
theorem sh_114 {k b n : Nat} (h : sh_typ k b n) : sf_114 (Int32.ofNat (sh_te k b n)) = decide (k = 2) := by
  have l := sh_te_lt h
  have e : sh_te k b n % 256 < 128 ↔ ¬ k = 2 := by
    unfold sh_typ at h
    unfold sh_te
    split
    · omega
    · split <;> omega
  have a := sh_and128 (sh_te k b n)
  have al : sh_te k b n &&& 128 ≤ 128 := Nat.and_le_right
  unfold sf_114
  rw [show (128 : Int32) = Int32.ofNat 128 from rfl, sh_iand]
  have c1 : Int32.ofNat (sh_te k b n &&& 128) = 0 ↔ sh_te k b n &&& 128 = 0 := sh_nIeq (b := 0) (by omega) (by omega)
  by_cases hk : k = 2
  · rw [if_neg (fun q => (e.mp (a.mp (c1.mp q))) hk), decide_eq_true hk]
  · rw [if_pos (c1.mpr (a.mpr (e.mpr hk))), decide_eq_false hk]
theorem sh_135 {k b n : Nat} (h : sh_typ k b n) : sf_135 (Int32.ofNat (sh_te k b n)) = Int32.ofNat (sh_te k b 0) := by
  have l := sh_te_lt h
  have e := sh_93 h
  unfold sf_93 at e
  unfold sf_135
  rw [e, show (512 : Int32) = Int32.ofNat 512 from rfl, sh_nImul, sh_nIsub (by unfold sh_te; omega)]
  congr 1
  unfold sh_te
  omega
theorem sh_138 {k b n k2 b2 n2 : Nat} (h : sh_typ k b n) (g : sh_typ k2 b2 n2) : sf_138 (Int32.ofNat (sh_te k b n)) (Int32.ofNat (sh_te k2 b2 n2)) = Int32.ofNat (n * (b + b2)) := by
  unfold sf_138
  rw [sh_93 h, sh_94 h, sh_94 g, sh_nIadd, sh_nImul]
