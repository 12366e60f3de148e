/-! numbers: what n bits are worth -/
def sh_nv (a : Nat → Bool) : Nat → Nat
  | 0 => 0
  | n + 1 => sh_nv a n + (if a n = true then 2 ^ n else 0)
theorem sh_nv_lt (a : Nat → Bool) : ∀ n, sh_nv a n < 2 ^ n
  | 0 => by show 0 < 2 ^ 0; decide
  | n + 1 => by
    have := sh_nv_lt a n
    show sh_nv a n + _ < 2 ^ (n + 1)
    rw [Nat.pow_succ]
    split <;> omega
theorem sh_nv_bit {a : Nat → Bool} : ∀ {n j : Nat}, j < n → (sh_nv a n).testBit j = a j := by
  intro n
  induction n with
  | zero => intro j hj; exact absurd hj (by omega)
  | succ n ih =>
    intro j hj
    show (sh_nv a n + _).testBit j = _
    have hlt := sh_nv_lt a n
    by_cases e : j = n
    · subst e
      cases h : a j
      · rw [if_neg (by decide), Nat.add_zero]; exact Nat.testBit_lt_two_pow hlt
      · rw [if_pos rfl, Nat.add_comm, Nat.testBit_two_pow_add_eq, Nat.testBit_lt_two_pow hlt]; rfl
    · split
      · rw [Nat.add_comm, Nat.testBit_two_pow_add_gt (by omega)]; exact ih (by omega)
      · rw [Nat.add_zero]; exact ih (by omega)
theorem sh_nv_cong {a b : Nat → Bool} : ∀ {n : Nat}, (∀ j, j < n → a j = b j) → sh_nv a n = sh_nv b n
  | 0, _ => rfl
  | n + 1, h => by
    show sh_nv a n + _ = sh_nv b n + _
    rw [sh_nv_cong (fun j hj => h j (by omega)), h n (by omega)]
/-- a number is what its bits are worth -/
theorem sh_nv_of {x n : Nat} : sh_nv (fun j => x.testBit j) n = x % 2 ^ n := by
  apply Nat.eq_of_testBit_eq
  intro i
  rw [Nat.testBit_mod_two_pow]
  by_cases hi : i < n
  · rw [sh_nv_bit hi]; simp [hi]
  · have h1 := sh_nv_lt (fun j => x.testBit j) n
    have h2 : (2 : Nat) ^ n ≤ 2 ^ i := Nat.pow_le_pow_right (by decide) (by omega)
    rw [Nat.testBit_lt_two_pow (by omega)]; simp [hi]
theorem sh_nv_inj {a b : Nat → Bool} {n : Nat} (h : sh_nv a n = sh_nv b n) {j : Nat} (hj : j < n) : a j = b j := by rw [← sh_nv_bit (a := a) hj, h, sh_nv_bit hj]
/-- the carry and the sum -/
theorem sh_nv_sum {a b : Nat → Bool} {c : Bool} : ∀ n, sh_nv (fun j => Bool.xor (Bool.xor (a j) (sh_cy a b c j)) (b j)) n + (if sh_cy a b c n = true then 2 ^ n else 0) = sh_nv a n + sh_nv b n + (if c = true then 1 else 0) := by
  intro n
  induction n with
  | zero => show 0 + (if c = true then 2 ^ 0 else 0) = _; cases c <;> rfl
  | succ n ih =>
    show sh_nv _ n + (if Bool.xor (Bool.xor (a n) (sh_cy a b c n)) (b n) = true then 2 ^ n else 0) + (if Bool.xor ((Bool.xor (a n) (sh_cy a b c n)) && (Bool.xor (b n) (sh_cy a b c n))) (sh_cy a b c n) = true then 2 ^ (n + 1) else 0) = (sh_nv a n + (if a n = true then 2 ^ n else 0)) + (sh_nv b n + (if b n = true then 2 ^ n else 0)) + _
    rw [Nat.pow_succ]
    revert ih
    generalize sh_nv (fun j => Bool.xor (Bool.xor (a j) (sh_cy a b c j)) (b j)) n = s
    generalize sh_cy a b c n = k
    generalize sh_nv a n = p
    generalize sh_nv b n = q
    generalize (if c = true then 1 else 0) = r
    generalize (2 : Nat) ^ n = t
    cases a n <;> cases b n <;> cases k <;> simp <;> omega
theorem sh_nv_not {b : Nat → Bool} : ∀ n, sh_nv (fun j => !b j) n + sh_nv b n + 1 = 2 ^ n
  | 0 => rfl
  | n + 1 => by
    have := sh_nv_not (b := b) n
    show (sh_nv _ n + (if (!b n) = true then 2 ^ n else 0)) + (sh_nv b n + (if b n = true then 2 ^ n else 0)) + 1 = 2 ^ (n + 1)
    rw [Nat.pow_succ]
    cases b n <;> simp <;> omega
/-- the carry of a difference says 'not less' -/
theorem sh_nv_ge {a b : Nat → Bool} {n : Nat} : sh_cy a (fun j => !b j) true n = decide (sh_nv b n ≤ sh_nv a n) := by
  have h1 := sh_nv_sum (a := a) (b := fun j => !b j) (c := true) n
  have h2 := sh_nv_not (b := b) n
  have h3 := sh_nv_lt (fun j => Bool.xor (Bool.xor (a j) (sh_cy a (fun j => !b j) true j)) (!b j)) n
  have h4 := sh_nv_lt a n
  cases h : sh_cy a (fun j => !b j) true n
  · rw [h, if_neg (by decide), if_pos rfl] at h1; symm; rw [decide_eq_false_iff_not]; omega
  · rw [h, if_pos rfl, if_pos rfl] at h1; symm; rw [decide_eq_true_eq]; omega
theorem sh_nv_diff {a b : Nat → Bool} {n : Nat} (h : sh_nv b n ≤ sh_nv a n) : sh_nv (fun j => Bool.xor (Bool.xor (a j) (sh_cy a (fun j => !b j) true j)) (!b j)) n = sh_nv a n - sh_nv b n := by
  have h1 := sh_nv_sum (a := a) (b := fun j => !b j) (c := true) n
  have h2 := sh_nv_not (b := b) n
  rw [sh_nv_ge (a := a) (b := b), decide_eq_true h, if_pos rfl, if_pos rfl] at h1
  omega
/-! longs -/
theorem sh_nv_long {v : Int64} {n : Nat} : sh_nv (sh_b v) n = v.toBitVec.toNat % 2 ^ n := sh_nv_of (x := v.toBitVec.toNat)
theorem sh_Ft.u {n : Nat} {a : Nat → Bool} {v : Int64} (h : sh_Ft false n a v) (hn : n ≤ 64) : v.toBitVec.toNat = sh_nv a n := by
  have e : sh_nv (sh_b v) 64 = v.toBitVec.toNat := by rw [sh_nv_long, Nat.mod_eq_of_lt v.toBitVec.isLt]
  have up : ∀ d, n + d ≤ 64 → sh_nv (sh_b v) (n + d) = sh_nv a n := by
    intro d
    induction d with
    | zero => intro _; exact sh_nv_cong (fun j hj => h.low hn hj)
    | succ d ih =>
      intro hd
      show sh_nv (sh_b v) (n + d) + (if sh_b v (n + d) = true then 2 ^ (n + d) else 0) = _
      rw [ih (by omega), h (n + d) (by omega)]
      have z : sh_ct a n false (n + d) = false := by unfold sh_ct; rw [if_neg (by omega), if_neg (by decide)]
      rw [z, if_neg (by decide), Nat.add_zero]
  rw [← e]
  have := up (64 - n) (by omega)
  rw [show n + (64 - n) = 64 by omega] at this
  exact this
theorem sh_nv_hi {b : Nat → Bool} {c : Bool} {n : Nat} (h : ∀ j, n ≤ j → j < 64 → b j = c) : ∀ d, n + d ≤ 64 → sh_nv b (n + d) = sh_nv b n + (if c = true then 2 ^ (n + d) - 2 ^ n else 0) := by
  intro d
  induction d with
  | zero => intro _; cases c <;> simp
  | succ d ih =>
    intro hd
    show sh_nv b (n + d) + (if b (n + d) = true then 2 ^ (n + d) else 0) = _
    rw [ih (by omega), h (n + d) (by omega) (by omega)]
    have : (2 : Nat) ^ n ≤ 2 ^ (n + d) := Nat.pow_le_pow_right (by decide) (by omega)
    cases c
    · simp
    · simp only [if_true]
      rw [show n + (d + 1) = n + d + 1 by omega, Nat.pow_succ 2 (n + d)]
      omega
/-- the worth of a number with a sign -/
theorem sh_Ft.i {n : Nat} {a : Nat → Bool} {v : Int64} (h : sh_Ft true n a v) (h1 : 1 ≤ n) (hn : n ≤ 64) : v.toInt = (sh_nv a n : Int) - (if a (n - 1) = true then 2 ^ n else 0) := by
  have e : sh_nv (sh_b v) 64 = v.toBitVec.toNat := by rw [sh_nv_long, Nat.mod_eq_of_lt v.toBitVec.isLt]
  have up := sh_nv_hi (b := sh_b v) (c := a (n - 1)) (n := n) (fun j hj hj2 => by rw [h j hj2]; unfold sh_ct; rw [if_neg (by omega), if_pos rfl]) (64 - n) (by omega)
  rw [show n + (64 - n) = 64 by omega, e, sh_nv_cong (b := a) (n := n) (fun j hj => h.low hn hj)] at up
  have lt := sh_nv_lt a n
  have p : (2 : Nat) ^ n ≤ 2 ^ 64 := Nat.pow_le_pow_right (by decide) hn
  have hs : sh_nv a n = sh_nv a (n - 1) + (if a (n - 1) = true then 2 ^ (n - 1) else 0) := by
    obtain ⟨k, rfl⟩ : ∃ k, n = k + 1 := ⟨n - 1, by omega⟩
    rfl
  have lt2 := sh_nv_lt a (n - 1)
  have p2 : (2 : Nat) ^ n = 2 * 2 ^ (n - 1) := by
    obtain ⟨k, rfl⟩ : ∃ k, n = k + 1 := ⟨n - 1, by omega⟩
    rw [Nat.pow_succ, Nat.mul_comm]; rfl
  show v.toBitVec.toInt = _
  have cp : ((2 ^ n : Nat) : Int) = 2 ^ n := by push_cast; rfl
  have ff : ¬ (false = true) := by decide
  cases ha : a (n - 1)
  · rw [ha, if_neg ff] at hs up
    rw [BitVec.toInt_eq_toNat_cond, up, if_pos (by omega), if_neg ff]; omega
  · rw [ha, if_pos rfl] at hs up
    rw [BitVec.toInt_eq_toNat_cond, up, if_neg (by omega), if_pos rfl, ← cp]
    omega
