/-! numbers: division of sizes -/
theorem sh_nv_dS {R : Nat → Bool} {x : Bool} : ∀ n, sh_nv (sh_dS R x) (n + 1) = 2 * sh_nv R n + (if x = true then 1 else 0)
  | 0 => by
    show 0 + (if (if (0 : Nat) = 0 then x else R (0 - 1)) = true then 2 ^ 0 else 0) = 2 * 0 + _
    cases x <;> rfl
  | n + 1 => by
    show sh_nv (sh_dS R x) (n + 1) + (if sh_dS R x (n + 1) = true then 2 ^ (n + 1) else 0) = 2 * (sh_nv R n + (if R n = true then 2 ^ n else 0)) + _
    rw [sh_nv_dS n, Nat.pow_succ]
    have : sh_dS R x (n + 1) = R n := by unfold sh_dS; rw [if_neg (by omega)]; rfl
    rw [this]
    cases R n <;> simp <;> omega
theorem sh_dF_iff {S b : Nat → Bool} {n : Nat} : sh_dF S b n = decide (sh_nv b n ≤ sh_nv S (n + 1)) := by
  unfold sh_dF
  rw [sh_nv_ge]
  have lb := sh_nv_lt b n
  have e : sh_nv S (n + 1) = sh_nv S n + (if S n = true then 2 ^ n else 0) := rfl
  cases h : S n
  · rw [h] at e; simp only [if_neg (show ¬ false = true by decide)] at e
    rw [Bool.false_or, e]; rfl
  · rw [h] at e; simp only [if_true] at e
    rw [Bool.true_or]; symm; rw [decide_eq_true_eq]; omega
theorem sh_dN_nv {S b : Nat → Bool} {n : Nat} (h : sh_nv S (n + 1) - sh_nv b n < 2 ^ n) : sh_nv (sh_dN S b n) n = if sh_nv b n ≤ sh_nv S (n + 1) then sh_nv S (n + 1) - sh_nv b n else sh_nv S (n + 1) := by
  have lb := sh_nv_lt b n
  have e : sh_nv S (n + 1) = sh_nv S n + (if S n = true then 2 ^ n else 0) := rfl
  have ls := sh_nv_lt S n
  by_cases hf : sh_nv b n ≤ sh_nv S (n + 1)
  · rw [if_pos hf]
    have e2 : sh_nv (sh_dN S b n) n = sh_nv (fun j => Bool.xor (Bool.xor (S j) (sh_cy S (fun j => !b j) true j)) (!b j)) n := by
      apply sh_nv_cong
      intro j hj
      unfold sh_dN
      rw [if_pos (by rw [sh_dF_iff]; exact decide_eq_true hf)]
    have h1 := sh_nv_sum (a := S) (b := fun j => !b j) (c := true) n
    have h2 := sh_nv_not (b := b) n
    have h3 := sh_nv_lt (fun j => Bool.xor (Bool.xor (S j) (sh_cy S (fun j => !b j) true j)) (!b j)) n
    rw [sh_nv_ge, if_pos rfl] at h1
    rw [e2]
    have ff : ¬ false = true := by decide
    cases hs : S n
    · rw [hs, if_neg ff] at e
      rw [decide_eq_true (by omega), if_pos rfl] at h1
      omega
    · rw [hs, if_pos rfl] at e
      by_cases q : sh_nv b n ≤ sh_nv S n
      · omega
      · rw [decide_eq_false q, if_neg ff] at h1
        omega
  · rw [if_neg hf]
    have e2 : sh_nv (sh_dN S b n) n = sh_nv S n := by
      apply sh_nv_cong
      intro j hj
      unfold sh_dN
      rw [if_neg (by rw [sh_dF_iff]; simp; omega)]
    rw [e2]
    split at e <;> omega
theorem sh_div_pow {A n t : Nat} (ht : t < n) : A / 2 ^ (n - (t + 1)) = 2 * (A / 2 ^ (n - t)) + (if A.testBit (n - 1 - t) = true then 1 else 0) := by
  have e1 : n - t = (n - (t + 1)) + 1 := by omega
  rw [e1, Nat.pow_succ, ← Nat.div_div_eq_div_mul, show n - 1 - t = n - (t + 1) by omega]
  have : A.testBit (n - (t + 1)) = decide (A / 2 ^ (n - (t + 1)) % 2 = 1) := Nat.testBit_eq_decide_div_mod_eq
  rw [this]
  by_cases q : A / 2 ^ (n - (t + 1)) % 2 = 1
  · rw [decide_eq_true q, if_pos rfl]; omega
  · rw [decide_eq_false q, if_neg (by decide)]; omega
/-- 2 X + x by B, from X by B -/
theorem sh_mod_step {X B x : Nat} (hx : x ≤ 1) : (2 * X + x) % B = if B ≤ 2 * (X % B) + x then 2 * (X % B) + x - B else 2 * (X % B) + x := by
  by_cases hB : B = 0
  · subst hB; simp
  · have h1 : X % B < B := Nat.mod_lt _ (by omega)
    have h2 : (2 * X + x) % B = (2 * (X % B) + x) % B := by
      have e : 2 * X + x = (2 * (X % B) + x) + B * (2 * (X / B)) := by
        have := Nat.div_add_mod X B
        have e2 : B * (2 * (X / B)) = 2 * (B * (X / B)) := by rw [← Nat.mul_assoc, Nat.mul_comm B 2, Nat.mul_assoc]
        omega
      rw [e, Nat.add_mul_mod_self_left]
    rw [h2]
    split
    · rename_i q
      rw [Nat.mod_eq_sub_mod q, Nat.mod_eq_of_lt (by omega)]
    · exact Nat.mod_eq_of_lt (by omega)
theorem sh_div_step {X B x : Nat} (hx : x ≤ 1) (hB : 0 < B) : (2 * X + x) / B = 2 * (X / B) + (if B ≤ 2 * (X % B) + x then 1 else 0) := by
  have h1 : X % B < B := Nat.mod_lt _ hB
  have e : 2 * X + x = (2 * (X % B) + x) + B * (2 * (X / B)) := by
    have := Nat.div_add_mod X B
    have e2 : B * (2 * (X / B)) = 2 * (B * (X / B)) := by rw [← Nat.mul_assoc, Nat.mul_comm B 2, Nat.mul_assoc]
    omega
  rw [e, Nat.add_mul_div_left _ _ hB]
  split
  · rename_i q
    have : (2 * (X % B) + x) / B = 1 := by
      rw [Nat.div_eq_sub_div hB q, Nat.div_eq_of_lt (by omega)]
    omega
  · rw [Nat.div_eq_of_lt (by omega)]; omega
/-- what is left behind t steps -/
theorem sh_dR_nv {a b : Nat → Bool} {n : Nat} : ∀ t, t ≤ n → sh_nv (sh_dR a b n t) n = (sh_nv a n / 2 ^ (n - t)) % sh_nv b n := by
  intro t
  induction t with
  | zero =>
    intro _
    have z : ∀ m, sh_nv (sh_dR a b n 0) m = 0 := by
      intro m
      induction m with
      | zero => rfl
      | succ m ih => show sh_nv (sh_dR a b n 0) m + (if false = true then _ else 0) = 0; rw [ih]; rfl
    rw [z, Nat.sub_zero, Nat.div_eq_of_lt (sh_nv_lt a n), Nat.zero_mod]
  | succ t ih =>
    intro ht
    have i1 := ih (by omega)
    show sh_nv (sh_dN (sh_dS (sh_dR a b n t) (a (n - 1 - t))) b n) n = _
    have eS := sh_nv_dS (R := sh_dR a b n t) (x := a (n - 1 - t)) n
    rw [i1] at eS
    have eb : (sh_nv a n).testBit (n - 1 - t) = a (n - 1 - t) := sh_nv_bit (by omega)
    have ed := sh_div_pow (A := sh_nv a n) (n := n) (t := t) (by omega)
    rw [eb] at ed
    have x1 : (if a (n - 1 - t) = true then 1 else 0) ≤ 1 := by split <;> omega
    have lt : sh_nv a n / 2 ^ (n - (t + 1)) < 2 ^ (t + 1) := by
      rw [Nat.div_lt_iff_lt_mul (Nat.two_pow_pos _), ← Nat.pow_add, show t + 1 + (n - (t + 1)) = n by omega]
      exact sh_nv_lt a n
    have lt2 : (2 : Nat) ^ (t + 1) ≤ 2 ^ n := Nat.pow_le_pow_right (by decide) ht
    have lb := sh_nv_lt b n
    rw [sh_dN_nv]
    · rw [ed, sh_mod_step x1, eS]
    · rw [eS]
      by_cases hB : sh_nv b n = 0
      · rw [hB, Nat.mod_zero]; omega
      · have : (sh_nv a n / 2 ^ (n - t)) % sh_nv b n < sh_nv b n := Nat.mod_lt _ (by omega)
        omega
theorem sh_dq_rest {a b : Nat → Bool} {n : Nat} : sh_nv (sh_dq true a b n) n = sh_nv a n % sh_nv b n := by
  have : sh_nv (sh_dq true a b n) n = sh_nv (sh_dR a b n n) n := sh_nv_cong (fun j _ => by unfold sh_dq; rw [if_pos rfl])
  rw [this, sh_dR_nv n (Nat.le_refl _), Nat.sub_self, Nat.pow_zero, Nat.div_one]
theorem sh_dq_bit {a b : Nat → Bool} {n j : Nat} (hj : j < n) : sh_dq false a b n j = decide (sh_nv b n = 0 ∨ (sh_nv a n / sh_nv b n).testBit j = true) := by
  unfold sh_dq
  rw [if_neg (by decide), sh_dF_iff, sh_nv_dS, sh_dR_nv _ (by omega)]
  have eb : (sh_nv a n).testBit j = a j := sh_nv_bit hj
  have ed := sh_div_pow (A := sh_nv a n) (n := n) (t := n - 1 - j) (by omega)
  rw [show n - 1 - (n - 1 - j) = j by omega, eb, show n - (n - 1 - j + 1) = j by omega] at ed
  have x1 : (if a j = true then 1 else 0) ≤ 1 := by split <;> omega
  rw [decide_eq_decide]
  by_cases hB : sh_nv b n = 0
  · rw [hB]; simp
  · have hB' : 0 < sh_nv b n := by omega
    have e2 := sh_div_step (X := sh_nv a n / 2 ^ (n - (n - 1 - j))) x1 hB'
    rw [← ed] at e2
    have e3 : sh_nv a n / sh_nv b n / 2 ^ j = sh_nv a n / 2 ^ j / sh_nv b n := by rw [Nat.div_div_eq_div_mul, Nat.div_div_eq_div_mul, Nat.mul_comm]
    rw [Nat.testBit_eq_decide_div_mod_eq, e3, e2, decide_eq_true_eq]
    constructor
    · intro q; right; rw [if_pos q]; omega
    · rintro (q | q)
      · exact absurd q hB
      · apply Classical.byContradiction
        intro k
        rw [if_neg k] at q; omega
theorem sh_dq_quot {a b : Nat → Bool} {n : Nat} (hB : ¬ sh_nv b n = 0) : sh_nv (sh_dq false a b n) n = sh_nv a n / sh_nv b n := by
  have l : sh_nv a n / sh_nv b n < 2 ^ n := Nat.lt_of_le_of_lt (Nat.div_le_self _ _) (sh_nv_lt a n)
  rw [← Nat.mod_eq_of_lt l, ← sh_nv_of]
  apply sh_nv_cong
  intro j hj
  rw [sh_dq_bit hj]
  simp [hB]
