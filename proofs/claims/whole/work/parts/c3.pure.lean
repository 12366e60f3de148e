/-! INDEXES: which element is meant -/
theorem sh_isx_iff {a b : Nat → Bool} : ∀ n, sh_isx a b n = true ↔ ∀ j, j < n → a j = b j
  | 0 => ⟨fun _ j hj => absurd hj (by omega), fun _ => rfl⟩
  | n + 1 => by
    show (sh_isx a b n && (if b n = true then a n else !a n)) = true ↔ _
    rw [Bool.and_eq_true, sh_isx_iff n]
    have e : (if b n = true then a n else !a n) = true ↔ a n = b n := by
      cases b n <;> cases a n <;> decide
    rw [e]
    constructor
    · rintro ⟨h1, h2⟩ j hj
      by_cases q : j = n
      · rw [q]; exact h2
      · exact h1 j (by omega)
    · intro h
      exact ⟨fun j hj => h j (by omega), h n (by omega)⟩
theorem sh_nat64 {k : Nat} (hk : k < 2147483648) : (Int32.toInt64 (Int32.ofNat k)).toInt = (k : Int) := by rw [Int32.toInt_toInt64, sh_nI hk]
theorem sh_pwc (n : Nat) : ((2 ^ n : Nat) : Int) = 2 ^ n := by push_cast; rfl
/-- an index says j just if it is j -/
theorem sh_hit_iff {k b j : Nat} (h : sh_typ k b 0) (hk : k = 1 ∨ k = 2) (hj : j < 32) {a : Nat → Bool} {x : Int64} (ha : sh_Ft (decide (k = 2)) b a x) : sh_hit (Int32.ofNat (sh_te k b 0)) a b j = decide (x.toInt = (j : Int)) := by
  have b1 := h.b1
  have b2 := h.b2
  have ff : ¬ false = true := by decide
  have lo : sh_lo (Int32.toInt64 (Int32.ofNat j)) := by unfold sh_lo; rw [sh_nat64 (by omega)]; omega
  have e := sh_112 h lo
  have nv := sh_nv_lt a b
  have jlt : ∀ m, j < 2 ^ m → sh_nv (fun i => j.testBit i) m = j := fun m hm => by rw [sh_nv_of, Nat.mod_eq_of_lt hm]
  unfold sh_hit
  unfold sh_hs at e
  rw [sh_nat64 (by omega)] at e
  rcases hk with rfl | rfl
  · rw [show decide (1 = 2) = false from rfl] at ha
    have u := ha.u b2
    have xi : x.toInt = (j : Int) ↔ sh_nv a b = j := by
      have l := x.toBitVec.isLt
      have t : x.toInt = if 2 * x.toBitVec.toNat < 2 ^ 64 then (x.toBitVec.toNat : Int) else (x.toBitVec.toNat : Int) - ((2 ^ 64 : Nat) : Int) := BitVec.toInt_eq_toNat_cond x.toBitVec
      rw [u] at t l
      split at t <;> omega
    by_cases hh : sf_112 (Int32.ofNat (sh_te 1 b 0)) (Int32.toInt64 (Int32.ofNat j)) = true
    · rw [if_pos hh]
      have g := e.mp hh
      have jb : j < 2 ^ b := by
        rcases g.2 with ⟨_, _, q | q⟩ | ⟨q, _⟩
        · have : 2 ^ 60 ≤ 2 ^ b := Nat.pow_le_pow_right (by omega) q
          omega
        · rw [← sh_pwc] at q; omega
        · omega
      apply Bool.eq_iff_iff.mpr
      rw [sh_isx_iff, decide_eq_true_eq, xi]
      constructor
      · intro q; rw [sh_nv_cong q, jlt b jb]
      · intro q i hi
        exact sh_nv_inj (by rw [q, jlt b jb]) hi
    · rw [if_neg hh]
      symm
      rw [decide_eq_false_iff_not, xi]
      intro q
      apply hh
      apply e.mpr
      refine ⟨rfl, Or.inl ⟨rfl, by omega, ?_⟩⟩
      right
      rw [← sh_pwc]
      omega
  · rw [show decide (2 = 2) = true from rfl] at ha
    have u : x.toInt = sh_iv a b := ha.i b1 b2
    have sg := sh_sgn_iv (a := a) b1
    have top := sh_nv_top b1 a
    have lp := sh_nv_lt a (b - 1)
    have pp := sh_pow_pred b1
    have iv : sh_iv a b = (sh_nv a b : Int) - (if a (b - 1) = true then 2 ^ b else 0) := rfl
    by_cases hh : sf_112 (Int32.ofNat (sh_te 2 b 0)) (Int32.toInt64 (Int32.ofNat j)) = true
    · rw [if_pos hh]
      have g := e.mp hh
      have jb : j < 2 ^ (b - 1) := by
        rcases g.2 with ⟨q, _⟩ | ⟨_, q | q⟩
        · omega
        · have : 2 ^ 60 ≤ 2 ^ (b - 1) := Nat.pow_le_pow_right (by omega) (by omega)
          omega
        · have q2 := q.2
          rw [← sh_pwc] at q2; omega
      have jt : j.testBit (b - 1) = false := Nat.testBit_lt_two_pow jb
      apply Bool.eq_iff_iff.mpr
      rw [sh_isx_iff, decide_eq_true_eq, u]
      constructor
      · intro q
        have t := q (b - 1) (by omega)
        rw [iv, t, jt, if_neg ff, sh_nv_cong q, jlt b (by omega)]
        omega
      · intro q i hi
        have t : ¬ a (b - 1) = true := by
          rw [sg, q, decide_eq_true_eq]
          omega
        rw [iv, if_neg t] at q
        exact sh_nv_inj (by rw [jlt b (by omega)]; omega) hi
    · rw [if_neg hh]
      symm
      rw [decide_eq_false_iff_not, u]
      intro q
      apply hh
      apply e.mpr
      refine ⟨rfl, Or.inr ⟨rfl, Or.inr ⟨?_, ?_⟩⟩⟩
      · have := sh_pw0 (j := b - 1); omega
      · have t : ¬ a (b - 1) = true := by
          rw [sg, q, decide_eq_true_eq]
          omega
        rw [iv, if_neg t] at q
        rw [if_neg t] at top
        rw [← sh_pwc]
        omega
theorem sh_ea_hit {hit row : Nat → Bool} {n i : Nat} {x : Int} : ∀ el, (∀ k, k < el → hit k = decide (x = (k : Int))) → sh_ea hit row n el i = if 0 ≤ x ∧ x < (el : Int) then row (x.toNat * n + i) else false
  | 0, _ => by rw [if_neg (by omega)]; rfl
  | el + 1, h => by
    show Bool.xor (sh_ea hit row n el i) (hit el && row (el * n + i)) = _
    rw [sh_ea_hit el (fun k hk => h k (by omega)), h el (by omega)]
    by_cases hx : x = (el : Int)
    · rw [if_neg (by omega), decide_eq_true hx, if_pos (by omega), hx]
      show Bool.xor false (true && _) = _
      rw [Bool.true_and, Bool.false_xor]
      rfl
    · rw [decide_eq_false hx, Bool.false_and, Bool.xor_false]
      by_cases h2 : 0 ≤ x ∧ x < (el : Int)
      · rw [if_pos h2, if_pos (by omega)]
      · rw [if_neg h2, if_neg (by omega)]
