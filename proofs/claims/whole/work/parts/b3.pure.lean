/-! numbers: a long as its bits -/
/-- the bit j of a long -/
def sh_b (v : Int64) (j : Nat) : Bool := v.toBitVec.getLsbD j
/-- a long holds n bits a, with or without a sign -/
def sh_Ft (s : Bool) (n : Nat) (a : Nat → Bool) (v : Int64) : Prop := ∀ j, j < 64 → sh_b v j = sh_ct a n s j
theorem sh_b_ext {v w : Int64} (h : ∀ j, j < 64 → sh_b v j = sh_b w j) : v = w := by
  rw [← Int64.toBitVec_inj]
  exact BitVec.eq_of_getLsbD_eq (fun j hj => h j hj)
theorem sh_Ft.low {s : Bool} {n : Nat} {a : Nat → Bool} {v : Int64} (h : sh_Ft s n a v) (hn : n ≤ 64) {j : Nat} (hj : j < n) : sh_b v j = a j := by
  rw [h j (by omega)]
  unfold sh_ct
  rw [if_pos hj]
theorem sh_Ft.uniq {s : Bool} {n : Nat} {a : Nat → Bool} {v w : Int64} (h : sh_Ft s n a v) (g : sh_Ft s n a w) : v = w := sh_b_ext (fun j hj => by rw [h j hj, g j hj])
theorem sh_ct_cong {a b : Nat → Bool} {n : Nat} {s : Bool} (h1 : 1 ≤ n) (h : ∀ j, j < n → a j = b j) (j : Nat) : sh_ct a n s j = sh_ct b n s j := by
  unfold sh_ct
  by_cases hj : j < n
  · rw [if_pos hj, if_pos hj, h j hj]
  · rw [if_neg hj, if_neg hj, h (n - 1) (by omega)]
theorem sh_Ft.cong {s : Bool} {n : Nat} {a b : Nat → Bool} {v : Int64} (h : sh_Ft s n a v) (h1 : 1 ≤ n) (he : ∀ j, j < n → a j = b j) : sh_Ft s n b v := fun j hj => by rw [h j hj, sh_ct_cong h1 he]
theorem sh_mask : ∀ n : Fin 64, (((1 : Int64) <<< (Int32.toInt64 (Int32.ofNat n.1) &&& 63)) - (1 : Int64)).toBitVec = BitVec.ofNat 64 (2 ^ n.1 - 1) := by decide +kernel
theorem sh_mask2 : ∀ n : Fin 64, ((1 : Int64) <<< (Int32.toInt64 (Int32.ofNat n.1) &&& 63)).toBitVec = - (~~~ (BitVec.ofNat 64 (2 ^ n.1 - 1))) := by decide +kernel
theorem sh_low {n : Nat} (hn : n < 64) (x : Int64) {j : Nat} (hj : j < 64) : sh_b (x &&& (((1 : Int64) <<< (Int32.toInt64 (Int32.ofNat n) &&& 63)) - (1 : Int64))) j = (decide (j < n) && sh_b x j) := by
  unfold sh_b
  rw [Int64.toBitVec_and, BitVec.getLsbD_and, sh_mask ⟨n, hn⟩, BitVec.getLsbD_ofNat, Nat.testBit_two_pow_sub_one]
  simp only [hj, decide_true, Bool.true_and]
  exact Bool.and_comm _ _
/-- fitted: the low bits, and the sign over them -/
theorem sh_288 {n : Nat} (h1 : 1 ≤ n) (hn : n ≤ 64) (k : Int32) (x : Int64) : sh_Ft (decide (k = 2)) n (sh_b x) (sf_288 k (Int32.ofNat n) x) := by
  intro j hj
  unfold sf_288
  by_cases h64 : n = 64
  · subst h64
    rw [if_pos (by rfl : (Int32.ofNat 64 : Int32) = 64)]
    unfold sh_ct
    rw [if_pos hj]
  have hn' : n < 64 := by omega
  have c64 : ¬ Int32.ofNat n = (64 : Int32) := fun q => h64 ((sh_nIeq (a := n) (b := 64) (by omega) (by omega)).mp q)
  rw [if_neg c64]
  have e1 : Int32.ofNat n - 1 = Int32.ofNat (n - 1) := sh_nIsub (b := 1) h1
  have pos : sh_b (x &&& (((1 : Int64) <<< (Int32.toInt64 (Int32.ofNat n) &&& 63)) - (1 : Int64))) j = sh_ct (sh_b x) n false j := by
    rw [sh_low hn' x hj]
    unfold sh_ct
    by_cases hjn : j < n
    · rw [if_pos hjn]; simp [hjn]
    · rw [if_neg hjn]; simp [hjn]
  by_cases hk : k = 2
  · rw [if_pos hk, e1, sh_lbit _ (by omega : n - 1 < 64)]
    have eb : (x &&& (((1 : Int64) <<< (Int32.toInt64 (Int32.ofNat n) &&& 63)) - (1 : Int64))).toBitVec.getLsbD (n - 1) = sh_b x (n - 1) := by
      have := sh_low hn' x (by omega : n - 1 < 64)
      unfold sh_b at this ⊢
      rw [this]
      simp; omega
    rw [eb]
    simp only [hk, decide_true]
    by_cases ht : sh_b x (n - 1) = true
    · rw [if_pos (by rw [if_pos ht])]
      have : (sh_b ((x &&& (((1 : Int64) <<< (Int32.toInt64 (Int32.ofNat n) &&& 63)) - (1 : Int64))) - ((1 : Int64) <<< (Int32.toInt64 (Int32.ofNat n) &&& 63))) j) = ((decide (j < n) && sh_b x j) || !decide (j < n)) := by
        unfold sh_b
        rw [Int64.toBitVec_sub, Int64.toBitVec_and, sh_mask ⟨n, hn'⟩, sh_mask2 ⟨n, hn'⟩, BitVec.sub_eq_add_neg, BitVec.neg_neg, BitVec.add_eq_or_of_and_eq_zero, BitVec.getLsbD_or, BitVec.getLsbD_and, BitVec.getLsbD_not, BitVec.getLsbD_ofNat, Nat.testBit_two_pow_sub_one]
        · simp only [hj, decide_true, Bool.true_and]
          rw [Bool.and_comm]
        · rw [BitVec.and_assoc, BitVec.and_not_self]; exact BitVec.and_zero
      rw [this]
      unfold sh_ct
      by_cases hjn : j < n
      · rw [if_pos hjn]; simp [hjn]
      · rw [if_neg hjn, if_pos rfl, ht]; simp [hjn]
    · rw [if_neg (by rw [if_neg ht]; decide), pos]
      unfold sh_ct
      by_cases hjn : j < n
      · rw [if_pos hjn, if_pos hjn]
      · rw [if_neg hjn, if_neg hjn, if_neg (by decide), if_pos rfl, Bool.eq_false_iff.mpr ht]
  · rw [if_neg hk, pos]
    simp only [hk, decide_false]
/-- what is fitted has the bits that its source has below -/
theorem sh_fitp {n : Nat} (h1 : 1 ≤ n) (hn : n ≤ 64) (k : Int32) {x : Int64} {c : Nat → Bool} (h : ∀ j, j < n → sh_b x j = c j) : sh_Ft (decide (k = 2)) n c (sf_288 k (Int32.ofNat n) x) := (sh_288 h1 hn k x).cong h1 h
theorem sh_Ft.self {k : Int32} {n : Nat} (h1 : 1 ≤ n) (hn : n ≤ 64) {a : Nat → Bool} {v : Int64} (h : sh_Ft (decide (k = 2)) n a v) : sf_288 k (Int32.ofNat n) v = v := (sh_fitp h1 hn k (fun _ hj => h.low hn hj)).uniq h
/-! sums -/
theorem sh_cy_of {a b : Nat → Bool} {x y : BitVec 64} (c : Bool) : ∀ (i : Nat), (∀ j, j < i → x.getLsbD j = a j) → (∀ j, j < i → y.getLsbD j = b j) → BitVec.carry i x y c = sh_cy a b c i := by
  intro i
  induction i with
  | zero => intro _ _; rw [BitVec.carry_zero]; rfl
  | succ i ih =>
    intro ha hb
    rw [BitVec.carry_succ, ih (fun j hj => ha j (by omega)) (fun j hj => hb j (by omega)), ha i (by omega), hb i (by omega)]
    show Bool.atLeastTwo _ _ _ = Bool.xor ((Bool.xor (a i) (sh_cy a b c i)) && (Bool.xor (b i) (sh_cy a b c i))) (sh_cy a b c i)
    cases a i <;> cases b i <;> cases sh_cy a b c i <;> rfl
theorem sh_add_b {a b : Nat → Bool} {v w : Int64} {n : Nat} (hn : n ≤ 64) (ha : ∀ j, j < n → sh_b v j = a j) (hb : ∀ j, j < n → sh_b w j = b j) {j : Nat} (hj : j < n) : sh_b (v + w) j = sh_sm false a b j := by
  unfold sh_b sh_sm
  rw [Int64.toBitVec_add, BitVec.getLsbD_add (by omega), sh_cy_of (a := a) (b := fun j => Bool.xor (b j) false) false j (fun i hi => ha i (by omega)) (fun i hi => by rw [Bool.xor_false]; exact hb i (by omega))]
  have e1 : v.toBitVec.getLsbD j = a j := ha j hj
  have e2 : w.toBitVec.getLsbD j = b j := hb j hj
  rw [e1, e2]
  generalize sh_cy a (fun j => Bool.xor (b j) false) false j = c
  cases a j <;> cases b j <;> cases c <;> rfl
theorem sh_sub_b {a b : Nat → Bool} {v w : Int64} {n : Nat} (hn : n ≤ 64) (ha : ∀ j, j < n → sh_b v j = a j) (hb : ∀ j, j < n → sh_b w j = b j) {j : Nat} (hj : j < n) : sh_b (v - w) j = sh_sm true a b j := by
  unfold sh_b sh_sm
  have e : (v - w).toBitVec = v.toBitVec + ~~~ w.toBitVec + (BitVec.ofBool true).setWidth 64 := by
    rw [Int64.toBitVec_sub, BitVec.sub_eq_add_neg, BitVec.neg_eq_not_add, BitVec.add_assoc]
    rfl
  have nb : ∀ i, i < n → (~~~ w.toBitVec).getLsbD i = Bool.xor (b i) true := by
    intro i hi
    rw [BitVec.getLsbD_not]
    have : w.toBitVec.getLsbD i = b i := hb i hi
    rw [this]
    have : i < 64 := by omega
    simp [this]
  rw [e, BitVec.getLsbD_add_add_bool (by omega), sh_cy_of (a := a) (b := fun j => Bool.xor (b j) true) true j (fun i hi => ha i (by omega)) (fun i hi => nb i (by omega)), nb j hj]
  have e1 : v.toBitVec.getLsbD j = a j := ha j hj
  rw [e1]
  generalize sh_cy a (fun j => Bool.xor (b j) true) true j = c
  cases a j <;> cases b j <;> cases c <;> rfl
theorem sh_ng_f {a : Nat → Bool} : ∀ j, sh_ng a false j = false
  | 0 => rfl
  | j + 1 => by show (Bool.xor (a j) false && sh_ng a false j) = false; rw [sh_ng_f j, Bool.and_false]
theorem sh_nt_f {a : Nat → Bool} (j : Nat) : sh_nt a false j = a j := by
  unfold sh_nt
  rw [sh_ng_f, Bool.xor_false, Bool.xor_false]
theorem sh_ng_t {a : Nat → Bool} {x : BitVec 64} : ∀ j, (∀ i, i < j → x.getLsbD i = a i) → (decide (∃ i, i < j ∧ x.getLsbD i = true)) = !sh_ng a true j := by
  intro j
  induction j with
  | zero => intro _; simp [sh_ng]
  | succ j ih =>
    intro h
    have i1 := ih (fun i hi => h i (by omega))
    show _ = !(Bool.xor (a j) true && sh_ng a true j)
    rw [Bool.not_and, ← i1]
    have hj := h j (by omega)
    cases e : a j
    · rw [e] at hj
      simp only [Bool.xor_true, Bool.not_false, Bool.not_true, Bool.false_or, decide_eq_decide]
      constructor
      · intro ⟨i, p, q⟩
        rcases Nat.lt_or_ge i j with k | k
        · exact ⟨i, k, q⟩
        · have : i = j := by omega
          subst this
          rw [hj] at q
          cases q
      · intro ⟨i, p, q⟩
        exact ⟨i, by omega, q⟩
    · rw [e] at hj
      simp only [Bool.xor_true, Bool.not_true, Bool.not_false, Bool.true_or, decide_eq_true_eq]
      exact ⟨j, by omega, hj⟩
theorem sh_neg_b {a : Nat → Bool} {v : Int64} {n : Nat} (hn : n ≤ 64) (ha : ∀ j, j < n → sh_b v j = a j) {j : Nat} (hj : j < n) : sh_b (-v) j = sh_nt a true j := by
  unfold sh_b sh_nt
  rw [Int64.toBitVec_neg, BitVec.getLsbD_neg, sh_ng_t j (fun i hi => ha i (by omega))]
  have e1 : v.toBitVec.getLsbD j = a j := ha j hj
  have : j < 64 := by omega
  rw [e1]
  simp only [this, decide_true, Bool.true_and]
  cases a j <;> cases sh_ng a true j <;> rfl
theorem sh_not_b {a : Nat → Bool} {v : Int64} {n : Nat} (hn : n ≤ 64) (ha : ∀ j, j < n → sh_b v j = a j) {j : Nat} (hj : j < n) : sh_b (v ^^^ (-1 : Int64)) j = !a j := by
  unfold sh_b
  rw [Int64.toBitVec_xor, BitVec.getLsbD_xor]
  have e1 : v.toBitVec.getLsbD j = a j := ha j hj
  have e2 : ((-1 : Int64)).toBitVec.getLsbD j = true := by
    show (BitVec.allOnes 64).getLsbD j = true
    rw [BitVec.getLsbD_allOnes]; simp; omega
  rw [e1, e2, Bool.xor_true]
theorem sh_and_b {v w : Int64} {j : Nat} : sh_b (v &&& w) j = (sh_b v j && sh_b w j) := by unfold sh_b; rw [Int64.toBitVec_and, BitVec.getLsbD_and]
theorem sh_or_b {v w : Int64} {j : Nat} : sh_b (v ||| w) j = (sh_b v j || sh_b w j) := by unfold sh_b; rw [Int64.toBitVec_or, BitVec.getLsbD_or]
theorem sh_xor_b {v w : Int64} {j : Nat} : sh_b (v ^^^ w) j = Bool.xor (sh_b v j) (sh_b w j) := by unfold sh_b; rw [Int64.toBitVec_xor, BitVec.getLsbD_xor]
/-! products -/
theorem sh_mr_b {a b : Nat → Bool} {x y : BitVec 64} {n : Nat} (hn : n ≤ 64) (ha : ∀ j, j < n → x.getLsbD j = a j) (hb : ∀ j, j < n → y.getLsbD j = b j) : ∀ k, k < n → ∀ j, j < n → (BitVec.mulRec x y k).getLsbD j = sh_pr a b k j := by
  intro k
  induction k with
  | zero =>
    intro hk j hj
    rw [BitVec.mulRec_zero_eq, hb 0 hk]
    show _ = (a j && b 0)
    cases b 0
    · rw [if_neg (by decide), Bool.and_false]; exact BitVec.getLsbD_zero
    · rw [if_pos rfl, Bool.and_true]; exact ha j hj
  | succ k ih =>
    intro hk j hj
    have cur : ∀ i, i < n → (if y.getLsbD (k + 1) = true then x <<< (k + 1) else 0 : BitVec 64).getLsbD i = sh_pt a b (k + 1) i := by
      intro i hi
      rw [hb (k + 1) hk]
      unfold sh_pt
      cases b (k + 1)
      · rw [if_neg (by decide), Bool.and_false, ite_self]; exact BitVec.getLsbD_zero
      · rw [if_pos rfl, Bool.and_true, BitVec.getLsbD_shiftLeft]
        by_cases q : i < k + 1
        · rw [if_pos q]; simp [q]
        · rw [if_neg q, ha (i - (k + 1)) (by omega)]
          have : i < 64 := by omega
          simp [q, this]
    rw [BitVec.mulRec_succ_eq, BitVec.getLsbD_add (by omega), sh_cy_of false j (fun i hi => ih (by omega) i (by omega)) (fun i hi => cur i (by omega)), ih (by omega) j hj, cur j hj]
    show _ = Bool.xor (Bool.xor (sh_pr a b k j) (sh_cy (sh_pr a b k) (sh_pt a b (k + 1)) false j)) (sh_pt a b (k + 1) j)
    generalize sh_cy (sh_pr a b k) (sh_pt a b (k + 1)) false j = c
    cases sh_pr a b k j <;> cases sh_pt a b (k + 1) j <;> cases c <;> rfl
theorem sh_mr_up {x y : BitVec 64} {n : Nat} (hn : n ≤ 64) {j : Nat} (hj : j < n) : ∀ d, (BitVec.mulRec x y (n - 1 + d)).getLsbD j = (BitVec.mulRec x y (n - 1)).getLsbD j := by
  intro d
  induction d with
  | zero => rfl
  | succ d ih =>
    rw [← Nat.add_assoc, BitVec.mulRec_succ_eq, BitVec.getLsbD_add (by omega)]
    have cur : ∀ i, i < n → (if y.getLsbD (n - 1 + d + 1) = true then x <<< (n - 1 + d + 1) else 0 : BitVec 64).getLsbD i = false := by
      intro i hi
      split
      · rw [BitVec.getLsbD_shiftLeft]
        have : i < n - 1 + d + 1 := by omega
        simp [this]
      · exact BitVec.getLsbD_zero
    rw [sh_cy_of (a := fun i => (BitVec.mulRec x y (n - 1 + d)).getLsbD i) (b := fun _ => false) false j (fun i hi => rfl) (fun i hi => cur i (by omega)), sh_cy_low (j := j) (fun _ _ => rfl) j (Nat.le_refl _), cur j hj, ih]
    simp
theorem sh_mul_b {a b : Nat → Bool} {v w : Int64} {n : Nat} (hn : n ≤ 64) (ha : ∀ j, j < n → sh_b v j = a j) (hb : ∀ j, j < n → sh_b w j = b j) {j : Nat} (hj : j < n) : sh_b (v * w) j = sh_pr a b (n - 1) j := by
  unfold sh_b
  rw [Int64.toBitVec_mul, BitVec.getLsbD_mul]
  have : 64 = n - 1 + (64 - (n - 1)) := by omega
  have e : BitVec.mulRec v.toBitVec w.toBitVec 64 = BitVec.mulRec v.toBitVec w.toBitVec (n - 1 + (64 - (n - 1))) := by rw [← this]
  rw [e, sh_mr_up hn hj, sh_mr_b hn ha hb (n - 1) (by omega) j hj]
