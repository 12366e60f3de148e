/-! numbers: less, differ -/
theorem sh_bl_f {n : Nat} {a : Nat → Bool} (j : Nat) : sh_bl false n a j = a j := by unfold sh_bl; rw [if_neg (fun q => absurd q.1 (by decide))]
theorem sh_pow_pred {n : Nat} (h : 1 ≤ n) : (2 : Nat) ^ n = 2 * 2 ^ (n - 1) := by
  obtain ⟨k, rfl⟩ : ∃ k, n = k + 1 := ⟨n - 1, by omega⟩
  rw [Nat.pow_succ, Nat.mul_comm]; rfl
theorem sh_nv_top {n : Nat} (h : 1 ≤ n) (a : Nat → Bool) : sh_nv a n = sh_nv a (n - 1) + (if a (n - 1) = true then 2 ^ (n - 1) else 0) := by
  obtain ⟨k, rfl⟩ : ∃ k, n = k + 1 := ⟨n - 1, by omega⟩
  rfl
/-- what n bits with a sign are worth -/
def sh_iv (a : Nat → Bool) (n : Nat) : Int := (sh_nv a n : Int) - (if a (n - 1) = true then 2 ^ n else 0)
theorem sh_nv_bl {n : Nat} (h : 1 ≤ n) (a : Nat → Bool) : (sh_nv (sh_bl true n a) n : Int) = sh_iv a n + 2 ^ (n - 1) := by
  unfold sh_iv
  have e1 := sh_nv_top h (sh_bl true n a)
  have e2 := sh_nv_top h a
  have e3 : sh_nv (sh_bl true n a) (n - 1) = sh_nv a (n - 1) := sh_nv_cong (fun j hj => by unfold sh_bl; rw [if_neg (by omega)])
  have e4 : sh_bl true n a (n - 1) = !a (n - 1) := by unfold sh_bl; rw [if_pos ⟨rfl, by omega⟩]
  have p := sh_pow_pred h
  have cp : ((2 ^ n : Nat) : Int) = 2 ^ n := by push_cast; rfl
  have cq : ((2 ^ (n - 1) : Nat) : Int) = 2 ^ (n - 1) := by push_cast; rfl
  rw [e3, e4] at e1
  rw [← cp, ← cq]
  have ff : ¬ (false = true) := by decide
  cases ha : a (n - 1)
  · rw [ha, if_neg ff] at e2
    rw [ha, Bool.not_false, if_pos rfl] at e1
    rw [if_neg ff]; omega
  · rw [ha, if_pos rfl] at e2
    rw [ha, Bool.not_true, if_neg ff] at e1
    rw [if_pos rfl]; omega
theorem sh_lt_tt {n : Nat} (h : 1 ≤ n) (a b : Nat → Bool) : sh_lt true n a b = decide (sh_iv a n < sh_iv b n) := by
  unfold sh_lt
  rw [sh_nv_ge, ← decide_not, decide_eq_decide]
  have e1 := sh_nv_bl h a
  have e2 := sh_nv_bl h b
  omega
theorem sh_lt_ff {n : Nat} (a b : Nat → Bool) : sh_lt false n a b = decide (sh_nv a n < sh_nv b n) := by
  unfold sh_lt
  rw [sh_nv_ge, ← decide_not, decide_eq_decide, sh_nv_cong (b := a) (fun j _ => sh_bl_f j), sh_nv_cong (b := b) (fun j _ => sh_bl_f j)]
  omega
theorem sh_Ft64 (v : Int64) : sh_Ft true 64 (sh_b v) v := fun j hj => by unfold sh_ct; rw [if_pos hj]
theorem sh_Ft64f (v : Int64) : sh_Ft false 64 (sh_b v) v := fun j hj => by unfold sh_ct; rw [if_pos hj]
theorem sh_min_b {j : Nat} (hj : j < 64) : sh_b (-9223372036854775808 : Int64) j = decide (j = 63) := by
  have : ∀ j : Fin 64, sh_b (-9223372036854775808 : Int64) j.1 = decide (j.1 = 63) := by decide +kernel
  exact this ⟨j, hj⟩
theorem sh_uflip (v : Int64) : (v ^^^ (-9223372036854775808 : Int64)).toInt = (v.toBitVec.toNat : Int) - 2 ^ 63 := by
  have f : sh_Ft true 64 (sh_bl true 64 (sh_b v)) (v ^^^ (-9223372036854775808 : Int64)) := by
    intro j hj
    unfold sh_ct
    rw [if_pos hj, sh_xor_b, sh_min_b hj]
    unfold sh_bl
    by_cases e : j = 63
    · rw [if_pos ⟨rfl, by omega⟩, decide_eq_true e, Bool.xor_true]
    · rw [if_neg (by omega), decide_eq_false e, Bool.xor_false]
  have g := (sh_Ft64f v).u (by omega)
  have e := f.i (by omega) (by omega)
  have e2 := sh_nv_top (n := 64) (by omega) (sh_bl true 64 (sh_b v))
  have e3 : sh_nv (sh_bl true 64 (sh_b v)) 63 = sh_nv (sh_b v) 63 := sh_nv_cong (fun j hj => by unfold sh_bl; rw [if_neg (by omega)])
  have e4 : sh_bl true 64 (sh_b v) 63 = !sh_b v 63 := by unfold sh_bl; rw [if_pos ⟨rfl, by omega⟩]
  have e5 := sh_nv_top (n := 64) (by omega) (sh_b v)
  have ff : ¬ (false = true) := by decide
  rw [show (64 : Nat) - 1 = 63 from rfl] at e e2 e5
  rw [e4] at e e2
  rw [e3] at e2
  rw [e, g]
  cases ha : sh_b v 63
  · rw [ha] at e2 e5
    rw [if_neg ff] at e5
    rw [Bool.not_false, if_pos rfl] at e2 ⊢
    omega
  · rw [ha] at e2 e5
    rw [if_pos rfl] at e5
    rw [Bool.not_true, if_neg ff] at e2 ⊢
    omega
theorem sh_307u (v w : Int64) : sf_307 1 v w = decide (v.toBitVec.toNat < w.toBitVec.toNat) := by
  unfold sf_307
  rw [if_pos rfl]
  have : ((v ^^^ (-9223372036854775808 : Int64)) < (w ^^^ (-9223372036854775808 : Int64))) ↔ v.toBitVec.toNat < w.toBitVec.toNat := by
    rw [Int64.lt_iff_toInt_lt, sh_uflip, sh_uflip]; omega
  by_cases h : v.toBitVec.toNat < w.toBitVec.toNat
  · rw [if_pos (this.mpr h), decide_eq_true h]
  · rw [if_neg (fun q => h (this.mp q)), decide_eq_false h]
theorem sh_307i {k : Int32} (hk : ¬ k = 1) (v w : Int64) : sf_307 k v w = decide (v.toInt < w.toInt) := by
  unfold sf_307
  rw [if_neg hk]
  by_cases h : v < w
  · rw [if_pos h, decide_eq_true (Int64.lt_iff_toInt_lt.mp h)]
  · rw [if_neg h, decide_eq_false (fun q => h (Int64.lt_iff_toInt_lt.mpr q))]
theorem sh_Ft.ui {n : Nat} {a : Nat → Bool} {v : Int64} (h : sh_Ft false n a v) (hn : n < 64) : v.toInt = sh_nv a n := by
  have e := h.u (by omega)
  have l := sh_nv_lt a n
  have p : (2 : Nat) ^ n ≤ 2 ^ 63 := Nat.pow_le_pow_right (by decide) (by omega)
  show v.toBitVec.toInt = _
  rw [BitVec.toInt_eq_toNat_cond, e, if_pos (by omega)]
/-- a kind's sign and width -/
def sh_kd (k n : Nat) : Prop := (k = 0 ∧ n = 1) ∨ ((k = 1 ∨ k = 2) ∧ 1 ≤ n ∧ n ≤ 64)
theorem sh_kd.n1 {k n : Nat} (h : sh_kd k n) : 1 ≤ n := by unfold sh_kd at h; omega
theorem sh_kd.n2 {k n : Nat} (h : sh_kd k n) : n ≤ 64 := by unfold sh_kd at h; omega
theorem sh_kd.k2 {k n : Nat} (h : sh_kd k n) : k ≤ 2 := by unfold sh_kd at h; omega
theorem sh_kI {k c : Nat} (hk : k ≤ 2) (hc : c ≤ 3) : (Int32.ofNat k = Int32.ofNat c) ↔ k = c := sh_nIeq (by omega) (by omega)
theorem sh_307 {k n : Nat} (hk : sh_kd k n) {a b : Nat → Bool} {v w : Int64} (ha : sh_Ft (decide (k = 2)) n a v) (hb : sh_Ft (decide (k = 2)) n b w) : sf_307 (Int32.ofNat k) v w = sh_lt (decide (k = 2)) n a b := by
  have n1 := hk.n1
  have n2 := hk.n2
  rcases hk with ⟨rfl, rfl⟩ | ⟨rfl | rfl, _, _⟩
  · rw [sh_307i (by decide)]
    rw [show (decide (0 = 2)) = false from rfl] at ha hb ⊢
    rw [sh_lt_ff, ha.ui (by omega), hb.ui (by omega), decide_eq_decide]; omega
  · rw [show (Int32.ofNat 1) = 1 from rfl, sh_307u]
    rw [show (decide (1 = 2)) = false from rfl] at ha hb ⊢
    rw [sh_lt_ff, ha.u n2, hb.u n2]
  · rw [sh_307i (by decide)]
    rw [show (decide (2 = 2)) = true from rfl] at ha hb ⊢
    rw [sh_lt_tt n1, ha.i n1 n2, hb.i n1 n2]
    rfl
theorem sh_or_iff {a : Nat → Bool} : ∀ n, sh_or a n = true ↔ ∃ j, j < n ∧ a j = true
  | 0 => ⟨fun h => absurd h (by show ¬ false = true; decide), fun ⟨j, h, _⟩ => absurd h (by omega)⟩
  | n + 1 => by
    show (sh_or a n || a n) = true ↔ _
    rw [Bool.or_eq_true, sh_or_iff n]
    constructor
    · rintro (⟨j, h1, h2⟩ | h)
      · exact ⟨j, by omega, h2⟩
      · exact ⟨n, by omega, h⟩
    · rintro ⟨j, h1, h2⟩
      rcases Nat.lt_or_ge j n with k | k
      · exact .inl ⟨j, k, h2⟩
      · rw [show n = j by omega]; exact .inr h2
theorem sh_df_iff {n : Nat} {s : Bool} (h1 : 1 ≤ n) (hn : n ≤ 64) {a b : Nat → Bool} {v w : Int64} (ha : sh_Ft s n a v) (hb : sh_Ft s n b w) : sh_df n a b = decide (¬ v = w) := by
  unfold sh_df
  by_cases h : v = w
  · rw [decide_eq_false (fun q => q h), Bool.eq_false_iff]
    intro q
    obtain ⟨j, h2, h3⟩ := (sh_or_iff n).mp q
    rw [← ha.low hn h2, ← hb.low hn h2, h, Bool.xor_self] at h3
    cases h3
  · rw [decide_eq_true h, sh_or_iff]
    apply Classical.byContradiction
    intro q
    apply h
    refine ha.uniq (hb.cong h1 (fun j hj => ?_))
    apply Classical.byContradiction
    intro k
    refine q ⟨j, hj, ?_⟩
    revert k
    cases a j <;> cases b j <;> simp
/-- a long is nothing: none of its bits stands -/
theorem sh_or_zero {n : Nat} {s : Bool} (h1 : 1 ≤ n) (hn : n ≤ 64) {a : Nat → Bool} {v : Int64} (ha : sh_Ft s n a v) : sh_or a n = decide (¬ v = 0) := by
  have z : sh_Ft s n (fun _ => false) (0 : Int64) := by
    intro j hj
    unfold sh_ct
    rw [show sh_b (0 : Int64) j = false from BitVec.getLsbD_zero]
    simp
  have e := sh_df_iff h1 hn ha z
  rw [← e]
  unfold sh_df
  congr 1
  funext j
  rw [Bool.xor_false]
