/-! numbers: division with signs -/
theorem sh_ng_cy {a : Nat → Bool} {t : Bool} : ∀ j, sh_ng a t j = sh_cy (fun j => Bool.xor (a j) t) (fun _ => false) t j
  | 0 => rfl
  | j + 1 => by
    show (Bool.xor (a j) t && sh_ng a t j) = Bool.xor ((Bool.xor (Bool.xor (a j) t) (sh_cy _ _ t j)) && (Bool.xor false (sh_cy _ _ t j))) (sh_cy _ _ t j)
    rw [sh_ng_cy j]
    generalize sh_cy (fun j => Bool.xor (a j) t) (fun _ => false) t j = k
    cases a j <;> cases t <;> cases k <;> rfl
theorem sh_nv_zero : ∀ n, sh_nv (fun _ => false) n = 0
  | 0 => rfl
  | n + 1 => by show sh_nv _ n + _ = 0; rw [sh_nv_zero n]; rfl
theorem sh_nv_nt {a : Nat → Bool} {n : Nat} : sh_nv (sh_nt a true) n = if sh_nv a n = 0 then 0 else 2 ^ n - sh_nv a n := by
  have h1 := sh_nv_sum (a := fun j => Bool.xor (a j) true) (b := fun _ => false) (c := true) n
  have h2 := sh_nv_not (b := a) n
  rw [sh_nv_zero, if_pos rfl, sh_nv_cong (a := fun j => Bool.xor (a j) true) (b := fun j => !a j) (fun j _ => Bool.xor_true _)] at h1
  have e : sh_nv (sh_nt a true) n = sh_nv (fun j => Bool.xor (Bool.xor (Bool.xor (a j) true) (sh_cy (fun j => Bool.xor (a j) true) (fun _ => false) true j)) false) n := by
    apply sh_nv_cong
    intro j _
    unfold sh_nt
    rw [sh_ng_cy, Bool.xor_false]
  rw [← e] at h1
  have l := sh_nv_lt (sh_nt a true) n
  have l2 := sh_nv_lt a n
  split
  · split at h1 <;> omega
  · split at h1 <;> omega
theorem sh_nv_ntf {a : Nat → Bool} {n : Nat} : sh_nv (sh_nt a false) n = sh_nv a n := sh_nv_cong (fun j _ => sh_nt_f j)
/-- with a sign turned or not, up to a multiple of 2^n -/
theorem sh_cg_nt {a : Nat → Bool} {n : Nat} (t : Bool) : sh_cg (2 ^ n : Nat) (sh_nv (sh_nt a t) n) (if t = true then -(sh_nv a n : Int) else sh_nv a n) := by
  cases t
  · rw [sh_nv_ntf, if_neg (by decide)]; exact sh_cg.refl
  · rw [sh_nv_nt, if_pos rfl]
    have := sh_nv_lt a n
    by_cases h : sh_nv a n = 0
    · rw [if_pos h, h]; exact sh_cg.refl
    · rw [if_neg h]; exact ⟨1, by omega⟩
/-- the size of a number with a sign -/
theorem sh_abs {a : Nat → Bool} {n : Nat} (h1 : 1 ≤ n) : sh_nv (sh_nt a (a (n - 1))) n = (sh_iv a n).natAbs := by
  unfold sh_iv
  have t := sh_nv_top h1 a
  have p := sh_pow_pred h1
  have l := sh_nv_lt a (n - 1)
  have cp : ((2 ^ n : Nat) : Int) = 2 ^ n := by push_cast; rfl
  rw [← cp]
  have ff : ¬ false = true := by decide
  cases h : a (n - 1)
  · rw [sh_nv_ntf, if_neg ff]; omega
  · rw [h, if_pos rfl] at t
    have : 0 < 2 ^ (n - 1) := Nat.two_pow_pos _
    rw [sh_nv_nt, if_neg (by omega), if_pos rfl]; omega
theorem sh_sgn_iv {a : Nat → Bool} {n : Nat} (h1 : 1 ≤ n) : a (n - 1) = decide (sh_iv a n < 0) := by
  unfold sh_iv
  have t := sh_nv_top h1 a
  have p := sh_pow_pred h1
  have l := sh_nv_lt a (n - 1)
  have cp : ((2 ^ n : Nat) : Int) = 2 ^ n := by push_cast; rfl
  rw [← cp]
  have ff : ¬ false = true := by decide
  cases h : a (n - 1)
  · rw [if_neg ff]; symm; rw [decide_eq_false_iff_not]; omega
  · rw [h, if_pos rfl] at t; rw [if_pos rfl]; symm; rw [decide_eq_true_eq]; omega
theorem sh_tdiv_sgn (x y : Int) : x.tdiv y = if Bool.xor (decide (x < 0)) (decide (y < 0)) = true then -((x.natAbs / y.natAbs : Nat) : Int) else ((x.natAbs / y.natAbs : Nat) : Int) := by
  rcases Int.lt_or_le x 0 with hx | hx <;> rcases Int.lt_or_le y 0 with hy | hy
  · obtain ⟨p, rfl⟩ : ∃ p : Nat, x = -(p : Int) := ⟨x.natAbs, by omega⟩
    obtain ⟨q, rfl⟩ : ∃ q : Nat, y = -(q : Int) := ⟨y.natAbs, by omega⟩
    rw [decide_eq_true hx, decide_eq_true hy, if_neg (by decide), Int.neg_tdiv, Int.tdiv_neg, Int.natAbs_neg, Int.natAbs_neg, Int.neg_neg]; rfl
  · obtain ⟨p, rfl⟩ : ∃ p : Nat, x = -(p : Int) := ⟨x.natAbs, by omega⟩
    obtain ⟨q, rfl⟩ : ∃ q : Nat, y = (q : Int) := ⟨y.natAbs, by omega⟩
    rw [decide_eq_true hx, decide_eq_false (by omega), if_pos (by decide), Int.neg_tdiv, Int.natAbs_neg]; rfl
  · obtain ⟨p, rfl⟩ : ∃ p : Nat, x = (p : Int) := ⟨x.natAbs, by omega⟩
    obtain ⟨q, rfl⟩ : ∃ q : Nat, y = -(q : Int) := ⟨y.natAbs, by omega⟩
    rw [decide_eq_false (by omega), decide_eq_true hy, if_pos (by decide), Int.tdiv_neg, Int.natAbs_neg]; rfl
  · obtain ⟨p, rfl⟩ : ∃ p : Nat, x = (p : Int) := ⟨x.natAbs, by omega⟩
    obtain ⟨q, rfl⟩ : ∃ q : Nat, y = (q : Int) := ⟨y.natAbs, by omega⟩
    rw [decide_eq_false (by omega), decide_eq_false (by omega), if_neg (by decide)]; rfl
theorem sh_tmod_sgn (x y : Int) : x.tmod y = if decide (x < 0) = true then -((x.natAbs % y.natAbs : Nat) : Int) else ((x.natAbs % y.natAbs : Nat) : Int) := by
  have h : ∀ p : Nat, (p : Int).tmod y = ((p % y.natAbs : Nat) : Int) := by
    intro p
    rcases Int.lt_or_le y 0 with hy | hy
    · obtain ⟨q, rfl⟩ : ∃ q : Nat, y = -(q : Int) := ⟨y.natAbs, by omega⟩
      rw [Int.tmod_neg, Int.natAbs_neg]; rfl
    · obtain ⟨q, rfl⟩ : ∃ q : Nat, y = (q : Int) := ⟨y.natAbs, by omega⟩
      rfl
  rcases Int.lt_or_le x 0 with hx | hx
  · obtain ⟨p, rfl⟩ : ∃ p : Nat, x = -(p : Int) := ⟨x.natAbs, by omega⟩
    rw [decide_eq_true hx, if_pos rfl, Int.neg_tmod, h, Int.natAbs_neg]; rfl
  · obtain ⟨p, rfl⟩ : ∃ p : Nat, x = (p : Int) := ⟨x.natAbs, by omega⟩
    rw [decide_eq_false (by omega), if_neg (by decide), h]; rfl
theorem sh_pow_dvd {n : Nat} (hn : n ≤ 64) : ((2 ^ n : Nat) : Int) ∣ ((2 ^ 64 : Nat) : Int) := Int.natCast_dvd_natCast.mpr (Nat.pow_dvd_pow 2 hn)
theorem sh_m1_b {j : Nat} (hj : j < 64) : sh_b (-1 : Int64) j = true := by
  show (BitVec.allOnes 64).getLsbD j = true
  rw [BitVec.getLsbD_allOnes]; simp [hj]
/-- the quotient, bit by bit -/
theorem sh_quot {k n : Nat} (hk : k = 1 ∨ k = 2) (h1 : 1 ≤ n) (hn : n ≤ 64) {a b : Nat → Bool} {v w : Int64} (ha : sh_Ft (decide (k = 2)) n a v) (hb : sh_Ft (decide (k = 2)) n b w) {m : sh_X} : ∃ q, sf_308 (Int32.ofNat k) v w m = some q ∧ ∀ j, j < n → sh_b q j = sh_dv (decide (k = 2)) false a b n j := by
  have ff : ¬ false = true := by decide
  by_cases hw : w = 0
  · subst hw
    refine ⟨_, sh_308z, fun j hj => ?_⟩
    rw [sh_m1_b (by omega)]
    have zz := sh_or_zero h1 hn hb
    rw [decide_eq_false (by simp)] at zz
    rcases hk with rfl | rfl
    · rw [show (decide (1 = 2)) = false from rfl] at hb ⊢
      unfold sh_dv
      rw [if_neg ff, sh_dq_bit hj, ← hb.u hn]
      simp
    · rw [show (decide (2 = 2)) = true from rfl] at hb ⊢
      unfold sh_dv
      rw [if_pos rfl, if_neg ff, zz, Bool.and_false, sh_nt_f, sh_dq_bit hj, sh_abs h1]
      have := hb.i h1 hn
      have e : sh_iv b n = 0 := by show (sh_nv b n : Int) - _ = 0; rw [← this]; rfl
      rw [e]; simp
  · rcases hk with rfl | rfl
    · obtain ⟨q, q1, q2⟩ := sh_308u (v := v) (w := w) (m := m) (k := 1) (by decide) hw
      refine ⟨q, q1, fun j hj => ?_⟩
      rw [show (decide (1 = 2)) = false from rfl] at ha hb ⊢
      have w0 : ¬ sh_nv b n = 0 := by rw [← hb.u hn]; exact fun e => hw ((sh_zero_iff w).mpr e)
      unfold sh_dv
      rw [if_neg ff]
      refine sh_cg_bits hn ?_ hj
      rw [sh_dq_quot w0, ← ha.u hn, ← hb.u hn, ← q2]
      exact (sh_cg_u q).dvd (sh_pow_dvd hn)
    · obtain ⟨q, q1, q2⟩ := sh_308i (v := v) (w := w) (m := m) hw
      refine ⟨q, q1, fun j hj => ?_⟩
      have zz := sh_or_zero h1 hn hb
      rw [decide_eq_true hw] at zz
      rw [show (decide (2 = 2)) = true from rfl] at ha hb ⊢
      have e1 : v.toInt = sh_iv a n := ha.i h1 hn
      have e2 : w.toInt = sh_iv b n := hb.i h1 hn
      have w0 : ¬ (sh_iv b n).natAbs = 0 := by
        rw [← e2]
        intro e
        exact hw (Int64.toInt_inj.mp (by show w.toInt = 0; omega))
      refine sh_cg_bits hn ?_ hj
      have e3 : sh_nv (sh_dv true false a b n) n = sh_nv (sh_nt (sh_dq false (sh_nt a (a (n - 1))) (sh_nt b (b (n - 1))) n) (Bool.xor (a (n - 1)) (b (n - 1)))) n := by
        apply sh_nv_cong
        intro i _
        unfold sh_dv
        rw [if_pos rfl, if_neg ff, zz, Bool.and_true]
      rw [e3]
      refine ((q2.dvd (sh_pow_dvd hn)).trans ?_).trans (sh_cg_nt _).symm
      rw [sh_dq_quot (by rw [sh_abs h1]; exact w0), sh_abs h1, sh_abs h1, e1, e2, sh_tdiv_sgn, ← sh_sgn_iv h1, ← sh_sgn_iv h1]
      exact sh_cg.refl
/-- the rest, bit by bit -/
theorem sh_rest0 {k n : Nat} (hk : k = 1 ∨ k = 2) (h1 : 1 ≤ n) (hn : n ≤ 64) {a b : Nat → Bool} {v : Int64} (ha : sh_Ft (decide (k = 2)) n a v) (hb : sh_Ft (decide (k = 2)) n b 0) {j : Nat} (hj : j < n) : sh_b v j = sh_dv (decide (k = 2)) true a b n j := by
  have ff : ¬ false = true := by decide
  rcases hk with rfl | rfl
  · rw [show (decide (1 = 2)) = false from rfl] at ha hb ⊢
    refine sh_cg_bits hn ?_ hj
    have e3 : sh_nv (sh_dv false true a b n) n = sh_nv (sh_dq true a b n) n := sh_nv_cong (fun i _ => by unfold sh_dv; rw [if_neg ff])
    rw [e3, sh_dq_rest, ← hb.u hn, ← ha.u hn, show (Int64.toBitVec 0).toNat = 0 from rfl, Nat.mod_zero]
    exact (sh_cg_u v).dvd (sh_pow_dvd hn)
  · rw [show (decide (2 = 2)) = true from rfl] at ha hb ⊢
    have e1 : v.toInt = sh_iv a n := ha.i h1 hn
    have e2 : (0 : Int64).toInt = sh_iv b n := hb.i h1 hn
    refine sh_cg_bits hn ?_ hj
    have e3 : sh_nv (sh_dv true true a b n) n = sh_nv (sh_nt (sh_dq true (sh_nt a (a (n - 1))) (sh_nt b (b (n - 1))) n) (a (n - 1))) n := sh_nv_cong (fun i _ => by unfold sh_dv; rw [if_pos rfl, if_pos rfl])
    rw [e3]
    refine sh_cg.trans ?_ (sh_cg_nt _).symm
    have e4 := sh_tmod_sgn (sh_iv a n) (sh_iv b n)
    rw [← e2, show (0 : Int64).toInt = 0 from rfl, Int.tmod_zero] at e4
    rw [sh_dq_rest, sh_abs h1, sh_abs h1, ← e2, e1, show (0 : Int64).toInt = 0 from rfl]
    rw (occs := .pos [1]) [e4]
    rw [← sh_sgn_iv h1]
    exact sh_cg.refl
theorem sh_rest {k n : Nat} (hk : k = 1 ∨ k = 2) (h1 : 1 ≤ n) (hn : n ≤ 64) {a b : Nat → Bool} {v w : Int64} (ha : sh_Ft (decide (k = 2)) n a v) (hb : sh_Ft (decide (k = 2)) n b w) (hw : ¬ w = 0) {m : sh_X} : ∃ q, sf_308 (Int32.ofNat k) v w m = some q ∧ ∀ j, j < n → sh_b (v - q * w) j = sh_dv (decide (k = 2)) true a b n j := by
  have ff : ¬ false = true := by decide
  rcases hk with rfl | rfl
  · obtain ⟨q, q1, q2⟩ := sh_308u (v := v) (w := w) (m := m) (k := 1) (by decide) hw
    refine ⟨q, q1, fun j hj => ?_⟩
    rw [show (decide (1 = 2)) = false from rfl] at ha hb ⊢
    refine sh_cg_bits hn ?_ hj
    have e3 : sh_nv (sh_dv false true a b n) n = sh_nv (sh_dq true a b n) n := sh_nv_cong (fun i _ => by unfold sh_dv; rw [if_neg ff])
    rw [e3, sh_dq_rest, ← hb.u hn, ← ha.u hn]
    refine sh_cg.dvd ?_ (sh_pow_dvd hn)
    rw [Int64.toInt_sub, Int64.toInt_mul]
    refine sh_cg_bmod.trans ?_
    have l := (sh_cg_u v).sub ((sh_cg_bmod (M := 2 ^ 64) (x := q.toInt * w.toInt)).trans ((sh_cg_u q).mul (sh_cg_u w)))
    have e : (v.toBitVec.toNat : Int) - (q.toBitVec.toNat : Int) * (w.toBitVec.toNat : Int) = ((v.toBitVec.toNat % w.toBitVec.toNat : Nat) : Int) := by
      rw [q2]
      have := Nat.div_add_mod v.toBitVec.toNat w.toBitVec.toNat
      have e : ((v.toBitVec.toNat / w.toBitVec.toNat : Nat) : Int) * (w.toBitVec.toNat : Int) = ((w.toBitVec.toNat * (v.toBitVec.toNat / w.toBitVec.toNat) : Nat) : Int) := by push_cast; rw [Int.mul_comm]
      rw [e]; omega
    rw [e] at l
    exact l
  · obtain ⟨q, q1, q2⟩ := sh_308i (v := v) (w := w) (m := m) hw
    refine ⟨q, q1, fun j hj => ?_⟩
    rw [show (decide (2 = 2)) = true from rfl] at ha hb ⊢
    have e1 : v.toInt = sh_iv a n := ha.i h1 hn
    have e2 : w.toInt = sh_iv b n := hb.i h1 hn
    refine sh_cg_bits hn ?_ hj
    have e3 : sh_nv (sh_dv true true a b n) n = sh_nv (sh_nt (sh_dq true (sh_nt a (a (n - 1))) (sh_nt b (b (n - 1))) n) (a (n - 1))) n := sh_nv_cong (fun i _ => by unfold sh_dv; rw [if_pos rfl, if_pos rfl])
    rw [e3]
    refine sh_cg.trans ?_ (sh_cg_nt _).symm
    refine sh_cg.trans (y := (sh_iv a n).tmod (sh_iv b n)) (sh_cg.dvd ?_ (sh_pow_dvd hn)) ?_
    · rw [Int64.toInt_sub, Int64.toInt_mul]
      refine sh_cg_bmod.trans ?_
      have l := (sh_cg.refl (M := (2 ^ 64 : Nat)) (x := v.toInt)).sub ((sh_cg_bmod (M := 2 ^ 64) (x := q.toInt * w.toInt)).trans (q2.mul (sh_cg.refl (x := w.toInt))))
      rw [e1, e2] at l
      rw [Int.tmod_def, Int.mul_comm (sh_iv b n) ((sh_iv a n).tdiv (sh_iv b n)), e1, e2]
      exact l
    · rw [sh_dq_rest, sh_abs h1, sh_abs h1, sh_tmod_sgn, ← sh_sgn_iv h1]
      exact sh_cg.refl
