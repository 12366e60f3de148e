/-! numbers: shifts -/
theorem sh_dist_min {n b : Nat} (hn : n ≤ 64) : sh_dist n b = min (2 ^ b) n := by
  unfold sh_dist
  by_cases h : b < 6
  · rw [if_pos h]
  · rw [if_neg h]
    have : 2 ^ 6 ≤ 2 ^ b := Nat.pow_le_pow_right (by omega) (by omega)
    omega
/-- shifts by each bit of y, one after the other, are a shift by y -/
theorem sh_svv_sl {l : Bool} {n : Nat} {a y : Nat → Bool} {f : Bool} (hn : n ≤ 64) : ∀ (k j : Nat), j < n → sh_svv l n a y f k j = sh_sl l (min (sh_nv y k) n) n a f j := by
  have ff : ¬ false = true := by decide
  intro k
  induction k with
  | zero =>
    intro j hj
    show a j = sh_sl l (min 0 n) n a f j
    unfold sh_sl
    rw [Nat.zero_min]
    cases l
    · rw [if_neg ff, if_pos (by omega)]; rfl
    · rw [if_pos rfl, if_pos (by omega)]; rfl
  | succ k ih =>
    intro j hj
    show (if y k = true then sh_sl l (sh_dist n k) n (sh_svv l n a y f k) f j else sh_svv l n a y f k j) = sh_sl l (min (sh_nv y k + (if y k = true then 2 ^ k else 0)) n) n a f j
    by_cases hy : y k = true
    · rw [if_pos hy, if_pos hy, sh_dist_min hn]
      generalize 2 ^ k = D
      generalize sh_nv y k = d at ih ⊢
      unfold sh_sl
      cases l
      · rw [if_neg ff, if_neg ff]
        by_cases h : j + min D n < n
        · rw [if_pos h, ih (j + min D n) h]
          unfold sh_sl
          rw [if_neg ff]
          by_cases h2 : j + min D n + min d n < n
          · rw [if_pos h2, if_pos (by omega)]
            congr 1
            omega
          · rw [if_neg h2, if_neg (by omega)]
        · rw [if_neg h, if_neg (by omega)]
      · rw [if_pos rfl, if_pos rfl]
        by_cases h : min D n ≤ j
        · rw [if_pos h, ih (j - min D n) (by omega)]
          unfold sh_sl
          rw [if_pos rfl]
          by_cases h2 : min d n ≤ j - min D n
          · rw [if_pos h2, if_pos (by omega)]
            congr 1
            omega
          · rw [if_neg h2, if_neg (by omega)]
        · rw [if_neg h, if_neg (by omega)]
    · rw [if_neg hy, if_neg hy, Nat.add_zero, ih j hj]
theorem sh_shl_b {x : Int64} {d j : Nat} (hd : d < 64) (hj : j < 64) : sh_b (x <<< (Int32.toInt64 (Int32.ofNat d) &&& 63)) j = (decide (d ≤ j) && sh_b x (j - d)) := by
  unfold sh_b
  rw [Int64.toBitVec_shiftLeft, BitVec.shiftLeft_eq', sh_sh63 ⟨d, hd⟩, BitVec.getLsbD_shiftLeft]
  by_cases h : d ≤ j
  · rw [decide_eq_true h, decide_eq_true hj, decide_eq_false (by omega : ¬ j < d)]; rfl
  · rw [decide_eq_false h, decide_eq_true (by omega : j < d)]; simp
theorem sh_sar_b {x : Int64} {d j : Nat} (hd : d < 64) (hj : j < 64) : sh_b (x >>> (Int32.toInt64 (Int32.ofNat d) &&& 63)) j = sh_b x (min (d + j) 63) := by
  unfold sh_b
  rw [Int64.toBitVec_shiftRight]
  unfold BitVec.sshiftRight'
  rw [sh_sh63 ⟨d, hd⟩, BitVec.getLsbD_sshiftRight, decide_eq_false (by omega : ¬ 64 ≤ j)]
  show (!false && _) = _
  rw [Bool.not_false, Bool.true_and]
  by_cases h : d + j < 64
  · rw [if_pos h, Nat.min_eq_left (by omega)]
  · rw [if_neg h, Nat.min_eq_right (by omega), BitVec.msb_eq_getLsbD_last]
theorem sh_shr_b {x : Int64} {d j : Nat} (hd : d < 64) : sh_b ((x.toUInt64 >>> ((Int32.toInt64 (Int32.ofNat d)).toUInt64 &&& Int64.toUInt64 63)).toInt64) j = sh_b x (d + j) := by
  unfold sh_b
  have e : ((x.toUInt64 >>> ((Int32.toInt64 (Int32.ofNat d)).toUInt64 &&& Int64.toUInt64 63)).toInt64).toBitVec = x.toBitVec >>> d := by
    show (x.toUInt64 >>> _).toBitVec = _
    rw [UInt64.toBitVec_shiftRight, sh_ush ⟨d, hd⟩]
    show x.toBitVec >>> (BitVec.ofNat 64 d) = _
    rw [BitVec.ushiftRight_eq', BitVec.toNat_ofNat, Nat.mod_eq_of_lt (by omega)]
  rw [e, BitVec.getLsbD_ushiftRight]
theorem sh_pos_nat {x : Int64} (h : ¬ x < 0) : x.toInt = (x.toBitVec.toNat : Int) := by
  have := x.toBitVec.isLt
  have g : ¬ 2 ^ 63 ≤ x.toBitVec.toNat := fun q => h ((sh_neg_iff x).mpr q)
  show x.toBitVec.toInt = _
  rw [BitVec.toInt_eq_toNat_cond]
  split <;> omega
theorem sh_to32 {x : Int64} (h : ¬ x < 0) {d : Nat} (hd : x.toBitVec.toNat = d) (h2 : d < 2147483648) : Int64.toInt32 x = Int32.ofNat d := by
  rw [← Int32.toInt_inj, Int64.toInt_toInt32, sh_nI h2, sh_pos_nat h, hd, Int.bmod_eq_of_le (by omega) (by omega)]
theorem sh_lt64 {x : Int64} {n : Nat} (hn : n < 2147483648) (h : ¬ x < 0) : x < Int32.toInt64 (Int32.ofNat n) ↔ x.toBitVec.toNat < n := by
  rw [Int64.lt_iff_toInt_lt, Int32.toInt_toInt64, sh_nI hn, sh_pos_nat h]
  omega
theorem sh_b0_ {j : Nat} : sh_b (0 : Int64) j = false := BitVec.getLsbD_zero
theorem sh_sgn_lt {n : Nat} {a : Nat → Bool} {v : Int64} (ha : sh_Ft true n a v) (h1 : 1 ≤ n) (hn : n ≤ 64) : v < 0 ↔ a (n - 1) = true := by
  have e : v.toInt = sh_iv a n := ha.i h1 hn
  rw [sh_sgn_iv (a := a) h1, decide_eq_true_eq, ← e, Int64.lt_iff_toInt_lt]
  rfl
theorem sh_okn' {n k : Nat} (h : n < k) (hk : k < 2147483648) : sh_okb (Int32.ofNat n) k = true := (sh_okn (by omega)).mpr h
/-- the model's shift: what comes out of it -/
theorem sh_304s {e t : Nat} {c : Int32} {k n : Nat} (hk : k = 1 ∨ k = 2) (h1 : 1 ≤ n) (hn : n ≤ 64) {a : Nat → Bool} {v x : Int64} (ha : sh_Ft (decide (k = 2)) n a v) {m : sh_X} (h43 : m.I 66 43 = Int32.ofNat k) (h44 : m.I 66 44 = Int32.ofNat n) (h46 : m.J 66 46 = v) (he : e < 9000) (ht : m.I 73 e = Int32.ofNat t) (htN : t < 4002) (hc : c = 15420 ∨ c = 15934) (h68 : m.I 68 t = c) (x7 : Bool) (x10 : Int32) :
    ∃ r, sf_304_135 (Int32.ofNat e) x7 x10 x m = sf_304_329 (Int32.ofNat e) (if x7 = true then Int32.ofNat n else Int32.ofNat n * x10) (m.T, m.I, sh_u2 m.J 66 46 r, m.s) ∧ sh_Ft (decide (k = 2)) n (sh_sl (decide (c = 15420)) (min x.toBitVec.toNat n) n a (!decide (c = 15420) && decide (k = 2) && a (n - 1))) r := by
  have ff : ¬ false = true := by decide
  have kd : sh_kd k n := Or.inr ⟨hk, h1, hn⟩
  have fin : ∀ y : Int64, (∀ j, j < n → sh_b y j = sh_sl (decide (c = 15420)) (min x.toBitVec.toNat n) n a (!decide (c = 15420) && decide (k = 2) && a (n - 1)) j) → sf_304_135 (Int32.ofNat e) x7 x10 x m = sf_304_292 (Int32.ofNat e) x7 x10 y m →
      ∃ r, sf_304_135 (Int32.ofNat e) x7 x10 x m = sf_304_329 (Int32.ofNat e) (if x7 = true then Int32.ofNat n else Int32.ofNat n * x10) (m.T, m.I, sh_u2 m.J 66 46 r, m.s) ∧ sh_Ft (decide (k = 2)) n (sh_sl (decide (c = 15420)) (min x.toBitVec.toNat n) n a (!decide (c = 15420) && decide (k = 2) && a (n - 1))) r := by
    intro y hy hq
    refine ⟨sf_288 (Int32.ofNat k) (Int32.ofNat n) y, ?_, sh_Ft_k kd hy⟩
    rw [hq]
    unfold sf_304_292
    rw [h43, h44]
    cases x7
    · rw [if_neg ff, if_neg ff]
    · rw [if_pos rfl, if_pos rfl]
  have e1 : sf_304_135 (Int32.ofNat e) x7 x10 x m = sf_304_158 (Int32.ofNat e) x7 x10 x (decide (n ≤ x.toBitVec.toNat)) m := by
    unfold sf_304_135 sf_304_153
    by_cases hx : x < 0
    · have := (sh_neg_iff x).mp hx
      rw [if_pos hx, decide_eq_true (by omega)]
    · rw [if_neg hx, h44]
      by_cases hl : x.toBitVec.toNat < n
      · rw [if_pos ((sh_lt64 (by omega) hx).mpr hl), decide_eq_false (by omega)]
      · rw [if_neg (fun q => hl ((sh_lt64 (by omega) hx).mp q)), decide_eq_true (by omega)]
  obtain ⟨low, e2, lo⟩ : ∃ low, sf_304_158 (Int32.ofNat e) x7 x10 x (decide (n ≤ x.toBitVec.toNat)) m = sf_304_189 (Int32.ofNat e) x7 x10 x (decide (n ≤ x.toBitVec.toNat)) low m ∧ ∀ j, j < 64 → sh_b low j = (decide (j < n) && a j) := by
    unfold sf_304_158
    rw [h44, h46]
    by_cases h64 : n = 64
    · subst h64
      rw [if_pos (show Int32.ofNat 64 = 64 from rfl)]
      exact ⟨v, rfl, fun j hj => by rw [ha.low hn hj, decide_eq_true hj, Bool.true_and]⟩
    · rw [if_neg (show ¬ Int32.ofNat n = 64 from fun q => h64 ((sh_nIeq (a := n) (b := 64) (by omega) (by omega)).mp q))]
      refine ⟨_, rfl, fun j hj => ?_⟩
      rw [sh_low (by omega) v hj]
      by_cases hjn : j < n
      · rw [decide_eq_true hjn, ha.low hn hjn]
      · rw [decide_eq_false hjn, Bool.false_and, Bool.false_and]
  have go : ∀ y, sf_304_189 (Int32.ofNat e) x7 x10 x (decide (n ≤ x.toBitVec.toNat)) low m = sf_304_292 (Int32.ofNat e) x7 x10 y m → sf_304_135 (Int32.ofNat e) x7 x10 x m = sf_304_292 (Int32.ofNat e) x7 x10 y m := fun y q => by rw [e1, e2, q]
  have sm : ∀ {d : Nat}, ¬ n ≤ x.toBitVec.toNat → ¬ x < 0 := fun q r => q (by have := (sh_neg_iff x).mp r; omega)
  have un : sf_304_189 (Int32.ofNat e) x7 x10 x (decide (n ≤ x.toBitVec.toNat)) low m = (if c = 15420 then
        if (decide (n ≤ x.toBitVec.toNat)) = true then
          sf_304_225 (Int32.ofNat e) x7 x10 0 m
        else
          sf_304_225 (Int32.ofNat e) x7 x10 (v <<< (Int32.toInt64 (Int64.toInt32 x) &&& 63)) m
      else
        if Int32.ofNat k = 2 then
          if (decide (n ≤ x.toBitVec.toNat)) = true then
            if v < 0 then
              sf_304_270 (Int32.ofNat e) x7 x10 (-1) m
            else
              sf_304_270 (Int32.ofNat e) x7 x10 0 m
          else
            sf_304_270 (Int32.ofNat e) x7 x10 (v >>> (Int32.toInt64 (Int64.toInt32 x) &&& 63)) m
        else
          if (decide (n ≤ x.toBitVec.toNat)) = true then
            sf_304_290 (Int32.ofNat e) x7 x10 0 m
          else
            sf_304_290 (Int32.ofNat e) x7 x10 ((low.toUInt64 >>> ((Int32.toInt64 (Int64.toInt32 x)).toUInt64 &&& Int64.toUInt64 63)).toInt64) m) := by
    unfold sf_304_189
    rw [if_pos (sh_okn' he (by omega)), sh_nIc (by omega), ht, if_pos (sh_okn' htN (by omega)), sh_nIc (by omega), h68, h43, h46]
  rcases hc with rfl | rfl
  · rw [if_pos rfl] at un
    by_cases hA : n ≤ x.toBitVec.toNat
    · rw [if_pos (decide_eq_true hA)] at un
      refine fin 0 (fun j hj => ?_) (go _ un)
      rw [Nat.min_eq_right hA, sh_b0_]
      unfold sh_sl
      rw [if_pos (by decide), if_neg (by omega)]
      rfl
    · rw [if_neg (by rw [decide_eq_false hA]; exact ff), sh_to32 (sm (d := 0) hA) rfl (by omega)] at un
      refine fin _ (fun j hj => ?_) (go _ un)
      rw [Nat.min_eq_left (by omega), sh_shl_b (by omega) (by omega)]
      unfold sh_sl
      rw [if_pos (by decide)]
      by_cases hd : x.toBitVec.toNat ≤ j
      · rw [if_pos hd, decide_eq_true hd, Bool.true_and, ha.low hn (by omega)]
      · rw [if_neg hd, decide_eq_false hd]; rfl
  · rw [if_neg (by decide)] at un
    have e3 : decide ((15934 : Int32) = 15420) = false := by decide
    rw [e3] at fin ⊢
    by_cases hk2 : k = 2
    · subst hk2
      have ha2 : sh_Ft true n a v := ha
      rw [if_pos (show Int32.ofNat 2 = 2 from rfl)] at un
      by_cases hA : n ≤ x.toBitVec.toNat
      · rw [if_pos (decide_eq_true hA)] at un
        rw [Nat.min_eq_right hA] at fin ⊢
        by_cases hv : v < 0
        · rw [if_pos hv] at un
          refine fin (-1) (fun j hj => ?_) (go _ un)
          rw [sh_m1_b (by omega)]
          unfold sh_sl
          rw [if_neg ff, if_neg (by omega), (sh_sgn_lt ha2 h1 hn).mp hv]
          rfl
        · rw [if_neg hv] at un
          refine fin 0 (fun j hj => ?_) (go _ un)
          rw [sh_b0_]
          unfold sh_sl
          rw [if_neg ff, if_neg (by omega), Bool.eq_false_iff.mpr (fun q => hv ((sh_sgn_lt ha2 h1 hn).mpr q))]
          rfl
      · rw [if_neg (by rw [decide_eq_false hA]; exact ff), sh_to32 (sm (d := 0) hA) rfl (by omega)] at un
        refine fin _ (fun j hj => ?_) (go _ un)
        rw [Nat.min_eq_left (by omega), sh_sar_b (by omega) (by omega), ha2 _ (by omega)]
        unfold sh_sl sh_ct
        rw [if_neg ff]
        by_cases hd : j + x.toBitVec.toNat < n
        · rw [if_pos hd, if_pos (by omega)]
          congr 1
          omega
        · rw [if_neg hd]
          by_cases h64 : n = 64
          · subst h64
            rw [if_pos (by omega), Nat.min_eq_right (by omega)]
            show a 63 = (true && true && a 63)
            rfl
          · rw [if_neg (by omega), if_pos rfl]
            rfl
    · rw [if_neg (show ¬ Int32.ofNat k = 2 from fun q => hk2 ((sh_kI (by omega) (c := 2) (by omega)).mp q))] at un
      have fk : (!false && decide (k = 2) && a (n - 1)) = false := by rw [decide_eq_false hk2]; rfl
      rw [fk] at fin ⊢
      by_cases hA : n ≤ x.toBitVec.toNat
      · rw [if_pos (decide_eq_true hA)] at un
        refine fin 0 (fun j hj => ?_) (go _ un)
        rw [Nat.min_eq_right hA, sh_b0_]
        unfold sh_sl
        rw [if_neg ff, if_neg (by omega)]
      · rw [if_neg (by rw [decide_eq_false hA]; exact ff), sh_to32 (sm (d := 0) hA) rfl (by omega)] at un
        refine fin _ (fun j hj => ?_) (go _ un)
        rw [Nat.min_eq_left (by omega), sh_shr_b (by omega)]
        unfold sh_sl
        rw [if_neg ff]
        by_cases hd : j + x.toBitVec.toNat < n
        · rw [if_pos hd, lo _ (by omega), decide_eq_true (by omega), Bool.true_and]
          congr 1
          omega
        · rw [if_neg hd]
          by_cases h64 : x.toBitVec.toNat + j < 64
          · rw [lo _ h64, decide_eq_false (by omega)]; rfl
          · unfold sh_b
            rw [BitVec.getLsbD_of_ge _ _ (by omega)]
