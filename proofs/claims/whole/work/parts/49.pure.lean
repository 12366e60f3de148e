/-! shifts -/
theorem sh_nIneg {a b : Nat} (ha : a < 1073741824) (hb : b < 1073741824) (h : a < b) : Int32.ofNat a - Int32.ofNat b < 0 := by
  rw [Int32.lt_iff_toInt_lt, Int32.toInt_sub, sh_nI (by omega), sh_nI (by omega)]
  rw [Int.bmod_eq_of_le (by omega) (by omega)]
  show (a : Int) - (b : Int) < 0
  omega
/-- where a bit comes from in a shift by d -/
def sh_sl (l : Bool) (d n : Nat) (a : Nat → Bool) (f : Bool) (j : Nat) : Bool := if l = true then (if d ≤ j then a (j - d) else f) else (if j + d < n then a (j + d) else f)
theorem sh_lmin {x : Int64} {n : Nat} (hx : ¬ x < 0) (hn : n < 1073741824) : Int64.toInt32 (sf_174 x (Int32.toInt64 (Int32.ofNat n))) = Int32.ofNat (min x.toInt.toNat n) := by
  have h0 : 0 ≤ x.toInt := by
    rw [Int64.lt_iff_toInt_lt] at hx
    exact Int.not_lt.mp hx
  have en : (Int32.toInt64 (Int32.ofNat n)).toInt = (n : Int) := by rw [Int32.toInt_toInt64, sh_nI (by omega)]
  unfold sf_174
  by_cases h : Int32.toInt64 (Int32.ofNat n) < x
  · rw [if_pos h]
    rw [Int64.lt_iff_toInt_lt, en] at h
    rw [Nat.min_eq_right (by omega), Int32.toInt32_toInt64]
  · rw [if_neg h]
    rw [Int64.lt_iff_toInt_lt, en] at h
    rw [Nat.min_eq_left (by omega), ← Int32.toInt_inj, Int64.toInt_toInt32, sh_nI (by omega), Int.bmod_eq_of_le (by omega) (by omega)]
    omega
/-- Reckoner.shiftBy -/
theorem sh_173 {gs : sh_gL} {u v n f : Nat} {x : Int64} {l : Bool} {m : sh_X} {F : Nat → (Nat → Bool) → Bool} {ff : (Nat → Bool) → Bool} (h : sh_RS gs u m) (hx : sh_val m gs u v n F) (hf : f < gs.length) (hff : ∀ p, sh_va p gs f = ff p) (h0 : ¬ x < 0) (hn : u + n ≤ 8192) : sh_rop (0 * n) n n gs u m (sf_173 (Int32.ofNat v) (Int32.ofNat n) x l (Int32.ofNat f) m) (fun j p => sh_sl l (min x.toInt.toNat n) n (fun j => F j p) (ff p) j) := by
  obtain ⟨m1, a1, a2, a3, a4⟩ := sh_98 h hn
  have hu := h.2.2.1
  have hw := hx.1
  unfold sf_173
  rw [a1]
  show sh_rop _ _ _ _ _ _ (sf_173_19 (Int32.ofNat v) (Int32.ofNat n) l (Int32.ofNat f) (Int32.ofNat u) (Int64.toInt32 (sf_174 x (Int32.toInt64 (Int32.ofNat n)))) 0 m1) _
  rw [sh_lmin h0 (by omega)]
  have hd : min x.toInt.toNat n ≤ n := Nat.min_le_right _ _
  generalize min x.toInt.toNat n = d at hd
  refine sh_bits0 a2 a3 a4 (by omega) (fun i e m2 hi hR => ?_) (fun m2 => by show sf_173_19s _ _ _ _ _ _ _ _ = _; unfold sf_173_19s; rw [if_neg (sh_nlt0 n)])
  have hlt := (sh_nIlt (a := i) (b := n) (by omega) (by omega)).mpr hi
  have old : ∀ k, k < n → (∀ p, sh_sl l d n (fun j => F j p) (ff p) i = F k p) → ∃ e2 m3, sf_173_43 (Int32.ofNat v) (Int32.ofNat n) l (Int32.ofNat f) (Int32.ofNat u) (Int32.ofNat d) (Int32.ofNat i) (Int32.ofNat k) m2 = some (.inl (Int32.ofNat i + 1, m3)) ∧ sh_RI (0 * i + 0) (fun j p => sh_sl l d n (fun j => F j p) (ff p) j) gs u n m (i + 1) e2 m3 := by
    intro k hk hF
    obtain ⟨y, b1, b2, b3⟩ := hR.bit (hx.2 k hk) (by omega)
    obtain ⟨m4, d1, d2⟩ := hR.set hu hi b2 (fun p => (b3 p).trans (hF p).symm)
    refine ⟨e, m4, ?_, d2.more (by omega)⟩
    unfold sf_173_43
    rw [if_neg (sh_nI0 (by omega)), if_pos ((sh_nIlt (by omega) (by omega)).mpr hk), sh_nIadd, sh_nIadd, b1]
    show sh_bn (sf_100 (Int32.ofNat (u + i)) (Int32.ofNat y) m2) _ = _
    rw [d1]
    rfl
  have fill : ∀ c : Int32, (c < 0 ∨ ¬ c < Int32.ofNat n) → (∀ p, sh_sl l d n (fun j => F j p) (ff p) i = ff p) → ∃ e2 m3, sf_173_43 (Int32.ofNat v) (Int32.ofNat n) l (Int32.ofNat f) (Int32.ofNat u) (Int32.ofNat d) (Int32.ofNat i) c m2 = some (.inl (Int32.ofNat i + 1, m3)) ∧ sh_RI (0 * i + 0) (fun j p => sh_sl l d n (fun j => F j p) (ff p) j) gs u n m (i + 1) e2 m3 := by
    intro c hc hF
    obtain ⟨m4, d1, d2⟩ := hR.set (x := f) hu hi (sh_lt_app hf) (fun p => by rw [sh_va_ext p _ hf, hff p, hF p])
    refine ⟨e, m4, ?_, d2.more (by omega)⟩
    have go : sf_173_73 (Int32.ofNat v) (Int32.ofNat n) l (Int32.ofNat f) (Int32.ofNat u) (Int32.ofNat d) (Int32.ofNat i) (Int32.ofNat (u + i)) m2 = some (.inl (Int32.ofNat i + 1, m4)) := by
      unfold sf_173_73 sf_173_75
      rw [d1]
      rfl
    unfold sf_173_43
    rw [sh_nIadd, go]
    by_cases hc0 : c < 0
    · rw [if_pos hc0]
    · rw [if_neg hc0, if_neg (hc.resolve_left hc0)]
  have step : ∀ c : Int32, (if l = true then Int32.ofNat i - Int32.ofNat d else Int32.ofNat i + Int32.ofNat d) = c → sf_173_19s (Int32.ofNat v) (Int32.ofNat n) l (Int32.ofNat f) (Int32.ofNat u) (Int32.ofNat d) (Int32.ofNat i) m2 = sf_173_43 (Int32.ofNat v) (Int32.ofNat n) l (Int32.ofNat f) (Int32.ofNat u) (Int32.ofNat d) (Int32.ofNat i) c m2 := by
    intro c hc
    unfold sf_173_19s
    rw [if_pos hlt, ← hc]
    by_cases hl : l = true
    · rw [if_pos hl, if_pos hl]
    · rw [if_neg hl, if_neg hl]
  by_cases hl : l = true
  · by_cases hdi : d ≤ i
    · obtain ⟨e2, m3, k1, k2⟩ := old (i - d) (by omega) (fun p => by unfold sh_sl; rw [if_pos hl, if_pos hdi])
      exact ⟨e2, m3, (step _ (by rw [if_pos hl, sh_nIs hdi])).trans k1, k2⟩
    · obtain ⟨e2, m3, k1, k2⟩ := fill (Int32.ofNat i - Int32.ofNat d) (Or.inl (sh_nIneg (by omega) (by omega) (by omega))) (fun p => by unfold sh_sl; rw [if_pos hl, if_neg hdi])
      exact ⟨e2, m3, (step _ (by rw [if_pos hl])).trans k1, k2⟩
  · by_cases hdi : i + d < n
    · obtain ⟨e2, m3, k1, k2⟩ := old (i + d) hdi (fun p => by unfold sh_sl; rw [if_neg hl, if_pos hdi])
      exact ⟨e2, m3, (step _ (by rw [if_neg hl, sh_nIadd])).trans k1, k2⟩
    · obtain ⟨e2, m3, k1, k2⟩ := fill (Int32.ofNat (i + d)) (Or.inr (by rw [sh_nIlt (by omega) (by omega)]; exact hdi)) (fun p => by unfold sh_sl; rw [if_neg hl, if_neg hdi])
      exact ⟨e2, m3, (step _ (by rw [if_neg hl, sh_nIadd])).trans k1, k2⟩
/-- how far the bit b of y shifts -/
def sh_dist (n b : Nat) : Nat := if b < 6 then min (2 ^ b) n else n
/-- the value behind the first b bits of y -/
def sh_svv (l : Bool) (n : Nat) (a y : Nat → Bool) (f : Bool) : Nat → Nat → Bool
  | 0, j => a j
  | b + 1, j => if y b = true then sh_sl l (sh_dist n b) n (sh_svv l n a y f b) f j else sh_svv l n a y f b j
/-- one bit of y, over the whole value -/
theorem sh_175r {L : Nat} {gs : sh_gL} {u n f w k b : Nat} {l : Bool} {m0 : sh_X} {e : sh_gL} {m : sh_X} {G : Nat → (Nat → Bool) → Bool} {H : Nat → (Nat → Bool) → Bool} {ff : (Nat → Bool) → Bool} (h0 : sh_RS gs u m0) (hy : sh_val m0 gs u w k H) (hb : b < k) (hf : f < gs.length) (hff : ∀ p, sh_va p gs f = ff p) (d : Nat) (hd1 : 1 ≤ d) (hd : d ≤ n) (hl : gs.length + (L + 3 * n) ≤ 65536) (hR : sh_RI L G gs u n m0 n e m) (hn : u + n ≤ 8192) (hk : k < 1073741824) :
    ∃ e2 m2, sf_175_49 (Int32.ofNat n) (Int32.ofNat w) (Int32.ofNat k) l (Int32.ofNat f) (Int32.ofNat u) (Int32.ofNat b) (Int32.ofNat d) 0 m = some (.inl (Int32.ofNat b + 1, m2)) ∧ sh_RI (L + 3 * n) (fun j p => if H b p = true then sh_sl l d n (fun j => G j p) (ff p) j else G j p) gs u n m0 n e2 m2 := by
  have hu := h0.2.2.1
  have hw := hy.1
  have hub := h0.2.2.2.1
  unfold sf_175_49
  obtain ⟨⟨c, m2⟩, ⟨e2, q1, q2⟩, q3⟩ := sh_loop (f := fun q => sf_175_49s (Int32.ofNat n) (Int32.ofNat w) (Int32.ofNat k) l (Int32.ofNat f) (Int32.ofNat u) (Int32.ofNat b) (Int32.ofNat d) q.1 q.2) (n := n) (i := 0) (s := (0, m))
    (fun i s => ∃ e, s.1 = Int32.ofNat i ∧ sh_RI (L + 3 * i) (fun j p => if (if l = true then n - i ≤ j else j < i) then (if H b p = true then sh_sl l d n (fun j => G j p) (ff p) j else G j p) else G j p) gs u n m0 n e s.2) (by
      rintro i ⟨c, m2⟩ hi ⟨e, r1, hR⟩
      have r1 : c = Int32.ofNat i := r1
      subst r1
      have hR : sh_RI (L + 3 * i) (fun j p => if (if l = true then n - i ≤ j else j < i) then (if H b p = true then sh_sl l d n (fun j => G j p) (ff p) j else G j p) else G j p) gs u n m0 n e m2 := hR
      have hlt := (sh_nIlt (a := i) (b := n) (by omega) (by omega)).mpr hi
      have rm := hR.room (N := 3) (by omega)
      obtain ⟨y, y1, y2, y3⟩ := hR.bit (hy.2 b hb) (by omega)
      -- the bit that is made anew
      have hat : ∃ t, t < n ∧ (if l = true then t = n - 1 - i else t = i) ∧ ∀ j, j < n → ((if l = true then n - (i + 1) ≤ j else j < i + 1) ↔ (j = t ∨ (if l = true then n - i ≤ j else j < i))) := by
        by_cases hlt2 : l = true
        · refine ⟨n - 1 - i, by omega, by rw [if_pos hlt2], fun j hj => ?_⟩
          rw [if_pos hlt2, if_pos hlt2]; omega
        · refine ⟨i, hi, by rw [if_neg hlt2], fun j hj => ?_⟩
          rw [if_neg hlt2, if_neg hlt2]; omega
      obtain ⟨t, ht, ht2, ht3⟩ := hat
      have nt : ¬ (if l = true then n - i ≤ t else t < i) := by
        by_cases hlt2 : l = true
        · rw [if_pos hlt2] at ht2 ⊢; omega
        · rw [if_neg hlt2] at ht2 ⊢; omega
      obtain ⟨z, z1, z2, z3⟩ := hR.new (i := t) ht (Nat.le_refl _)
      have z3 : ∀ p, sh_va p (e ++ gs) z = G t p := fun p => by rw [z3 p, if_neg nt]
      -- what moves there
      have mv : ∃ x, x < (e ++ gs).length ∧ (∀ p, sh_va p (e ++ gs) x = sh_sl l d n (fun j => G j p) (ff p) t) ∧ sf_175_49s (Int32.ofNat n) (Int32.ofNat w) (Int32.ofNat k) l (Int32.ofNat f) (Int32.ofNat u) (Int32.ofNat b) (Int32.ofNat d) (Int32.ofNat i) m2 = sf_175_118 (Int32.ofNat n) (Int32.ofNat w) (Int32.ofNat k) l (Int32.ofNat f) (Int32.ofNat u) (Int32.ofNat b) (Int32.ofNat d) (Int32.ofNat i) (Int32.ofNat t) (Int32.ofNat x) m2 := by
        have hlen := hR.rs.1.len
        by_cases hlt2 : l = true
        · rw [if_pos hlt2] at ht2
          have e1 : sf_175_49s (Int32.ofNat n) (Int32.ofNat w) (Int32.ofNat k) l (Int32.ofNat f) (Int32.ofNat u) (Int32.ofNat b) (Int32.ofNat d) (Int32.ofNat i) m2 = sf_175_91 (Int32.ofNat n) (Int32.ofNat w) (Int32.ofNat k) l (Int32.ofNat f) (Int32.ofNat u) (Int32.ofNat b) (Int32.ofNat d) (Int32.ofNat i) (Int32.ofNat t) (Int32.ofNat t - Int32.ofNat d) m2 := by
            unfold sf_175_49s sf_175_71
            rw [if_pos hlt, if_pos hlt2, if_pos hlt2, show (Int32.ofNat n - 1) - Int32.ofNat i = Int32.ofNat t by rw [show (1 : Int32) = Int32.ofNat 1 from rfl, sh_nIs (by omega), sh_nIs (by omega), ht2]]
          by_cases hdt : d ≤ t
          · obtain ⟨x, x1, x2, x3⟩ := hR.new (i := t - d) (by omega) (Nat.le_refl _)
            refine ⟨x, x2, fun p => ?_, e1.trans ?_⟩
            · rw [x3 p, if_neg (by rw [if_pos hlt2]; omega)]
              unfold sh_sl
              rw [if_pos hlt2, if_pos hdt]
            · unfold sf_175_91
              rw [sh_nIs hdt, if_neg (sh_nI0 (by omega)), if_pos ((sh_nIlt (by omega) (by omega)).mpr (by omega)), sh_nIadd, x1]
              rfl
          · refine ⟨f, sh_lt_app hf, fun p => ?_, e1.trans ?_⟩
            · rw [sh_va_ext p _ hf, hff p]
              unfold sh_sl
              rw [if_pos hlt2, if_neg hdt]
            · unfold sf_175_91 sf_175_116
              rw [if_pos (sh_nIneg (by omega) (by omega) (by omega))]
        · rw [if_neg hlt2] at ht2
          have e1 : sf_175_49s (Int32.ofNat n) (Int32.ofNat w) (Int32.ofNat k) l (Int32.ofNat f) (Int32.ofNat u) (Int32.ofNat b) (Int32.ofNat d) (Int32.ofNat i) m2 = sf_175_91 (Int32.ofNat n) (Int32.ofNat w) (Int32.ofNat k) l (Int32.ofNat f) (Int32.ofNat u) (Int32.ofNat b) (Int32.ofNat d) (Int32.ofNat i) (Int32.ofNat t) (Int32.ofNat (t + d)) m2 := by
            unfold sf_175_49s sf_175_71
            rw [if_pos hlt, if_neg hlt2, if_neg hlt2, ← ht2, sh_nIadd]
          by_cases hdt : t + d < n
          · obtain ⟨x, x1, x2, x3⟩ := hR.new (i := t + d) hdt (Nat.le_refl _)
            refine ⟨x, x2, fun p => ?_, e1.trans ?_⟩
            · rw [x3 p, if_neg (by rw [if_neg hlt2]; omega)]
              unfold sh_sl
              rw [if_neg hlt2, if_pos hdt]
            · unfold sf_175_91
              rw [if_neg (sh_nI0 (by omega)), if_pos ((sh_nIlt (by omega) (by omega)).mpr hdt), sh_nIadd, x1]
              rfl
          · refine ⟨f, sh_lt_app hf, fun p => ?_, e1.trans ?_⟩
            · rw [sh_va_ext p _ hf, hff p]
              unfold sh_sl
              rw [if_neg hlt2, if_neg hdt]
            · unfold sf_175_91 sf_175_116
              rw [if_neg (sh_nI0 (by omega)), if_neg (by rw [sh_nIlt (by omega) (by omega)]; exact hdt)]
      obtain ⟨x, x1, x2, x3⟩ := mv
      obtain ⟨e2, r, m3, k1, k2, k3, k4⟩ := hR.op (sh_129' hR.rs.1 y2 x1 z2 (by omega) y3 x2 z3)
      obtain ⟨m4, s1, s2⟩ := k2.upd hu ht k3 k4
      refine ⟨(Int32.ofNat i + 1, m4), ?_, _, sh_nI1, (s2.more (M := L + 3 * (i + 1)) (by omega)).cong (fun j hj p => ?_)⟩
      · show sf_175_49s _ _ _ _ _ _ _ _ (Int32.ofNat i) m2 = _
        rw [x3]
        unfold sf_175_118
        rw [sh_nIadd, y1]
        show sh_bc (sf_103 (Int32.ofNat u + Int32.ofNat t) m2) _ = _
        rw [sh_nIadd, z1]
        show sh_bn (sf_129 (Int32.ofNat y) (Int32.ofNat x) (Int32.ofNat z) m2) _ = _
        rw [k1]
        show sh_bn (sf_100 (Int32.ofNat (u + t)) (Int32.ofNat r) m3) _ = _
        rw [s1]
        rfl
      · unfold sh_fu
        by_cases hjt : j = t
        · subst hjt
          rw [if_pos rfl, if_pos ((ht3 j hj).mpr (Or.inl rfl))]
        · rw [if_neg hjt]
          show (if (if l = true then n - i ≤ j else j < i) then _ else _) = _
          by_cases ho : (if l = true then n - i ≤ j else j < i)
          · rw [if_pos ho, if_pos ((ht3 j hj).mpr (Or.inr ho))]
          · rw [if_neg ho, if_neg (fun q => ((ht3 j hj).mp q).elim hjt ho)]) (Nat.zero_le _) ⟨e, rfl, (hR.more (by omega)).cong (fun j hj p => by
            rw [if_neg]
            by_cases hlt2 : l = true
            · rw [if_pos hlt2]; omega
            · rw [if_neg hlt2]; omega)⟩
  have q1 : c = Int32.ofNat n := q1
  subst q1
  refine ⟨e2, m2, q3 _ ?_, q2.cong (fun j hj p => ?_)⟩
  · show sf_175_49s _ _ _ _ _ _ _ _ (Int32.ofNat n) m2 = _
    unfold sf_175_49s
    rw [if_neg (sh_nlt0 n)]
  · rw [if_pos]
    by_cases hlt2 : l = true
    · rw [if_pos hlt2]; omega
    · rw [if_neg hlt2]; exact hj
