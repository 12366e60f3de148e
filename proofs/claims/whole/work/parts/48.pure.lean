/-! constants, inputs, copies, casts -/
theorem sh_min {a b : Nat} (ha : a < 2147483648) (hb : b < 2147483648) : sf_21 (Int32.ofNat a) (Int32.ofNat b) = Int32.ofNat (min a b) := by
  unfold sf_21
  by_cases h : b < a
  · rw [if_pos ((sh_nIlt hb ha).mpr h), Nat.min_eq_right (by omega)]
  · rw [if_neg (fun q => h ((sh_nIlt hb ha).mp q)), Nat.min_eq_left (by omega)]
theorem sh_max {a b : Nat} (ha : a < 2147483648) (hb : b < 2147483648) : sf_42 (Int32.ofNat a) (Int32.ofNat b) = Int32.ofNat (max a b) := by
  unfold sf_42
  by_cases h : a < b
  · rw [if_pos ((sh_nIlt ha hb).mpr h), Nat.max_eq_right (by omega)]
  · rw [if_neg (fun q => h ((sh_nIlt ha hb).mp q)), Nat.max_eq_left (by omega)]
theorem sh_sh63 : ∀ i : Fin 64, ((Int32.toInt64 (Int32.ofNat i.1) &&& 63).toBitVec.smod 64).toNat = i.1 := by decide +kernel
/-- a bit of a long -/
theorem sh_lbit (x : Int64) {i : Nat} (hi : i < 64) : (x >>> (Int32.toInt64 (Int32.ofNat i) &&& 63)) &&& (1 : Int64) = if x.toBitVec.getLsbD i = true then 1 else 0 := by
  rw [← Int64.toBitVec_inj, Int64.toBitVec_and, Int64.toBitVec_shiftRight]
  have e := sh_sh63 ⟨i, hi⟩
  unfold BitVec.sshiftRight'
  rw [e]
  apply BitVec.eq_of_getLsbD_eq
  intro j hj
  rw [BitVec.getLsbD_and, BitVec.getLsbD_sshiftRight]
  have one : ∀ j, (1 : Int64).toBitVec.getLsbD j = decide (j = 0) := by
    intro j
    show (1#64).getLsbD j = _
    rw [BitVec.getLsbD_one]
    simp
  have zero : ∀ j, (0 : Int64).toBitVec.getLsbD j = false := fun j => BitVec.getLsbD_zero
  by_cases hj0 : j = 0
  · subst hj0
    rw [one]
    by_cases hb : x.toBitVec.getLsbD i = true
    · rw [if_pos hb, one]; simp [hi, hb]
    · rw [if_neg hb, zero]
      rw [if_pos (by omega), Nat.add_zero, Bool.eq_false_iff.mpr hb]
      rfl
  · rw [one]
    by_cases hb : x.toBitVec.getLsbD i = true
    · rw [if_pos hb, one]; simp [hj0]
    · rw [if_neg hb, zero]; simp [hj0]
def sh_bn1 (b : Bool) : Nat := if b = true then 1 else 0
theorem sh_lbit32 (x : Int64) {i : Nat} (hi : i < 64) : Int64.toInt32 ((x >>> (Int32.toInt64 (Int32.ofNat i) &&& 63)) &&& (1 : Int64)) = Int32.ofNat (sh_bn1 (x.toBitVec.getLsbD i)) := by
  rw [sh_lbit x hi]
  unfold sh_bn1
  split <;> rfl
theorem sh_GS.vb {gs : sh_gL} {m : sh_X} (h : sh_GS gs m) (b : Bool) (p : Nat → Bool) : sh_bn1 b < gs.length ∧ sh_va p gs (sh_bn1 b) = b := by
  have := h.1
  cases b
  · exact ⟨by show 0 < _; omega, h.v0 p⟩
  · exact ⟨by show 1 < _; omega, h.v1 p⟩
/-- Reckoner.constant -/
theorem sh_115 {gs : sh_gL} {u n : Nat} {x : Int64} {m : sh_X} (h : sh_RS gs u m) (h64 : n ≤ 64) (hn : u + n ≤ 8192) : sh_rop (0 * n) n n gs u m (sf_115 x (Int32.ofNat n) m) (fun j _ => x.toBitVec.getLsbD j) := by
  obtain ⟨m1, a1, a2, a3, a4⟩ := sh_98 h hn
  have hu := h.2.2.1
  unfold sf_115
  rw [a1]
  refine sh_bits0 a2 a3 a4 (by omega) (fun i e m2 hi hR => ?_) (fun m2 => by show sf_115_10s _ _ _ _ _ = _; unfold sf_115_10s; rw [if_neg (sh_nlt0 n)])
  have hlt := (sh_nIlt (a := i) (b := n) (by omega) (by omega)).mpr hi
  obtain ⟨m4, d1, d2⟩ := hR.set hu hi (hR.rs.1.vb (x.toBitVec.getLsbD i) (fun _ => false)).1 (fun p => (hR.rs.1.vb (x.toBitVec.getLsbD i) p).2)
  refine ⟨e, m4, ?_, d2.more (by omega)⟩
  show sf_115_10s _ _ _ (Int32.ofNat i) m2 = _
  unfold sf_115_10s
  rw [if_pos hlt, show (63 : Int32) = Int32.ofNat 63 from rfl, sh_min (by omega) (by omega), Nat.min_eq_left (by omega), sh_lbit32 x (by omega), sh_nIadd, d1]
  rfl
/-- Reckoner.single -/
theorem sh_188 {gs : sh_gL} {u x : Nat} {m : sh_X} {f : (Nat → Bool) → Bool} (h : sh_RS gs u m) (hx : x < gs.length) (hf : ∀ p, sh_va p gs x = f p) (hn : u + 1 ≤ 8192) : sh_rop 0 1 1 gs u m (sf_188 (Int32.ofNat x) m) (fun _ p => f p) := by
  obtain ⟨m1, a1, a2, a3, a4⟩ := sh_98 (n := 1) h hn
  have hu := h.2.2.1
  have hR := sh_RI_0 (F := fun _ p => f p) a2 a3 a4
  obtain ⟨m4, d1, d2⟩ := hR.set (x := x) hu (by omega) hx hf
  refine d2.rop ?_
  unfold sf_188
  rw [show (1 : Int32) = Int32.ofNat 1 from rfl, a1]
  show sh_bn (sf_100 (Int32.ofNat (u + 0)) (Int32.ofNat x) m1) _ = _
  rw [d1]
  rfl
theorem sh_rop.wop {L N S n : Nat} {gs : sh_gL} {u : Nat} {m : sh_X} {q : Option (Int32 × sh_X)} {f : (Nat → Bool) → Bool} {F : Nat → (Nat → Bool) → Bool} {k : Int32 → sh_X → Option (Int32 × sh_X)} (hq : sh_wop L gs u m q f)
    (hk : ∀ e r m2, sh_RS (e ++ gs) u m2 → e.length ≤ L → r < (e ++ gs).length → (∀ p, sh_va p (e ++ gs) r = f p) → sh_rop N S n (e ++ gs) u m2 (k (Int32.ofNat r) m2) F) : sh_rop (L + N) S n gs u m (sh_bn q k) F := by
  obtain ⟨e, r, m2, h1, h2, h3, h4⟩ := hq
  obtain ⟨e2, w, u2, m3, g1, g2, g3, g4, g5, g6, g7, g8⟩ := hk e r m2 h2.rs h2.le h3 h4
  have le := h2.le
  refine ⟨e2 ++ e, w, u2, m3, by rw [h1]; exact g1, by rw [List.append_assoc]; exact g2, g3, g4, h2.fr.trans g5, fun j hj => (g6 j hj).trans (h2.po j hj), by rw [List.length_append]; omega, by rw [List.append_assoc]; exact g8⟩
theorem sh_rop_id {N S n : Nat} {gs : sh_gL} {u : Nat} {m : sh_X} {q : Option (Int32 × sh_X)} {F : Nat → (Nat → Bool) → Bool} (h : sh_rop N S n gs u m q F) : sh_rop N S n gs u m (sh_bn q fun r m => some (r, m)) F := by
  obtain ⟨e, w, u2, m2, h1, h2⟩ := h
  exact ⟨e, w, u2, m2, by rw [h1]; rfl, h2⟩
/-- Reckoner.copy within what was taken: the bits 0 to n at w come to u -/
theorem sh_137 {gs : sh_gL} {u v n : Nat} {m m1 : sh_X} {F : Nat → (Nat → Bool) → Bool} (h : sh_RS gs u m) (h1 : sh_RS gs (u + n) m1) (h2 : sh_Rf m m1) (h3 : ∀ j, m1.I 45 j = m.I 45 j) (hx : sh_val m gs u v n F) : ∃ m2, sf_137 (Int32.ofNat v) (Int32.ofNat u) (Int32.ofNat n) m1 = some ((), m2) ∧ sh_RI 0 F gs u n m n [] m2 := by
  have hu := h.2.2.1
  have hw := hx.1
  have hb := h1.2.2.2.1
  unfold sf_137 sf_137_3
  obtain ⟨⟨c, m2⟩, ⟨q1, q2⟩, q3⟩ := sh_loop (f := fun q => sf_137_3s (Int32.ofNat v) (Int32.ofNat u) (Int32.ofNat n) q.1 q.2) (n := n) (i := 0) (s := (0, m1))
    (fun i s => s.1 = Int32.ofNat i ∧ sh_RI 0 F gs u n m i [] s.2) (by
      rintro i ⟨c, m2⟩ hi ⟨r1, hR⟩
      have r1 : c = Int32.ofNat i := r1
      subst r1
      have hlt := (sh_nIlt (a := i) (b := n) (by omega) (by omega)).mpr hi
      obtain ⟨x, b1, b2, b3⟩ := hR.bit (hx.2 i hi) (by omega)
      obtain ⟨m4, s1, s2⟩ := hR.set hu hi b2 b3
      refine ⟨(Int32.ofNat i + 1, m4), ?_, sh_nI1, s2⟩
      show sf_137_3s _ _ _ (Int32.ofNat i) m2 = _
      unfold sf_137_3s
      rw [if_pos hlt, sh_nIadd, b1]
      show sh_bn (sf_100 (Int32.ofNat u + Int32.ofNat i) (Int32.ofNat x) m2) _ = _
      rw [sh_nIadd, s1]
      rfl) (Nat.zero_le _) ⟨rfl, sh_RI_0 h1 h2 h3⟩
  have q1 : c = Int32.ofNat n := q1
  subst q1
  refine ⟨m2, q3 _ ?_, q2⟩
  show sf_137_3s _ _ _ (Int32.ofNat n) m2 = _
  unfold sf_137_3s
  rw [if_neg (sh_nlt0 n)]
/-- the bits of a cast: those that stand, then the filling -/
def sh_ct (a : Nat → Bool) (n : Nat) (s : Bool) (j : Nat) : Bool := if j < n then a j else if s = true then a (n - 1) else false
theorem sh_193a {gs : sh_gL} {u v n k f : Nat} {t : Int32} {m : sh_X} {F : Nat → (Nat → Bool) → Bool} {ff : (Nat → Bool) → Bool} (h : sh_RS gs u m) (hx : sh_val m gs u v n F) (ht : sf_94 t = Int32.ofNat k) (hf : f < gs.length) (hff : ∀ p, sh_va p gs f = ff p) (hn : u + k ≤ 8192) : sh_rop (0 * k) k k gs u m (sf_193_46 (Int32.ofNat v) t (Int32.ofNat n) (Int32.ofNat f) m) (fun j p => if j < n then F j p else ff p) := by
  obtain ⟨m1, a1, a2, a3, a4⟩ := sh_98 h hn
  have hu := h.2.2.1
  have hu2 := h.2.2.2.1
  have hw := hx.1
  unfold sf_193_46
  rw [ht, a1]
  refine sh_bits0 a2 a3 a4 (by omega) (fun i e m2 hi hR => ?_) (fun m2 => by show sf_193_61s _ _ _ _ _ _ _ = _; unfold sf_193_61s; rw [ht, if_neg (sh_nlt0 k)])
  have hlt := (sh_nIlt (a := i) (b := k) (by omega) (by omega)).mpr hi
  by_cases hin : i < n
  · obtain ⟨x, b1, b2, b3⟩ := hR.bit (hx.2 i hin) (by omega)
    obtain ⟨m4, d1, d2⟩ := hR.set hu hi b2 (fun p => by rw [b3 p, if_pos hin])
    refine ⟨e, m4, ?_, d2.more (by omega)⟩
    show sf_193_61s _ _ _ _ _ (Int32.ofNat i) m2 = _
    unfold sf_193_61s
    rw [ht, if_pos hlt, if_pos ((sh_nIlt (by omega) (by omega)).mpr hin), sh_nIadd, b1]
    show sh_bn (sf_100 (Int32.ofNat u + Int32.ofNat i) (Int32.ofNat x) m2) _ = _
    rw [sh_nIadd, d1]
    rfl
  · obtain ⟨m4, d1, d2⟩ := hR.set (x := f) hu hi (sh_lt_app hf) (fun p => by rw [sh_va_ext p _ hf, hff p, if_neg hin])
    refine ⟨e, m4, ?_, d2.more (by omega)⟩
    show sf_193_61s _ _ _ _ _ (Int32.ofNat i) m2 = _
    unfold sf_193_61s
    rw [ht, if_pos hlt, if_neg (by rw [sh_nIlt (by omega) (by omega)]; exact hin)]
    show sh_bn (sf_100 (Int32.ofNat u + Int32.ofNat i) (Int32.ofNat f) m2) _ = _
    rw [sh_nIadd, d1]
    rfl
/-- Reckoner.cast to a number's type -/
theorem sh_193 {gs : sh_gL} {u v n k : Nat} {t0 t : Int32} {m : sh_X} {F : Nat → (Nat → Bool) → Bool} (h : sh_RS gs u m) (hx : sh_val m gs u v n F) (h1n : 1 ≤ n) (ht0 : sf_94 t0 = Int32.ofNat n) (htb : ¬ t = 257) (ht : sf_94 t = Int32.ofNat k) (hn : u + k ≤ 8192) : sh_rop (0 * k) k k gs u m (sf_193 (Int32.ofNat v) t0 t m) (fun j p => sh_ct (fun j => F j p) n (sf_114 t0) j) := by
  have hw := hx.1
  have hu2 := h.2.2.2.1
  have h2 := h.1.1
  unfold sf_193
  rw [if_neg htb]
  by_cases hs : sf_114 t0 = true
  · obtain ⟨x, b1, b2⟩ := hx.2 (n - 1) (by omega)
    rw [if_pos hs, ht0, sh_nIadd, show Int32.ofNat (v + n) - 1 = Int32.ofNat (v + (n - 1)) by rw [show (1 : Int32) = Int32.ofNat 1 from rfl, sh_nIs (by omega)]; congr 1; omega, sh_103 h (by omega) b1]
    obtain ⟨e, w, u2, m2, g1, g2, g3, g4, g5, g6, g7, g8⟩ := sh_193a h hx ht b1.2 b2 hn
    refine ⟨e, w, u2, m2, g1, g2, g3, g4, g5, g6, g7, g8.1, fun j hj => ?_⟩
    obtain ⟨y, y1, y2⟩ := g8.2 j hj
    refine ⟨y, y1, fun p => (y2 p).trans ?_⟩
    show (if j < n then _ else _) = (if j < n then _ else (if sf_114 t0 = true then _ else _))
    rw [if_pos hs]
  · rw [if_neg hs, ht0]
    obtain ⟨e, w, u2, m2, g1, g2, g3, g4, g5, g6, g7, g8⟩ := sh_193a (f := 0) (ff := fun _ => false) h hx ht (by omega) (fun p => h.1.v0 p) hn
    refine ⟨e, w, u2, m2, g1, g2, g3, g4, g5, g6, g7, g8.1, fun j hj => ?_⟩
    obtain ⟨y, y1, y2⟩ := g8.2 j hj
    refine ⟨y, y1, fun p => (y2 p).trans ?_⟩
    show (if j < n then _ else _) = (if j < n then _ else (if sf_114 t0 = true then _ else _))
    rw [if_neg hs]
/-- Reckoner.cast to bool -/
theorem sh_193z {gs : sh_gL} {u v n : Nat} {t0 : Int32} {m : sh_X} {F : Nat → (Nat → Bool) → Bool} (h : sh_RS gs u m) (hx : sh_val m gs u v n F) (ht0 : sf_94 t0 = Int32.ofNat n) (hl : gs.length + 3 * n ≤ 65536) (hn : u + 1 ≤ 8192) : sh_rop (3 * n) 1 1 gs u m (sf_193 (Int32.ofNat v) t0 257 m) (fun _ p => sh_or (fun j => F j p) n) := by
  unfold sf_193
  rw [if_pos rfl, ht0]
  exact sh_rop.wop (N := 0) (sh_186 h hx hl) (fun e r m2 g1 g2 g3 g4 => sh_rop_id (sh_188 g1 g3 g4 hn))
