/-! operations of the Reckoner, bit by bit: flip, bitwise, choose, sum, negate -/
def sh_bit (m : sh_X) (gs : sh_gL) (w j : Nat) (f : (Nat → Bool) → Bool) : Prop := ∃ x, sh_pe m gs (w + j) x ∧ ∀ p, sh_va p gs x = f p
theorem sh_141' {gs : sh_gL} {m : sh_X} {x : Nat} {f : (Nat → Bool) → Bool} (h : sh_GS gs m) (hx : x < gs.length) (hl : gs.length < 65536) (hf : ∀ p, sh_va p gs x = f p) : sh_gop 1 gs m (sf_141 (Int32.ofNat x) m) (fun p => !f p) := by
  obtain ⟨e, r, m2, h1, h2, h3, h4, h5, h6⟩ := sh_141 h hx hl
  exact ⟨e, r, m2, h1, h2, h3, h4, h5, fun p => (h6 p).trans (by show (!sh_va p gs x) = _; rw [hf p])⟩
theorem sh_130' {gs : sh_gL} {m : sh_X} {x y : Nat} {f g : (Nat → Bool) → Bool} (h : sh_GS gs m) (hx : x < gs.length) (hy : y < gs.length) (hl : gs.length < 65536) (hf : ∀ p, sh_va p gs x = f p) (hg : ∀ p, sh_va p gs y = g p) : sh_gop 1 gs m (sf_130 (Int32.ofNat x) (Int32.ofNat y) m) (fun p => Bool.xor (f p) (g p)) := by
  obtain ⟨e, r, m2, h1, h2, h3, h4, h5, h6⟩ := sh_130 h hx hy hl
  exact ⟨e, r, m2, h1, h2, h3, h4, h5, fun p => (h6 p).trans (by show Bool.xor (sh_va p gs x) (sh_va p gs y) = _; rw [hf p, hg p])⟩
theorem sh_132' {gs : sh_gL} {m : sh_X} {x y : Nat} {f g : (Nat → Bool) → Bool} (h : sh_GS gs m) (hx : x < gs.length) (hy : y < gs.length) (hl : gs.length < 65536) (hf : ∀ p, sh_va p gs x = f p) (hg : ∀ p, sh_va p gs y = g p) : sh_gop 1 gs m (sf_132 (Int32.ofNat x) (Int32.ofNat y) m) (fun p => f p && g p) := by
  obtain ⟨e, r, m2, h1, h2, h3, h4, h5, h6⟩ := sh_132 h hx hy hl
  exact ⟨e, r, m2, h1, h2, h3, h4, h5, fun p => (h6 p).trans (by show (sh_va p gs x && sh_va p gs y) = _; rw [hf p, hg p])⟩
theorem sh_185' {gs : sh_gL} {m : sh_X} {x y : Nat} {f g : (Nat → Bool) → Bool} (h : sh_GS gs m) (hx : x < gs.length) (hy : y < gs.length) (hl : gs.length + 3 ≤ 65536) (hf : ∀ p, sh_va p gs x = f p) (hg : ∀ p, sh_va p gs y = g p) : sh_gop 3 gs m (sf_185 (Int32.ofNat x) (Int32.ofNat y) m) (fun p => f p || g p) := by
  obtain ⟨e, r, m2, h1, h2, h3, h4, h5, h6⟩ := sh_185 h hx hy hl
  exact ⟨e, r, m2, h1, h2, h3, h4, h5, fun p => (h6 p).trans (by show (sh_va p gs x || sh_va p gs y) = _; rw [hf p, hg p])⟩
theorem sh_129' {gs : sh_gL} {m : sh_X} {t x y : Nat} {c f g : (Nat → Bool) → Bool} (h : sh_GS gs m) (ht : t < gs.length) (hx : x < gs.length) (hy : y < gs.length) (hl : gs.length + 3 ≤ 65536) (hc : ∀ p, sh_va p gs t = c p) (hf : ∀ p, sh_va p gs x = f p) (hg : ∀ p, sh_va p gs y = g p) : sh_gop 3 gs m (sf_129 (Int32.ofNat t) (Int32.ofNat x) (Int32.ofNat y) m) (fun p => if c p = true then f p else g p) := by
  obtain ⟨e, r, m2, h1, h2, h3, h4, h5, h6⟩ := sh_129 h ht hx hy hl
  exact ⟨e, r, m2, h1, h2, h3, h4, h5, fun p => (h6 p).trans (by show (if sh_va p gs t = true then sh_va p gs x else sh_va p gs y) = _; rw [hc p, hf p, hg p])⟩
/-- a loop that makes a value bit by bit, with something besides (a carry) -/
theorem sh_bits {α : Type} {K : Nat} {F : Nat → (Nat → Bool) → Bool} {gs : sh_gL} {u n : Nat} {m m1 : sh_X} {f : (α × Int32 × sh_X) → Option ((α × Int32 × sh_X) ⊕ (Int32 × sh_X))} {a0 : α} (C : Nat → α → sh_gL → Prop)
    (h0 : sh_RS gs (u + n) m1) (h1 : sh_Rf m m1) (h2 : ∀ j, m1.I 45 j = m.I 45 j) (hn : n < 2147483648) (hc : C 0 a0 gs)
    (hs : ∀ i a e m2, i < n → sh_RI (K * i) F gs u n m i e m2 → C i a (e ++ gs) → ∃ e2 a2 m3, f (a, Int32.ofNat i, m2) = some (.inl (a2, Int32.ofNat i + 1, m3)) ∧ sh_RI (K * i + K) F gs u n m (i + 1) e2 m3 ∧ C (i + 1) a2 (e2 ++ gs))
    (he : ∀ a m2, f (a, Int32.ofNat n, m2) = some (.inr (Int32.ofNat u, m2))) : sh_rop (K * n) n n gs u m (sh_while f (a0, 0, m1)) F := by
  obtain ⟨⟨a, c, m2⟩, ⟨e, h3, h4, h5⟩, h6⟩ := sh_loop (f := f) (fun i s => ∃ e, s.2.1 = Int32.ofNat i ∧ sh_RI (K * i) F gs u n m i e s.2.2 ∧ C i s.1 (e ++ gs)) (n := n) (i := 0) (s := (a0, 0, m1)) (by
    rintro i ⟨a, c, m2⟩ hi ⟨e, h3, h4, h5⟩
    have h3 : c = Int32.ofNat i := h3
    subst h3
    obtain ⟨e2, a2, m3, k1, k2, k3⟩ := hs i a e m2 hi h4 h5
    exact ⟨_, k1, e2, sh_nI1, by rw [Nat.mul_succ]; exact k2, k3⟩) (Nat.zero_le _) ⟨[], rfl, sh_RI_0 h0 h1 h2, hc⟩
  have h3 : c = Int32.ofNat n := h3
  subst h3
  exact h4.rop (h6 _ (he a m2))
theorem sh_bits0 {K : Nat} {F : Nat → (Nat → Bool) → Bool} {gs : sh_gL} {u n : Nat} {m m1 : sh_X} {f : (Int32 × sh_X) → Option ((Int32 × sh_X) ⊕ (Int32 × sh_X))}
    (h0 : sh_RS gs (u + n) m1) (h1 : sh_Rf m m1) (h2 : ∀ j, m1.I 45 j = m.I 45 j) (hn : n < 2147483648)
    (hs : ∀ i e m2, i < n → sh_RI (K * i) F gs u n m i e m2 → ∃ e2 m3, f (Int32.ofNat i, m2) = some (.inl (Int32.ofNat i + 1, m3)) ∧ sh_RI (K * i + K) F gs u n m (i + 1) e2 m3)
    (he : ∀ m2, f (Int32.ofNat n, m2) = some (.inr (Int32.ofNat u, m2))) : sh_rop (K * n) n n gs u m (sh_while f (0, m1)) F := by
  obtain ⟨⟨c, m2⟩, ⟨e, h3, h4⟩, h6⟩ := sh_loop (f := f) (fun i s => ∃ e, s.1 = Int32.ofNat i ∧ sh_RI (K * i) F gs u n m i e s.2) (n := n) (i := 0) (s := (0, m1)) (by
    rintro i ⟨c, m2⟩ hi ⟨e, h3, h4⟩
    have h3 : c = Int32.ofNat i := h3
    subst h3
    obtain ⟨e2, m3, k1, k2⟩ := hs i e m2 hi h4
    exact ⟨_, k1, e2, sh_nI1, by rw [Nat.mul_succ]; exact k2⟩) (Nat.zero_le _) ⟨[], rfl, sh_RI_0 h0 h1 h2⟩
  have h3 : c = Int32.ofNat n := h3
  subst h3
  exact h4.rop (h6 _ (he m2))
theorem sh_nlt0 (n : Nat) : ¬ Int32.ofNat n < Int32.ofNat n := by rw [Int32.lt_iff_toInt_lt]; omega
/-- Reckoner.flip -/
theorem sh_169 {gs : sh_gL} {u w n : Nat} {m : sh_X} {F : Nat → (Nat → Bool) → Bool} (h : sh_RS gs u m) (hx : sh_val m gs u w n F) (hn : u + n ≤ 8192) (hl : gs.length + 1 * n ≤ 65536) : sh_rop (1 * n) n n gs u m (sf_169 (Int32.ofNat w) (Int32.ofNat n) m) (fun j p => !F j p) := by
  obtain ⟨m1, a1, a2, a3, a4⟩ := sh_98 h hn
  have hu := h.2.2.1
  have hw := hx.1
  unfold sf_169
  rw [a1]
  refine sh_bits0 a2 a3 a4 (by omega) (fun i e m2 hi hR => ?_) (fun m2 => by show sf_169_9s _ _ _ _ _ = _; unfold sf_169_9s; rw [if_neg (sh_nlt0 n)])
  have hlt := (sh_nIlt (a := i) (b := n) (by omega) (by omega)).mpr hi
  have rm := hR.room (sh_mul_lt hi hl)
  obtain ⟨x, b1, b2, b3⟩ := hR.bit (hx.2 i hi) (by omega)
  obtain ⟨e2, r, m3, c1, c2, c3, c4⟩ := hR.op (sh_141' hR.rs.1 b2 (by omega) b3)
  obtain ⟨m4, d1, d2⟩ := c2.set hu hi c3 c4
  refine ⟨_, m4, ?_, d2⟩
  show sf_169_9s _ _ _ (Int32.ofNat i) m2 = _
  unfold sf_169_9s
  rw [if_pos hlt, sh_nIadd, b1]
  show sh_bn (sf_141 (Int32.ofNat x) m2) _ = _
  rw [c1]
  show sh_bn (sf_100 (Int32.ofNat u + Int32.ofNat i) (Int32.ofNat r) m3) _ = _
  rw [sh_nIadd, d1]
  rfl
/-- Reckoner.choose -/
theorem sh_128 {gs : sh_gL} {u t v w n : Nat} {m : sh_X} {c : (Nat → Bool) → Bool} {F H : Nat → (Nat → Bool) → Bool} (h : sh_RS gs u m) (ht : t < gs.length) (hc : ∀ p, sh_va p gs t = c p) (hx : sh_val m gs u v n F) (hy : sh_val m gs u w n H) (hn : u + n ≤ 8192) (hl : gs.length + 3 * n ≤ 65536) : sh_rop (3 * n) n n gs u m (sf_128 (Int32.ofNat t) (Int32.ofNat v) (Int32.ofNat w) (Int32.ofNat n) m) (fun j p => if c p = true then F j p else H j p) := by
  obtain ⟨m1, a1, a2, a3, a4⟩ := sh_98 h hn
  have hu := h.2.2.1
  have hw := hx.1
  have hw2 := hy.1
  unfold sf_128
  rw [a1]
  refine sh_bits0 a2 a3 a4 (by omega) (fun i e m2 hi hR => ?_) (fun m2 => by show sf_128_11s _ _ _ _ _ _ _ = _; unfold sf_128_11s; rw [if_neg (sh_nlt0 n)])
  have hlt := (sh_nIlt (a := i) (b := n) (by omega) (by omega)).mpr hi
  have rm := hR.room (sh_mul_lt hi hl)
  obtain ⟨x, b1, b2, b3⟩ := hR.bit (hx.2 i hi) (by omega)
  obtain ⟨y, g1, g2, g3⟩ := hR.bit (hy.2 i hi) (by omega)
  obtain ⟨e2, r, m3, c1, c2, c3, c4⟩ := hR.op (sh_129' (c := c) hR.rs.1 (sh_lt_app ht) b2 g2 (by omega) (fun p => by rw [sh_va_ext p _ ht]; exact hc p) b3 g3)
  obtain ⟨m4, d1, d2⟩ := c2.set hu hi c3 c4
  refine ⟨_, m4, ?_, d2⟩
  show sf_128_11s _ _ _ _ _ (Int32.ofNat i) m2 = _
  unfold sf_128_11s
  rw [if_pos hlt, sh_nIadd, b1]
  show sh_bc (sf_103 (Int32.ofNat w + Int32.ofNat i) m2) _ = _
  rw [sh_nIadd, g1]
  show sh_bn (sf_129 (Int32.ofNat t) (Int32.ofNat x) (Int32.ofNat y) m2) _ = _
  rw [c1]
  show sh_bn (sf_100 (Int32.ofNat u + Int32.ofNat i) (Int32.ofNat r) m3) _ = _
  rw [sh_nIadd, d1]
  rfl
def sh_bw (s : Int32) (a b : Bool) : Bool := if s = 94 then Bool.xor a b else if s = 38 ∨ s = 9766 then a && b else a || b
/-- Reckoner.bitwise -/
theorem sh_190 {gs : sh_gL} {u v w n : Nat} {s : Int32} {m : sh_X} {F H : Nat → (Nat → Bool) → Bool} (h : sh_RS gs u m) (hx : sh_val m gs u v n F) (hy : sh_val m gs u w n H) (hn : u + n ≤ 8192) (hl : gs.length + 3 * n ≤ 65536) : sh_rop (3 * n) n n gs u m (sf_190 s (Int32.ofNat v) (Int32.ofNat w) (Int32.ofNat n) m) (fun j p => sh_bw s (F j p) (H j p)) := by
  obtain ⟨m1, a1, a2, a3, a4⟩ := sh_98 h hn
  have hu := h.2.2.1
  have hw := hx.1
  have hw2 := hy.1
  unfold sf_190
  rw [a1]
  refine sh_bits0 a2 a3 a4 (by omega) (fun i e m2 hi hR => ?_) (fun m2 => by show sf_190_11s _ _ _ _ _ _ _ = _; unfold sf_190_11s; rw [if_neg (sh_nlt0 n)])
  have hlt := (sh_nIlt (a := i) (b := n) (by omega) (by omega)).mpr hi
  have rm := hR.room (sh_mul_lt hi hl)
  obtain ⟨x, b1, b2, b3⟩ := hR.bit (hx.2 i hi) (by omega)
  obtain ⟨y, g1, g2, g3⟩ := hR.bit (hy.2 i hi) (by omega)
  have key : ∀ (q : Option (Int32 × sh_X)), sh_gop 3 (e ++ gs) m2 q (fun p => sh_bw s (F i p) (H i p)) → ∃ e2 r m3 m4, q = some (Int32.ofNat r, m3) ∧ sf_100 (Int32.ofNat u + Int32.ofNat i) (Int32.ofNat r) m3 = some ((), m4) ∧ sh_RI (3 * i + 3) (fun j p => sh_bw s (F j p) (H j p)) gs u n m (i + 1) e2 m4 := by
    intro q hq
    obtain ⟨e2, r, m3, c1, c2, c3, c4⟩ := hR.op hq
    obtain ⟨m4, d1, d2⟩ := c2.set hu hi c3 c4
    exact ⟨_, r, m3, m4, c1, by rw [sh_nIadd]; exact d1, d2⟩
  have go : sf_190_11s s (Int32.ofNat v) (Int32.ofNat w) (Int32.ofNat n) (Int32.ofNat u) (Int32.ofNat i) m2 = sh_bn (if s = 94 then sf_130 (Int32.ofNat x) (Int32.ofNat y) m2 else if s = 38 ∨ s = 9766 then sf_132 (Int32.ofNat x) (Int32.ofNat y) m2 else sf_185 (Int32.ofNat x) (Int32.ofNat y) m2) (fun r m3 => sh_bn (sf_100 (Int32.ofNat u + Int32.ofNat i) r m3) (fun _ m4 => some (.inl (Int32.ofNat i + 1, m4)))) := by
    unfold sf_190_11s
    rw [if_pos hlt, sh_nIadd, b1]
    show sh_bc (sf_103 (Int32.ofNat w + Int32.ofNat i) m2) _ = _
    rw [sh_nIadd, g1]
    by_cases q1 : s = 94
    · simp only [q1, if_true]; rfl
    · by_cases q2 : s = 38
      · simp only [q2]; rfl
      · by_cases q3 : s = 9766
        · simp only [q3]; rfl
        · simp only [q1, q2, q3, if_false, or_self]; rfl
  have hg : sh_gop 3 (e ++ gs) m2 (if s = 94 then sf_130 (Int32.ofNat x) (Int32.ofNat y) m2 else if s = 38 ∨ s = 9766 then sf_132 (Int32.ofNat x) (Int32.ofNat y) m2 else sf_185 (Int32.ofNat x) (Int32.ofNat y) m2) (fun p => sh_bw s (F i p) (H i p)) := by
    unfold sh_bw
    by_cases q1 : s = 94
    · simp only [q1, if_true]
      exact sh_gop_le (sh_130' hR.rs.1 b2 g2 (by omega) b3 g3) (by omega)
    · by_cases q2 : s = 38 ∨ s = 9766
      · simp only [q1, q2, if_true, if_false]
        exact sh_gop_le (sh_132' hR.rs.1 b2 g2 (by omega) b3 g3) (by omega)
      · simp only [q1, q2, if_false]
        exact sh_185' hR.rs.1 b2 g2 (by omega) b3 g3
  obtain ⟨e2, r, m3, m4, k1, k2, k3⟩ := key _ hg
  refine ⟨e2, m4, ?_, k3⟩
  show sf_190_11s _ _ _ _ _ (Int32.ofNat i) m2 = _
  rw [go, k1]
  show sh_bn (sf_100 _ _ _) _ = _
  rw [k2]
  rfl
