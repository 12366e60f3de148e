/-! sums: a bit with a carry, x + y, x - y, -x -/
/-- the carry into the bit j -/
def sh_cy (a b : Nat → Bool) (c : Bool) : Nat → Bool
  | 0 => c
  | j + 1 => Bool.xor ((Bool.xor (a j) (sh_cy a b c j)) && (Bool.xor (b j) (sh_cy a b c j))) (sh_cy a b c j)
/-- Reckoner.addBit, where the bit i is put in -/
theorem sh_180 {L : Nat} {F : Nat → (Nat → Bool) → Bool} {gs : sh_gL} {u n : Nat} {m0 : sh_X} {i : Nat} {e : sh_gL} {m : sh_X} {a b c : Nat} {fa fb fc : (Nat → Bool) → Bool} (hR : sh_RI L F gs u n m0 i e m) (hu : 2 ≤ u) (hi : i < n) (hl : gs.length + (L + 5) ≤ 65536)
    (a1 : a < (e ++ gs).length) (a2 : ∀ p, sh_va p (e ++ gs) a = fa p) (b1 : b < (e ++ gs).length) (b2 : ∀ p, sh_va p (e ++ gs) b = fb p) (c1 : c < (e ++ gs).length) (c2 : ∀ p, sh_va p (e ++ gs) c = fc p) (hF : ∀ p, F i p = Bool.xor (Bool.xor (fa p) (fc p)) (fb p)) :
    ∃ e2 r m2, sf_180 (Int32.ofNat (u + i)) (Int32.ofNat a) (Int32.ofNat b) (Int32.ofNat c) m = some (Int32.ofNat r, m2) ∧ sh_RI (L + 5) F gs u n m0 (i + 1) (e2 ++ e) m2 ∧ r < ((e2 ++ e) ++ gs).length ∧ ∀ p, sh_va p ((e2 ++ e) ++ gs) r = Bool.xor ((Bool.xor (fa p) (fc p)) && (Bool.xor (fb p) (fc p))) (fc p) := by
  have rm := hR.room hl
  obtain ⟨e1, r1, m1, p1, p2, p3, p4⟩ := hR.op (sh_130' hR.rs.1 a1 c1 (by omega) a2 c2)
  obtain ⟨b3, b4⟩ := sh_keep (e2 := e1) b1 b2
  obtain ⟨c3, c4⟩ := sh_keep (e2 := e1) c1 c2
  have rm1 := p2.room (N := 4) (by omega)
  obtain ⟨e2, r2, m2, q1, q2, q3, q4⟩ := p2.op (sh_130' p2.rs.1 b3 c3 (by omega) b4 c4)
  obtain ⟨p5, p6⟩ := sh_keep (e2 := e2) p3 p4
  obtain ⟨b5, b6⟩ := sh_keep (e2 := e2) b3 b4
  obtain ⟨c5, c6⟩ := sh_keep (e2 := e2) c3 c4
  have rm2 := q2.room (N := 3) (by omega)
  obtain ⟨e3, r3, m3, s1, s2, s3, s4⟩ := q2.op (sh_130' q2.rs.1 p5 b5 (by omega) p6 b6)
  obtain ⟨m4, t1, t2⟩ := s2.set hu hi s3 (fun p => (s4 p).trans (hF p).symm)
  obtain ⟨p7, p8⟩ := sh_keep (e2 := e3) p5 p6
  obtain ⟨q5, q6⟩ := sh_keep (e2 := e3) q3 q4
  obtain ⟨c7, c8⟩ := sh_keep (e2 := e3) c5 c6
  have rm3 := t2.room (N := 2) (by omega)
  obtain ⟨e4, r4, m5, u1, u2, u3, u4⟩ := t2.op (sh_132' t2.rs.1 p7 q5 (by omega) p8 q6)
  obtain ⟨c9, c10⟩ := sh_keep (e2 := e4) c7 c8
  have rm4 := u2.room (N := 1) (by omega)
  obtain ⟨e5, r5, m6, v1, v2, v3, v4⟩ := u2.op (sh_130' u2.rs.1 u3 c9 (by omega) u4 c10)
  refine ⟨e5 ++ (e4 ++ (e3 ++ (e2 ++ e1))), r5, m6, ?_, ?_, ?_, ?_⟩
  · unfold sf_180
    rw [p1]
    show sh_bn (sf_130 (Int32.ofNat b) (Int32.ofNat c) m1) _ = _
    rw [q1]
    show sh_bn (sf_130 (Int32.ofNat r1) (Int32.ofNat b) m2) _ = _
    rw [s1]
    show sh_bn (sf_100 (Int32.ofNat (u + i)) (Int32.ofNat r3) m3) _ = _
    rw [t1]
    show sh_bn (sf_132 (Int32.ofNat r1) (Int32.ofNat r2) m4) _ = _
    rw [u1]
    show sh_bn (sf_130 (Int32.ofNat r4) (Int32.ofNat c) m5) _ = _
    rw [v1]
    rfl
  · have : (e5 ++ (e4 ++ (e3 ++ (e2 ++ e1)))) ++ e = e5 ++ (e4 ++ (e3 ++ (e2 ++ (e1 ++ e)))) := by simp only [List.append_assoc]
    rw [this]
    exact v2
  · have : (e5 ++ (e4 ++ (e3 ++ (e2 ++ e1)))) ++ e = e5 ++ (e4 ++ (e3 ++ (e2 ++ (e1 ++ e)))) := by simp only [List.append_assoc]
    rw [this]
    exact v3
  · intro p
    have : (e5 ++ (e4 ++ (e3 ++ (e2 ++ e1)))) ++ e = e5 ++ (e4 ++ (e3 ++ (e2 ++ (e1 ++ e)))) := by simp only [List.append_assoc]
    rw [this]
    exact v4 p
/-- a carry that stands -/
def sh_isC (C : Nat → (Nat → Bool) → Bool) (i : Nat) (a : Int32) (gs : sh_gL) : Prop := ∃ c, a = Int32.ofNat c ∧ c < gs.length ∧ ∀ p, sh_va p gs c = C i p
theorem sh_xor1 {gs : sh_gL} {m : sh_X} {x k : Nat} {f : (Nat → Bool) → Bool} (h : sh_GS gs m) (hx : x < gs.length) (hl : gs.length < 65536) (hf : ∀ p, sh_va p gs x = f p) (hk : k ≤ 1) : sh_gop 1 gs m (sf_130 (Int32.ofNat x) (Int32.ofNat k) m) (fun p => Bool.xor (f p) (decide (k = 1))) := by
  have h2 := h.1
  refine sh_130' h hx (by omega) hl hf (fun p => ?_)
  by_cases hk1 : k = 1
  · subst hk1; rw [h.v1 p]; rfl
  · have : k = 0 := by omega
    subst this; rw [h.v0 p]; rfl
/-- Reckoner.sum: x + y, or x - y if k is 1 -/
theorem sh_179 {gs : sh_gL} {u v w n k : Nat} {m : sh_X} {F H : Nat → (Nat → Bool) → Bool} (h : sh_RS gs u m) (hx : sh_val m gs u v n F) (hy : sh_val m gs u w n H) (hk : k ≤ 1) (hn : u + n ≤ 8192) (hl : gs.length + 6 * n ≤ 65536) : sh_rop (6 * n) n n gs u m (sf_179 (Int32.ofNat v) (Int32.ofNat w) (Int32.ofNat n) (Int32.ofNat k) m) (fun j p => Bool.xor (Bool.xor (F j p) (sh_cy (fun j => F j p) (fun j => Bool.xor (H j p) (decide (k = 1))) (decide (k = 1)) j)) (Bool.xor (H j p) (decide (k = 1)))) := by
  obtain ⟨m1, a1, a2, a3, a4⟩ := sh_98 h hn
  have hu := h.2.2.1
  have hw := hx.1
  have hw2 := hy.1
  have h2 := h.1.1
  unfold sf_179
  rw [a1]
  refine sh_bits (sh_isC (fun i p => sh_cy (fun j => F j p) (fun j => Bool.xor (H j p) (decide (k = 1))) (decide (k = 1)) i)) a2 a3 a4 (by omega) ?_ (fun i a e m2 hi hR hC => ?_) (fun a m2 => by show sf_179_14s _ _ _ _ _ _ _ _ = _; unfold sf_179_14s; rw [if_neg (sh_nlt0 n)])
  · refine ⟨k, rfl, by omega, fun p => ?_⟩
    show _ = decide (k = 1)
    by_cases hk1 : k = 1
    · subst hk1; rw [h.1.v1 p]; rfl
    · have : k = 0 := by omega
      subst this; rw [h.1.v0 p]; rfl
  have hlt := (sh_nIlt (a := i) (b := n) (by omega) (by omega)).mpr hi
  have hm := sh_mul_lt hi hl
  have rm := hR.room hm
  obtain ⟨c, rfl, c1, c2⟩ := hC
  obtain ⟨x, b1, b2, b3⟩ := hR.bit (hx.2 i hi) (by omega)
  obtain ⟨y, g1, g2, g3⟩ := hR.bit (hy.2 i hi) (by omega)
  obtain ⟨e2, r, m3, k1, k2, k3, k4⟩ := hR.op (sh_xor1 hR.rs.1 g2 (by omega) g3 hk)
  obtain ⟨b4, b5⟩ := sh_keep (e2 := e2) b2 b3
  obtain ⟨c3, c4⟩ := sh_keep (e2 := e2) c1 c2
  obtain ⟨e3, r2, m4, l1, l2, l3, l4⟩ := sh_180 k2 hu hi (by omega) b4 b5 k3 k4 c3 c4 (fun p => rfl)
  refine ⟨_, _, m4, ?_, l2, r2, rfl, l3, fun p => (l4 p).trans rfl⟩
  show sf_179_14s _ _ _ _ _ (Int32.ofNat c) (Int32.ofNat i) m2 = _
  unfold sf_179_14s
  rw [if_pos hlt, sh_nIadd, b1]
  show sh_bc (sf_103 (Int32.ofNat w + Int32.ofNat i) m2) _ = _
  rw [sh_nIadd, g1]
  show sh_bn (sf_130 (Int32.ofNat y) (Int32.ofNat k) m2) _ = _
  rw [k1]
  show sh_bn (sf_180 (Int32.ofNat u + Int32.ofNat i) (Int32.ofNat x) (Int32.ofNat r) (Int32.ofNat c) m3) _ = _
  rw [sh_nIadd, l1]
  rfl
/-- the carry of -x -/
def sh_ng (a : Nat → Bool) (t : Bool) : Nat → Bool
  | 0 => t
  | j + 1 => Bool.xor (a j) t && sh_ng a t j
/-- Reckoner.negate -/
theorem sh_166 {gs : sh_gL} {u v n t : Nat} {m : sh_X} {F : Nat → (Nat → Bool) → Bool} {ft : (Nat → Bool) → Bool} (h : sh_RS gs u m) (hx : sh_val m gs u v n F) (ht : t < gs.length) (hft : ∀ p, sh_va p gs t = ft p) (hn : u + n ≤ 8192) (hl : gs.length + 3 * n ≤ 65536) : sh_rop (3 * n) n n gs u m (sf_166 (Int32.ofNat v) (Int32.ofNat n) (Int32.ofNat t) m) (fun j p => Bool.xor (Bool.xor (F j p) (ft p)) (sh_ng (fun j => F j p) (ft p) j)) := by
  obtain ⟨m1, a1, a2, a3, a4⟩ := sh_98 h hn
  have hu := h.2.2.1
  have hw := hx.1
  unfold sf_166
  rw [a1]
  refine sh_bits (sh_isC (fun i p => sh_ng (fun j => F j p) (ft p) i)) a2 a3 a4 (by omega) ⟨t, rfl, ht, hft⟩ (fun i a e m2 hi hR hC => ?_) (fun a m2 => by show sf_166_13s _ _ _ _ _ _ _ = _; unfold sf_166_13s; rw [if_neg (sh_nlt0 n)])
  have hlt := (sh_nIlt (a := i) (b := n) (by omega) (by omega)).mpr hi
  have hm := sh_mul_lt hi hl
  have rm := hR.room hm
  obtain ⟨c, rfl, c1, c2⟩ := hC
  obtain ⟨x, b1, b2, b3⟩ := hR.bit (hx.2 i hi) (by omega)
  obtain ⟨e2, r, m3, k1, k2, k3, k4⟩ := hR.op (sh_130' (g := ft) hR.rs.1 b2 (sh_lt_app ht) (by omega) b3 (fun p => by rw [sh_va_ext p _ ht]; exact hft p))
  obtain ⟨c3, c4⟩ := sh_keep (e2 := e2) c1 c2
  have rm1 := k2.room (N := 2) (by omega)
  obtain ⟨e3, r2, m4, l1, l2, l3, l4⟩ := k2.op (sh_130' k2.rs.1 k3 c3 (by omega) k4 c4)
  obtain ⟨m5, s1, s2⟩ := l2.set hu hi l3 l4
  obtain ⟨k5, k6⟩ := sh_keep (e2 := e3) k3 k4
  obtain ⟨c5, c6⟩ := sh_keep (e2 := e3) c3 c4
  have rm2 := s2.room (N := 1) (by omega)
  obtain ⟨e4, r3, m6, q1, q2, q3, q4⟩ := s2.op (sh_132' s2.rs.1 k5 c5 (by omega) k6 c6)
  refine ⟨_, _, m6, ?_, q2, r3, rfl, q3, fun p => (q4 p).trans rfl⟩
  show sf_166_13s _ _ _ _ (Int32.ofNat c) (Int32.ofNat i) m2 = _
  unfold sf_166_13s
  rw [if_pos hlt, sh_nIadd, b1]
  show sh_bn (sf_130 (Int32.ofNat x) (Int32.ofNat t) m2) _ = _
  rw [k1]
  show sh_bn (sf_130 (Int32.ofNat r) (Int32.ofNat c) m3) _ = _
  rw [l1]
  show sh_bn (sf_100 (Int32.ofNat u + Int32.ofNat i) (Int32.ofNat r2) m4) _ = _
  rw [sh_nIadd, s1]
  show sh_bn (sf_132 (Int32.ofNat r) (Int32.ofNat c) m5) _ = _
  rw [q1]
  rfl
