/-! operations that answer one wire: any, differ, below -/
def sh_Fz : Nat → (Nat → Bool) → Bool := fun _ _ => false
/-- q makes at most L gates, takes no wires of the pool, and answers a wire worth f -/
def sh_wop (L : Nat) (gs : sh_gL) (u : Nat) (m : sh_X) (q : Option (Int32 × sh_X)) (f : (Nat → Bool) → Bool) : Prop := ∃ e r m2, q = some (Int32.ofNat r, m2) ∧ sh_RI L sh_Fz gs u 0 m 0 e m2 ∧ r < (e ++ gs).length ∧ ∀ p, sh_va p (e ++ gs) r = f p
theorem sh_RI_00 {gs : sh_gL} {u : Nat} {m : sh_X} (h : sh_RS gs u m) : sh_RI 0 sh_Fz gs u 0 m 0 [] m := sh_RI_0 h (sh_Rf.refl m) (fun _ => rfl)
theorem sh_wires {K N : Nat} {gs : sh_gL} {u : Nat} {m : sh_X} {ρ : Type} {f : (Int32 × Int32 × sh_X) → Option ((Int32 × Int32 × sh_X) ⊕ ρ)} {a0 : Int32} (C : Nat → Int32 → sh_gL → Prop) (h0 : sh_RS gs u m) (hc : C 0 a0 gs)
    (hs : ∀ i a e m2, i < N → sh_RI (K * i) sh_Fz gs u 0 m 0 e m2 → C i a (e ++ gs) → ∃ e2 a2 m3, f (a, Int32.ofNat i, m2) = some (.inl (a2, Int32.ofNat i + 1, m3)) ∧ sh_RI (K * i + K) sh_Fz gs u 0 m 0 e2 m3 ∧ C (i + 1) a2 (e2 ++ gs)) :
    ∃ e a m2, sh_RI (K * N) sh_Fz gs u 0 m 0 e m2 ∧ C N a (e ++ gs) ∧ ∀ r, f (a, Int32.ofNat N, m2) = some (.inr r) → sh_while f (a0, 0, m) = some r := by
  obtain ⟨⟨a, c, m2⟩, ⟨e, h3, h4, h5⟩, h6⟩ := sh_loop (f := f) (fun i s => ∃ e, s.2.1 = Int32.ofNat i ∧ sh_RI (K * i) sh_Fz gs u 0 m 0 e s.2.2 ∧ C i s.1 (e ++ gs)) (n := N) (i := 0) (s := (a0, 0, m)) (by
    rintro i ⟨a, c, m2⟩ hi ⟨e, h3, h4, h5⟩
    have h3 : c = Int32.ofNat i := h3
    subst h3
    obtain ⟨e2, a2, m3, k1, k2, k3⟩ := hs i a e m2 hi h4 h5
    exact ⟨_, k1, e2, sh_nI1, by rw [Nat.mul_succ]; exact k2, k3⟩) (Nat.zero_le _) ⟨[], rfl, sh_RI_00 h0, hc⟩
  have h3 : c = Int32.ofNat N := h3
  subst h3
  exact ⟨e, a, m2, h4, h5, h6⟩
def sh_or (a : Nat → Bool) : Nat → Bool
  | 0 => false
  | j + 1 => sh_or a j || a j
/-- Reckoner.any -/
theorem sh_186 {gs : sh_gL} {u w n : Nat} {m : sh_X} {F : Nat → (Nat → Bool) → Bool} (h : sh_RS gs u m) (hx : sh_val m gs u w n F) (hl : gs.length + 3 * n ≤ 65536) : sh_wop (3 * n) gs u m (sf_186 (Int32.ofNat w) (Int32.ofNat n) m) (fun p => sh_or (fun j => F j p) n) := by
  have hw := hx.1
  have h2 := h.1.1
  have hu := h.2.2.2.1
  unfold sf_186
  obtain ⟨e, a, m2, h3, ⟨c, rfl, c1, c2⟩, h5⟩ := sh_wires (N := n) (K := 3) (f := fun q => sf_186_5s (Int32.ofNat w) (Int32.ofNat n) q.1 q.2.1 q.2.2) (a0 := 0) (sh_isC (fun i p => sh_or (fun j => F j p) i)) h ⟨0, rfl, by omega, fun p => h.1.v0 p⟩ (fun i a e m2 hi hR hC => by
    obtain ⟨c, rfl, c1, c2⟩ := hC
    have hlt := (sh_nIlt (a := i) (b := n) (by omega) (by omega)).mpr hi
    have rm := hR.room (sh_mul_lt hi hl)
    obtain ⟨x, b1, b2, b3⟩ := hR.bit (hx.2 i hi) (by omega)
    obtain ⟨e2, r, m3, k1, k2, k3, k4⟩ := hR.op (sh_185' hR.rs.1 c1 b2 (by omega) c2 b3)
    refine ⟨_, _, m3, ?_, k2, r, rfl, k3, fun p => (k4 p).trans rfl⟩
    show sf_186_5s _ _ (Int32.ofNat c) (Int32.ofNat i) m2 = _
    unfold sf_186_5s
    rw [if_pos hlt, sh_nIadd, b1]
    show sh_bn (sf_185 (Int32.ofNat c) (Int32.ofNat x) m2) _ = _
    rw [k1]
    rfl)
  refine ⟨e, c, m2, h5 _ ?_, h3, c1, c2⟩
  show sf_186_5s _ _ (Int32.ofNat c) (Int32.ofNat n) m2 = _
  unfold sf_186_5s
  rw [if_neg (sh_nlt0 n)]
/-- Reckoner.differ -/
theorem sh_187 {gs : sh_gL} {u v w n : Nat} {m : sh_X} {F H : Nat → (Nat → Bool) → Bool} (h : sh_RS gs u m) (hx : sh_val m gs u v n F) (hy : sh_val m gs u w n H) (hl : gs.length + 4 * n ≤ 65536) : sh_wop (4 * n) gs u m (sf_187 (Int32.ofNat v) (Int32.ofNat w) (Int32.ofNat n) m) (fun p => sh_or (fun j => Bool.xor (F j p) (H j p)) n) := by
  have hw := hx.1
  have hw2 := hy.1
  have h2 := h.1.1
  have hu := h.2.2.2.1
  unfold sf_187
  obtain ⟨e, a, m2, h3, ⟨c, rfl, c1, c2⟩, h5⟩ := sh_wires (N := n) (K := 4) (f := fun q => sf_187_6s (Int32.ofNat v) (Int32.ofNat w) (Int32.ofNat n) q.1 q.2.1 q.2.2) (a0 := 0) (sh_isC (fun i p => sh_or (fun j => Bool.xor (F j p) (H j p)) i)) h ⟨0, rfl, by omega, fun p => h.1.v0 p⟩ (fun i a e m2 hi hR hC => by
    obtain ⟨c, rfl, c1, c2⟩ := hC
    have hlt := (sh_nIlt (a := i) (b := n) (by omega) (by omega)).mpr hi
    have rm := hR.room (sh_mul_lt hi hl)
    obtain ⟨x, b1, b2, b3⟩ := hR.bit (hx.2 i hi) (by omega)
    obtain ⟨y, g1, g2, g3⟩ := hR.bit (hy.2 i hi) (by omega)
    obtain ⟨e2, r, m3, k1, k2, k3, k4⟩ := hR.op (sh_130' hR.rs.1 b2 g2 (by omega) b3 g3)
    obtain ⟨c3, c4⟩ := sh_keep (e2 := e2) c1 c2
    have rm1 := k2.room (N := 3) (by have := sh_mul_lt hi hl; omega)
    obtain ⟨e3, r2, m4, l1, l2, l3, l4⟩ := k2.op (sh_185' k2.rs.1 c3 k3 (by omega) c4 k4)
    refine ⟨_, _, m4, ?_, l2, r2, rfl, l3, fun p => (l4 p).trans rfl⟩
    show sf_187_6s _ _ _ (Int32.ofNat c) (Int32.ofNat i) m2 = _
    unfold sf_187_6s
    rw [if_pos hlt, sh_nIadd, b1]
    show sh_bc (sf_103 (Int32.ofNat w + Int32.ofNat i) m2) _ = _
    rw [sh_nIadd, g1]
    show sh_bn (sf_130 (Int32.ofNat x) (Int32.ofNat y) m2) _ = _
    rw [k1]
    show sh_bn (sf_185 (Int32.ofNat c) (Int32.ofNat r) m3) _ = _
    rw [l1]
    rfl)
  refine ⟨e, c, m2, h5 _ ?_, h3, c1, c2⟩
  show sf_187_6s _ _ _ (Int32.ofNat c) (Int32.ofNat n) m2 = _
  unfold sf_187_6s
  rw [if_neg (sh_nlt0 n)]
/-- the bits that 'below' adds: the signs count the other way round -/
def sh_bl (s : Bool) (n : Nat) (a : Nat → Bool) (j : Nat) : Bool := if s = true ∧ j + 1 = n then !a j else a j
/-- behind the two bits of a step of 'below' -/
theorem sh_189c {L : Nat} {gs : sh_gL} {u : Nat} {m0 : sh_X} {e : sh_gL} {m : sh_X} {a b c : Nat} {x1 x2 x3 i : Int32} {s : Bool} {fa fb fc : (Nat → Bool) → Bool} (hR : sh_RI L sh_Fz gs u 0 m0 0 e m) (hl : gs.length + (L + 4) ≤ 65536)
    (a1 : a < (e ++ gs).length) (a2 : ∀ p, sh_va p (e ++ gs) a = fa p) (b1 : b < (e ++ gs).length) (b2 : ∀ p, sh_va p (e ++ gs) b = fb p) (c1 : c < (e ++ gs).length) (c2 : ∀ p, sh_va p (e ++ gs) c = fc p) :
    ∃ e2 r m2, sf_189_96 x1 x2 x3 s (Int32.ofNat c) i (Int32.ofNat a) (Int32.ofNat b) m = some (.inl (Int32.ofNat r, i + 1, m2)) ∧ sh_RI (L + 4) sh_Fz gs u 0 m0 0 (e2 ++ e) m2 ∧ r < ((e2 ++ e) ++ gs).length ∧ ∀ p, sh_va p ((e2 ++ e) ++ gs) r = Bool.xor ((Bool.xor (fa p) (fc p)) && (Bool.xor (fb p) (fc p))) (fc p) := by
  have rm := hR.room hl
  obtain ⟨e1, r1, m1, p1, p2, p3, p4⟩ := hR.op (sh_130' hR.rs.1 a1 c1 (by omega) a2 c2)
  obtain ⟨b3, b4⟩ := sh_keep (e2 := e1) b1 b2
  obtain ⟨c3, c4⟩ := sh_keep (e2 := e1) c1 c2
  have rm1 := p2.room (N := 3) (by omega)
  obtain ⟨e2, r2, m2, q1, q2, q3, q4⟩ := p2.op (sh_130' p2.rs.1 b3 c3 (by omega) b4 c4)
  obtain ⟨p5, p6⟩ := sh_keep (e2 := e2) p3 p4
  obtain ⟨c5, c6⟩ := sh_keep (e2 := e2) c3 c4
  have rm2 := q2.room (N := 2) (by omega)
  obtain ⟨e4, r4, m5, u1, u2, u3, u4⟩ := q2.op (sh_132' q2.rs.1 p5 q3 (by omega) p6 q4)
  obtain ⟨c9, c10⟩ := sh_keep (e2 := e4) c5 c6
  have rm4 := u2.room (N := 1) (by omega)
  obtain ⟨e5, r5, m6, v1, v2, v3, v4⟩ := u2.op (sh_130' u2.rs.1 u3 c9 (by omega) u4 c10)
  have this : (e5 ++ (e4 ++ (e2 ++ e1))) ++ e = e5 ++ (e4 ++ (e2 ++ (e1 ++ e))) := by simp only [List.append_assoc]
  refine ⟨e5 ++ (e4 ++ (e2 ++ e1)), r5, m6, ?_, by rw [this]; exact v2, by rw [this]; exact v3, fun p => by rw [this]; exact v4 p⟩
  unfold sf_189_96
  rw [p1]
  show sh_bn (sf_130 (Int32.ofNat b) (Int32.ofNat c) m1) _ = _
  rw [q1]
  show sh_bn (sf_132 (Int32.ofNat r1) (Int32.ofNat r2) m2) _ = _
  rw [u1]
  show sh_bn (sf_130 (Int32.ofNat r4) (Int32.ofNat c) m5) _ = _
  rw [v1]
  rfl
/-- Reckoner.below -/
theorem sh_189 {gs : sh_gL} {u v w n : Nat} {s : Bool} {m : sh_X} {F H : Nat → (Nat → Bool) → Bool} (h : sh_RS gs u m) (hx : sh_val m gs u v n F) (hy : sh_val m gs u w n H) (hl : gs.length + (5 * n + 1) ≤ 65536) : sh_wop (5 * n + 1) gs u m (sf_189 (Int32.ofNat v) (Int32.ofNat w) (Int32.ofNat n) s m) (fun p => !sh_cy (sh_bl s n (fun j => F j p)) (fun j => !sh_bl s n (fun j => H j p) j) true n) := by
  have hw := hx.1
  have hw2 := hy.1
  have h2 := h.1.1
  have hu := h.2.2.2.1
  unfold sf_189
  obtain ⟨e, a, m2, h3, ⟨c, rfl, c1, c2⟩, h5⟩ := sh_wires (N := n) (K := 5) (f := fun q => sf_189_6s (Int32.ofNat v) (Int32.ofNat w) (Int32.ofNat n) s q.1 q.2.1 q.2.2) (a0 := 1) (sh_isC (fun i p => sh_cy (sh_bl s n (fun j => F j p)) (fun j => !sh_bl s n (fun j => H j p) j) true i)) h ⟨1, rfl, by omega, fun p => h.1.v1 p⟩ (fun i a e m2 hi hR hC => by
    obtain ⟨c, rfl, c1, c2⟩ := hC
    have hlt := (sh_nIlt (a := i) (b := n) (by omega) (by omega)).mpr hi
    have hm := sh_mul_lt (K := 5) (g := gs.length + 1) hi (by omega)
    have rm := hR.room (N := 5) (by omega)
    obtain ⟨x, b1, b2, b3⟩ := hR.bit (hx.2 i hi) (by omega)
    obtain ⟨y, g1, g2, g3⟩ := hR.bit (hy.2 i hi) (by omega)
    by_cases hsg : s = true ∧ i + 1 = n
    · obtain ⟨e2, r, m3, k1, k2, k3, k4⟩ := hR.op (sh_141' hR.rs.1 b2 (by omega) b3)
      obtain ⟨c3, c4⟩ := sh_keep (e2 := e2) c1 c2
      obtain ⟨g4, g5⟩ := sh_keep (e2 := e2) g2 g3
      obtain ⟨y2, g6, g7, g8⟩ := k2.bit (hy.2 i hi) (by omega)
      obtain ⟨e3, r2, m4, l1, l2, l3, l4⟩ := sh_189c (x1 := Int32.ofNat v) (x2 := Int32.ofNat w) (x3 := Int32.ofNat n) (s := s) (i := Int32.ofNat i) k2 (by omega) k3 k4 g7 g8 c3 c4
      refine ⟨_, _, m4, ?_, l2, r2, rfl, l3, fun p => (l4 p).trans ?_⟩
      · show sf_189_6s _ _ _ s (Int32.ofNat c) (Int32.ofNat i) m2 = _
        unfold sf_189_6s
        rw [if_pos hlt, if_pos hsg.1, if_pos (by rw [show Int32.ofNat n - 1 = Int32.ofNat (n - 1) from sh_nIsub (b := 1) (by omega)]; congr 1; omega)]
        unfold sf_189_30
        rw [if_pos rfl, sh_nIadd, b1]
        show sh_bn (sf_141 (Int32.ofNat x) m2) _ = _
        rw [k1]
        show sf_189_63 _ _ _ _ _ _ _ (Int32.ofNat r) m3 = _
        unfold sf_189_63
        rw [if_pos rfl, sh_nIadd, g6]
        exact l1
      · show _ = Bool.xor (_ && _) _
        simp only [sh_bl, hsg, and_self, if_true, Bool.not_not]
    · obtain ⟨e2, r, m3, k1, k2, k3, k4⟩ := hR.op (sh_141' hR.rs.1 g2 (by omega) g3)
      obtain ⟨c3, c4⟩ := sh_keep (e2 := e2) c1 c2
      obtain ⟨b4, b5⟩ := sh_keep (e2 := e2) b2 b3
      obtain ⟨e3, r2, m4, l1, l2, l3, l4⟩ := sh_189c (x1 := Int32.ofNat v) (x2 := Int32.ofNat w) (x3 := Int32.ofNat n) (s := s) (i := Int32.ofNat i) k2 (by omega) b4 b5 k3 k4 c3 c4
      have go : sf_189_30 (Int32.ofNat v) (Int32.ofNat w) (Int32.ofNat n) s (Int32.ofNat c) (Int32.ofNat i) false m2 = some (.inl (Int32.ofNat r2, Int32.ofNat i + 1, m4)) := by
        unfold sf_189_30
        rw [if_neg (by decide), sh_nIadd, b1]
        show sf_189_63 _ _ _ _ _ _ _ (Int32.ofNat x) m2 = _
        unfold sf_189_63
        rw [if_neg (by decide), sh_nIadd, g1]
        show sh_bn (sf_141 (Int32.ofNat y) m2) _ = _
        rw [k1]
        exact l1
      refine ⟨_, _, m4, ?_, l2, r2, rfl, l3, fun p => (l4 p).trans ?_⟩
      · show sf_189_6s _ _ _ s (Int32.ofNat c) (Int32.ofNat i) m2 = _
        unfold sf_189_6s sf_189_29
        rw [if_pos hlt, go]
        by_cases hs1 : s = true
        · rw [if_pos hs1, if_neg]
          intro hq
          rw [show Int32.ofNat n - 1 = Int32.ofNat (n - 1) from sh_nIsub (b := 1) (by omega), sh_nIeq (by omega) (by omega)] at hq
          exact hsg ⟨hs1, by omega⟩
        · rw [if_neg hs1]
      · show _ = Bool.xor (_ && _) _
        simp only [sh_bl, hsg, if_false])
  have rm := h3.room (N := 1) hl
  obtain ⟨e2, r, m3, k1, k2, k3, k4⟩ := h3.op (sh_141' h3.rs.1 c1 (by omega) c2)
  refine ⟨_, r, m3, h5 _ ?_, k2, k3, k4⟩
  show sf_189_6s _ _ _ s (Int32.ofNat c) (Int32.ofNat n) m2 = _
  unfold sf_189_6s
  rw [if_neg (sh_nlt0 n), k1]
  rfl
