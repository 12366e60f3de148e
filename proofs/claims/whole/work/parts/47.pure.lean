/-! products: a value whose bits are made anew, row by row -/
def sh_fu {α : Type} (F : Nat → α) (i : Nat) (x : α) : Nat → α := fun j => if j = i then x else F j
theorem sh_RI.upd {L : Nat} {F : Nat → (Nat → Bool) → Bool} {gs : sh_gL} {u n : Nat} {m0 : sh_X} {i : Nat} {e : sh_gL} {m : sh_X} {x : Nat} {f : (Nat → Bool) → Bool} (h : sh_RI L F gs u n m0 n e m) (hu : 2 ≤ u) (hi : i < n) (hx : x < (e ++ gs).length) (hv : ∀ p, sh_va p (e ++ gs) x = f p) :
    ∃ m2, sf_100 (Int32.ofNat (u + i)) (Int32.ofNat x) m = some ((), m2) ∧ sh_RI L (sh_fu F i f) gs u n m0 n e m2 := by
  obtain ⟨m2, a1, a2, a3, a4, a5⟩ := sh_100 h.rs (i := u + i) (by omega) (by omega) hx
  refine ⟨m2, a1, sh_RI.mk (rs := a2) (fr := h.fr.trans a3) (po := fun j hj => ?_) (le := h.le) (rb := fun j hj => ?_)⟩
  · rw [a5 j (by omega)]; exact h.po j hj
  · unfold sh_fu
    by_cases hji : j = i
    · subst hji; exact ⟨x, a4, fun p => by rw [if_pos rfl]; exact hv p⟩
    · obtain ⟨y, b1, b2⟩ := h.rb j hj
      exact ⟨y, ⟨by rw [a5 (u + j) (by omega)]; exact b1.1, b1.2⟩, fun p => by rw [if_neg hji]; exact b2 p⟩
theorem sh_RI.new {L : Nat} {F : Nat → (Nat → Bool) → Bool} {gs : sh_gL} {u n : Nat} {m0 : sh_X} {k i : Nat} {e : sh_gL} {m : sh_X} (h : sh_RI L F gs u n m0 k e m) (hi : i < k) (hk : k ≤ n) : ∃ x, sf_103 (Int32.ofNat (u + i)) m = some (Int32.ofNat x) ∧ x < (e ++ gs).length ∧ ∀ p, sh_va p (e ++ gs) x = F i p := by
  obtain ⟨x, h1, h2⟩ := h.rb i hi
  exact ⟨x, sh_103 h.rs (by omega) h1, h1.2, h2⟩
theorem sh_RI.cong {L : Nat} {F H : Nat → (Nat → Bool) → Bool} {gs : sh_gL} {u n : Nat} {m0 : sh_X} {k : Nat} {e : sh_gL} {m : sh_X} (h : sh_RI L F gs u n m0 k e m) (hF : ∀ j, j < k → ∀ p, F j p = H j p) : sh_RI L H gs u n m0 k e m :=
  sh_RI.mk (rs := h.rs) (fr := h.fr) (po := h.po) (le := h.le) (rb := fun j hj => by obtain ⟨x, h1, h2⟩ := h.rb j hj; exact ⟨x, h1, fun p => (h2 p).trans (hF j hj p)⟩)
theorem sh_RI.more {L M : Nat} {F : Nat → (Nat → Bool) → Bool} {gs : sh_gL} {u n : Nat} {m0 : sh_X} {k : Nat} {e : sh_gL} {m : sh_X} (h : sh_RI L F gs u n m0 k e m) (hL : L ≤ M) : sh_RI M F gs u n m0 k e m :=
  sh_RI.mk (rs := h.rs) (fr := h.fr) (po := h.po) (le := Nat.le_trans h.le hL) (rb := h.rb)
/-- addBit over a bit that stands -/
theorem sh_180u {L : Nat} {F : Nat → (Nat → Bool) → Bool} {gs : sh_gL} {u n : Nat} {m0 : sh_X} {i : Nat} {e : sh_gL} {m : sh_X} {a b c : Nat} {fa fb fc : (Nat → Bool) → Bool} (hR : sh_RI L F gs u n m0 n e m) (hu : 2 ≤ u) (hi : i < n) (hl : gs.length + (L + 5) ≤ 65536)
    (a1 : a < (e ++ gs).length) (a2 : ∀ p, sh_va p (e ++ gs) a = fa p) (b1 : b < (e ++ gs).length) (b2 : ∀ p, sh_va p (e ++ gs) b = fb p) (c1 : c < (e ++ gs).length) (c2 : ∀ p, sh_va p (e ++ gs) c = fc p) :
    ∃ e2 r m2, sf_180 (Int32.ofNat (u + i)) (Int32.ofNat a) (Int32.ofNat b) (Int32.ofNat c) m = some (Int32.ofNat r, m2) ∧ sh_RI (L + 5) (sh_fu F i (fun p => Bool.xor (Bool.xor (fa p) (fc p)) (fb p))) gs u n m0 n (e2 ++ e) m2 ∧ r < ((e2 ++ e) ++ gs).length ∧ ∀ p, sh_va p ((e2 ++ e) ++ gs) r = Bool.xor ((Bool.xor (fa p) (fc p)) && (Bool.xor (fb p) (fc p))) (fc p) := by
  have rm := hR.room hl
  obtain ⟨e1, r1, m1, p1, p2, p3, p4⟩ := hR.op (sh_130' hR.rs.1 a1 c1 (by omega) a2 c2)
  obtain ⟨b3, b4⟩ := sh_keep (e2 := e1) b1 b2
  obtain ⟨c3, c4⟩ := sh_keep (e2 := e1) c1 c2
  have rm1 := p2.room (N := 4) (by omega)
  obtain ⟨e2, r2, m2, q1, q2, q3, q4⟩ := p2.op (sh_130' p2.rs.1 b3 c3 (by omega) b4 c4)
  obtain ⟨p5, p6⟩ := sh_keep (e2 := e2) p3 p4
  obtain ⟨b5, b6⟩ := sh_keep (e2 := e2) b3 b4
  obtain ⟨c5, c6⟩ := sh_keep (e2 := e2) c3 c4
  have rm2 := q2.room (N := 3) (by omega)
  obtain ⟨e3, r3, m3, s1, s2, s3, s4⟩ := q2.op (sh_130' q2.rs.1 p5 b5 (by omega) p6 b6)
  obtain ⟨m4, t1, t2⟩ := s2.upd hu hi s3 s4
  obtain ⟨p7, p8⟩ := sh_keep (e2 := e3) p5 p6
  obtain ⟨q5, q6⟩ := sh_keep (e2 := e3) q3 q4
  obtain ⟨c7, c8⟩ := sh_keep (e2 := e3) c5 c6
  have rm3 := t2.room (N := 2) (by omega)
  obtain ⟨e4, r4, m5, u1, u2, u3, u4⟩ := t2.op (sh_132' t2.rs.1 p7 q5 (by omega) p8 q6)
  obtain ⟨c9, c10⟩ := sh_keep (e2 := e4) c7 c8
  have rm4 := u2.room (N := 1) (by omega)
  obtain ⟨e5, r5, m6, v1, v2, v3, v4⟩ := u2.op (sh_130' u2.rs.1 u3 c9 (by omega) u4 c10)
  have this : (e5 ++ (e4 ++ (e3 ++ (e2 ++ e1)))) ++ e = e5 ++ (e4 ++ (e3 ++ (e2 ++ (e1 ++ e)))) := by simp only [List.append_assoc]
  refine ⟨e5 ++ (e4 ++ (e3 ++ (e2 ++ e1))), r5, m6, ?_, by rw [this]; exact v2, by rw [this]; exact v3, fun p => by rw [this]; exact v4 p⟩
  unfold sf_180
  rw [p1]
  show sh_bn (sf_130 (Int32.ofNat b) (Int32.ofNat c) m1) _ = _
  rw [q1]
  show sh_bn (sf_130 (Int32.ofNat r1) (Int32.ofNat b) m2) _ = _
  rw [s1]
  show sh_bn (sf_100 (Int32.ofNat (u + i)) (Int32.ofNat r3) m3) _ = _
  rw [t1]
  show sh_bn (sf_132 (Int32.ofNat r1) (Int32.ofNat r2) m4) _ = _
  rw [u1]
  show sh_bn (sf_130 (Int32.ofNat r4) (Int32.ofNat c) m5) _ = _
  rw [v1]
  rfl
/-- the part that the bit j of y adds -/
def sh_pt (a b : Nat → Bool) (j i : Nat) : Bool := if i < j then false else a (i - j) && b j
/-- the sum of the parts up to j -/
def sh_pr (a b : Nat → Bool) : Nat → Nat → Bool
  | 0, i => a i && b 0
  | j + 1, i => Bool.xor (Bool.xor (sh_pr a b j i) (sh_cy (sh_pr a b j) (sh_pt a b (j + 1)) false i)) (sh_pt a b (j + 1) i)
theorem sh_cy_low {a b : Nat → Bool} {j : Nat} (h : ∀ i, i < j → b i = false) : ∀ i, i ≤ j → sh_cy a b false i = false := by
  intro i
  induction i with
  | zero => intro _; rfl
  | succ i ih =>
    intro hi
    show Bool.xor _ _ = false
    rw [ih (by omega), h i (by omega)]
    simp
theorem sh_nIs {a b : Nat} (h : b ≤ a) : Int32.ofNat a - Int32.ofNat b = Int32.ofNat (a - b) := sh_nIsub h
/-- a row of the product -/
theorem sh_181r {L : Nat} {gs : sh_gL} {u v w n j : Nat} {m0 : sh_X} {e : sh_gL} {m : sh_X} {F H : Nat → (Nat → Bool) → Bool} (h0 : sh_RS gs u m0) (hx : sh_val m0 gs u v n F) (hy : sh_val m0 gs u w n H) (hn : u + n ≤ 8192) (hj : j + 1 < n) (hl : gs.length + (L + 6 * n) ≤ 65536)
    (hR : sh_RI L (fun i p => sh_pr (fun i => F i p) (fun i => H i p) j i) gs u n m0 n e m) :
    ∃ e2 m2, sf_181_67 (Int32.ofNat v) (Int32.ofNat w) (Int32.ofNat n) (Int32.ofNat u) (Int32.ofNat (j + 1)) 0 (Int32.ofNat (j + 1)) m = some (.inl (Int32.ofNat (j + 1) + 1, m2)) ∧ sh_RI (L + 6 * n) (fun i p => sh_pr (fun i => F i p) (fun i => H i p) (j + 1) i) gs u n m0 n e2 m2 := by
  have hu := h0.2.2.1
  have hw := hx.1
  have hw2 := hy.1
  have h2 := h0.1.1
  unfold sf_181_67
  obtain ⟨⟨a, c, m2⟩, ⟨e2, q1, q2, ⟨c0, q3, q4, q5⟩⟩, q6⟩ := sh_loop (f := fun q => sf_181_67s (Int32.ofNat v) (Int32.ofNat w) (Int32.ofNat n) (Int32.ofNat u) (Int32.ofNat (j + 1)) q.1 q.2.1 q.2.2) (n := n) (i := j + 1) (s := (0, Int32.ofNat (j + 1), m))
    (fun i s => ∃ e, s.2.1 = Int32.ofNat i ∧ (∃ _ : j + 1 ≤ i, sh_RI (L + 6 * (i - (j + 1))) (fun k p => if k < i then sh_pr (fun i => F i p) (fun i => H i p) (j + 1) k else sh_pr (fun i => F i p) (fun i => H i p) j k) gs u n m0 n e s.2.2) ∧ sh_isC (fun i p => sh_cy (sh_pr (fun i => F i p) (fun i => H i p) j) (sh_pt (fun i => F i p) (fun i => H i p) (j + 1)) false i) i s.1 (e ++ gs)) (by
      rintro i ⟨a, c, m2⟩ hi ⟨e, r1, ⟨hji, hR⟩, ⟨c0, r3, r4, r5⟩⟩
      have r1 : c = Int32.ofNat i := r1
      have r3 : a = Int32.ofNat c0 := r3
      subst r1
      subst r3
      have hlt := (sh_nIlt (a := i) (b := n) (by omega) (by omega)).mpr hi
      have hroom : gs.length + (L + 6 * (i - (j + 1)) + 6) ≤ 65536 := by omega
      have rm := hR.room hroom
      obtain ⟨x, b1, b2, b3⟩ := hR.bit (hx.2 (i - (j + 1)) (by omega)) (by omega)
      obtain ⟨y, g1, g2, g3⟩ := hR.bit (hy.2 (j + 1) hj) (by omega)
      obtain ⟨e2, r, m3, k1, k2, k3, k4⟩ := hR.op (sh_132' hR.rs.1 b2 g2 (by omega) b3 g3)
      obtain ⟨c3, c4⟩ := sh_keep (e2 := e2) r4 r5
      obtain ⟨z, z1, z2, z3⟩ := k2.new hi (Nat.le_refl _)
      obtain ⟨e3, r2, m4, l1, l2, l3, l4⟩ := sh_180u k2 hu hi (by omega) z2 z3 k3 k4 c3 c4
      have pt : ∀ p, sh_pt (fun i => F i p) (fun i => H i p) (j + 1) i = (F (i - (j + 1)) p && H (j + 1) p) := fun p => if_neg (by omega)
      refine ⟨(Int32.ofNat r2, Int32.ofNat i + 1, m4), ?_, _, sh_nI1, ⟨by omega, (l2.more (M := L + 6 * (i + 1 - (j + 1))) (by omega)).cong (fun k hk p => ?_)⟩, r2, rfl, l3, fun p => ?_⟩
      · show sf_181_67s _ _ _ _ _ (Int32.ofNat c0) (Int32.ofNat i) m2 = some (.inl (Int32.ofNat r2, Int32.ofNat i + 1, m4))
        unfold sf_181_67s
        rw [if_pos hlt, sh_nIadd, sh_nIs (by omega), show v + i - (j + 1) = v + (i - (j + 1)) by omega, b1]
        show sh_bc (sf_103 (Int32.ofNat w + Int32.ofNat (j + 1)) m2) _ = _
        rw [sh_nIadd, g1]
        show sh_bn (sf_132 (Int32.ofNat x) (Int32.ofNat y) m2) _ = _
        rw [k1]
        show sh_bc (sf_103 (Int32.ofNat u + Int32.ofNat i) m3) _ = _
        rw [sh_nIadd, z1]
        show sh_bn (sf_180 (Int32.ofNat (u + i)) (Int32.ofNat z) (Int32.ofNat r) (Int32.ofNat c0) m3) _ = _
        rw [l1]
        rfl
      · unfold sh_fu
        by_cases hki : k = i
        · subst hki
          rw [if_pos rfl]
          show Bool.xor (Bool.xor (if k < k then _ else _) _) _ = (if k < k + 1 then _ else _)
          rw [if_neg (Nat.lt_irrefl k), if_pos (Nat.lt_succ_self k)]
          show Bool.xor (Bool.xor _ _) _ = Bool.xor (Bool.xor _ _) _
          rw [pt p]
        · rw [if_neg hki]
          show (if k < i then _ else _) = (if k < i + 1 then _ else _)
          by_cases hlt2 : k < i
          · rw [if_pos hlt2, if_pos (by omega)]
          · rw [if_neg hlt2, if_neg (by omega)]
      · rw [l4 p]
        show Bool.xor ((Bool.xor (if i < i then _ else _) _) && (Bool.xor _ _)) _ = Bool.xor ((Bool.xor _ _) && (Bool.xor _ _)) _
        rw [if_neg (by omega), pt p]) (by omega) ⟨e, rfl, ⟨Nat.le_refl _, (hR.more (by omega)).cong (fun k hk p => by
          by_cases hlt2 : k < j + 1
          · rw [if_pos hlt2]
            show _ = Bool.xor (Bool.xor _ _) _
            rw [sh_cy_low (b := sh_pt (fun i => F i p) (fun i => H i p) (j + 1)) (j := j + 1) (fun i hi => if_pos hi) k (by omega), show sh_pt (fun i => F i p) (fun i => H i p) (j + 1) k = false from if_pos hlt2]
            simp
          · rw [if_neg hlt2])⟩, 0, rfl, by rw [List.length_append]; omega, fun p => by
            rw [hR.rs.1.v0 p]
            exact (sh_cy_low (j := j + 1) (fun i hi => if_pos hi) (j + 1) (Nat.le_refl _)).symm⟩
  obtain ⟨hjn, q2⟩ := q2
  have q1 : c = Int32.ofNat n := q1
  subst q1
  refine ⟨e2, m2, q6 _ ?_, (q2.more (by omega)).cong (fun k hk p => by rw [if_pos hk])⟩
  show sf_181_67s _ _ _ _ _ a (Int32.ofNat n) m2 = _
  unfold sf_181_67s
  rw [if_neg (sh_nlt0 n)]
/-- Reckoner.product -/
theorem sh_181 {gs : sh_gL} {u v w n : Nat} {m : sh_X} {F H : Nat → (Nat → Bool) → Bool} (h : sh_RS gs u m) (hx : sh_val m gs u v n F) (hy : sh_val m gs u w n H) (h1n : 1 ≤ n) (hn : u + n ≤ 8192) (hl : gs.length + 6 * n * n ≤ 65536) : sh_rop (6 * n * n) n n gs u m (sf_181 (Int32.ofNat v) (Int32.ofNat w) (Int32.ofNat n) m) (fun j p => sh_pr (fun i => F i p) (fun i => H i p) (n - 1) j) := by
  obtain ⟨m1, a1, a2, a3, a4⟩ := sh_98 h hn
  have hu := h.2.2.1
  have hw := hx.1
  have hw2 := hy.1
  have hnn : n ≤ n * n := Nat.le_mul_of_pos_left n h1n
  have h6 : 6 * n * n = 6 * (n * n) := Nat.mul_assoc _ _ _
  unfold sf_181
  rw [a1]
  show sh_rop _ _ _ _ _ _ (sf_181_10 (Int32.ofNat v) (Int32.ofNat w) (Int32.ofNat n) (Int32.ofNat u) 0 m1) _
  unfold sf_181_10
  obtain ⟨⟨c, m2⟩, ⟨e, q1, q2⟩, q3⟩ := sh_loop (f := fun q => sf_181_10s (Int32.ofNat v) (Int32.ofNat w) (Int32.ofNat n) (Int32.ofNat u) q.1 q.2) (n := n) (i := 0) (s := (0, m1))
    (fun i s => ∃ e, s.1 = Int32.ofNat i ∧ sh_RI (1 * i) (fun i p => sh_pr (fun i => F i p) (fun i => H i p) 0 i) gs u n m i e s.2) (by
      rintro i ⟨c, m2⟩ hi ⟨e, r1, hR⟩
      have r1 : c = Int32.ofNat i := r1
      subst r1
      have hlt := (sh_nIlt (a := i) (b := n) (by omega) (by omega)).mpr hi
      have rm := hR.room (N := 1) (by omega)
      obtain ⟨x, b1, b2, b3⟩ := hR.bit (hx.2 i hi) (by omega)
      obtain ⟨y, g1, g2, g3⟩ := hR.bit (j := w) (hy.2 0 h1n) (by omega)
      obtain ⟨e2, r, m3, k1, k2, k3, k4⟩ := hR.op (sh_132' hR.rs.1 b2 g2 (by omega) b3 g3)
      obtain ⟨m4, s1, s2⟩ := k2.set hu hi k3 k4
      refine ⟨(Int32.ofNat i + 1, m4), ?_, _, sh_nI1, s2.more (M := 1 * (i + 1)) (by omega)⟩
      show sf_181_10s _ _ _ _ (Int32.ofNat i) m2 = some (.inl (Int32.ofNat i + 1, m4))
      unfold sf_181_10s
      rw [if_pos hlt, sh_nIadd, b1]
      show sh_bc (sf_103 (Int32.ofNat w) m2) _ = _
      rw [g1]
      show sh_bn (sf_132 (Int32.ofNat x) (Int32.ofNat y) m2) _ = _
      rw [k1]
      show sh_bn (sf_100 (Int32.ofNat u + Int32.ofNat i) (Int32.ofNat r) m3) _ = _
      rw [sh_nIadd, s1]
      rfl) (Nat.zero_le _) ⟨[], rfl, sh_RI_0 a2 a3 a4⟩
  have q1 : c = Int32.ofNat n := q1
  subst q1
  -- the rows
  obtain ⟨⟨c, m3⟩, ⟨e3, t1, t2⟩, t3⟩ := sh_loop (f := fun q => sf_181_54s (Int32.ofNat v) (Int32.ofNat w) (Int32.ofNat n) (Int32.ofNat u) q.1 q.2) (n := n - 1) (i := 0) (s := (Int32.ofNat (0 + 1), m2))
    (fun i s => ∃ e, s.1 = Int32.ofNat (i + 1) ∧ sh_RI (1 * n + 6 * n * i) (fun k p => sh_pr (fun i => F i p) (fun i => H i p) i k) gs u n m n e s.2) (by
      rintro i ⟨c, m2⟩ hi ⟨e, r1, hR⟩
      have r1 : c = Int32.ofNat (i + 1) := r1
      subst r1
      have hlt := (sh_nIlt (a := i + 1) (b := n) (by omega) (by omega)).mpr (by omega)
      have hm : 6 * n * (i + 1) ≤ 6 * n * (n - 1) := Nat.mul_le_mul_left _ (by omega)
      have hm2 : 6 * n * (n - 1) + 6 * n = 6 * n * n := by rw [← Nat.mul_succ]; congr 1; omega
      obtain ⟨e2, m4, k1, k2⟩ := sh_181r h hx hy hn (by omega) (by rw [Nat.mul_succ] at hm; omega) hR
      refine ⟨(Int32.ofNat (i + 1) + 1, m4), ?_, e2, ?_, k2.more (M := 1 * n + 6 * n * (i + 1)) (by rw [Nat.mul_succ]; omega)⟩
      · show sf_181_54s _ _ _ _ (Int32.ofNat (i + 1)) m2 = _
        unfold sf_181_54s
        rw [if_pos hlt, k1]
      · exact sh_nI1) (Nat.zero_le _) ⟨e, rfl, q2⟩
  have t1 : c = Int32.ofNat (n - 1 + 1) := t1
  rw [show n - 1 + 1 = n by omega] at t1
  subst t1
  have hm2 : 6 * n * (n - 1) + 6 * n = 6 * n * n := by rw [← Nat.mul_succ]; congr 1; omega
  refine (t2.more (M := 6 * n * n) (by omega)).rop (q3 _ ?_)
  show sf_181_10s _ _ _ _ (Int32.ofNat n) m2 = _
  unfold sf_181_10s sf_181_54
  rw [if_neg (sh_nlt0 n)]
  have := t3 (Int32.ofNat u, m3) (by
    show sf_181_54s _ _ _ _ (Int32.ofNat n) m3 = _
    unfold sf_181_54s
    rw [if_neg (sh_nlt0 n)])
  rw [show (1 : Int32) = Int32.ofNat (0 + 1) from rfl, this]
  rfl
