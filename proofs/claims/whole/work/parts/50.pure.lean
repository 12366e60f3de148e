theorem sh_pow6 : ∀ b : Fin 6, (1 : Int32) <<< (Int32.ofNat b.1 &&& 31) = Int32.ofNat (2 ^ b.1) := by decide +kernel
/-- Reckoner.shift -/
theorem sh_175 {gs : sh_gL} {u v n f w k : Nat} {l : Bool} {m : sh_X} {F H : Nat → (Nat → Bool) → Bool} {ff : (Nat → Bool) → Bool} (h : sh_RS gs u m) (hx : sh_val m gs u v n F) (hy : sh_val m gs u w k H) (h1n : 1 ≤ n) (hf : f < gs.length) (hff : ∀ p, sh_va p gs f = ff p) (hn : u + n ≤ 8192) (hl : gs.length + 3 * n * k ≤ 65536) : sh_rop (3 * n * k) n n gs u m (sf_175 (Int32.ofNat v) (Int32.ofNat n) (Int32.ofNat w) (Int32.ofNat k) l (Int32.ofNat f) m) (fun j p => sh_svv l n (fun j => F j p) (fun j => H j p) (ff p) k j) := by
  obtain ⟨m1, a1, a2, a3, a4⟩ := sh_98 h hn
  have hu := h.2.2.1
  have hw := hx.1
  have hw2 := hy.1
  obtain ⟨m2, b1, b2⟩ := sh_137 h a2 a3 a4 hx
  unfold sf_175
  rw [a1]
  show sh_rop _ _ _ _ _ _ (sh_bn (sf_137 (Int32.ofNat v) (Int32.ofNat u) (Int32.ofNat n) m1) _) _
  rw [b1]
  show sh_rop _ _ _ _ _ _ (sf_175_18 (Int32.ofNat n) (Int32.ofNat w) (Int32.ofNat k) l (Int32.ofNat f) (Int32.ofNat u) 0 m2) _
  unfold sf_175_18
  obtain ⟨⟨c, m3⟩, ⟨e3, t1, t2⟩, t3⟩ := sh_loop (f := fun q => sf_175_18s (Int32.ofNat n) (Int32.ofNat w) (Int32.ofNat k) l (Int32.ofNat f) (Int32.ofNat u) q.1 q.2) (n := k) (i := 0) (s := (0, m2))
    (fun i s => ∃ e, s.1 = Int32.ofNat i ∧ sh_RI (3 * n * i) (fun j p => sh_svv l n (fun j => F j p) (fun j => H j p) (ff p) i j) gs u n m n e s.2) (by
      rintro i ⟨c, m2⟩ hi ⟨e, r1, hR⟩
      have r1 : c = Int32.ofNat i := r1
      subst r1
      have hlt := (sh_nIlt (a := i) (b := k) (by omega) (by omega)).mpr hi
      have hm : 3 * n * (i + 1) ≤ 3 * n * k := Nat.mul_le_mul_left _ hi
      rw [Nat.mul_succ] at hm
      have hd : sh_dist n i ≤ n ∧ 1 ≤ sh_dist n i := by
        unfold sh_dist
        split
        · exact ⟨Nat.min_le_right _ _, by have : 1 ≤ 2 ^ i := Nat.one_le_two_pow; omega⟩
        · omega
      obtain ⟨e2, m4, k1, k2⟩ := sh_175r (l := l) (f := f) (ff := ff) h hy hi hf hff (sh_dist n i) hd.2 hd.1 (by omega) hR hn (by omega)
      refine ⟨(Int32.ofNat i + 1, m4), ?_, e2, sh_nI1, (k2.more (M := 3 * n * (i + 1)) (by rw [Nat.mul_succ]; omega)).cong (fun j hj p => rfl)⟩
      show sf_175_18s _ _ _ _ _ _ (Int32.ofNat i) m2 = _
      unfold sf_175_18s sf_175_44
      rw [if_pos hlt]
      have c6 : (Int32.ofNat i < 6) ↔ i < 6 := sh_nIlt (b := 6) (by omega) (by omega)
      by_cases h6 : i < 6
      · rw [if_pos (c6.mpr h6), sh_pow6 ⟨i, h6⟩, sh_min (by have : 2 ^ i ≤ 2 ^ 5 := Nat.pow_le_pow_right (by omega) (by omega); show 2 ^ i < _; omega) (by omega)]
        have e0 : sh_dist n i = min (2 ^ i) n := if_pos h6
        rw [e0] at k1
        exact k1
      · rw [if_neg (fun q => h6 (c6.mp q))]
        have e0 : sh_dist n i = n := if_neg h6
        rw [e0] at k1
        exact k1) (Nat.zero_le _) ⟨[], rfl, b2.cong (fun j hj p => rfl)⟩
  have t1 : c = Int32.ofNat k := t1
  subst t1
  refine t2.rop (t3 _ ?_)
  show sf_175_18s _ _ _ _ _ _ (Int32.ofNat k) m3 = _
  unfold sf_175_18s
  rw [if_neg (sh_nlt0 k)]
/-- Reckoner.input: fresh wires -/
theorem sh_97 {gs : sh_gL} {u n : Nat} {m : sh_X} (h : sh_RS gs u m) (hg0 : sh_gh gs = 0) (hn : u + n ≤ 8192) (hl : gs.length + 1 * n ≤ 65536) : ∃ e m2, sf_97 (Int32.ofNat n) m = some (Int32.ofNat u, m2) ∧ sh_RS (e ++ gs) (u + n) m2 ∧ sh_Rf m m2 ∧ (∀ j, j < u → m2.I 45 j = m.I 45 j) ∧ e.length = n ∧ (∀ g ∈ e, g = (0, 0, 0)) ∧ ∀ j, j < n → sh_pe m2 (e ++ gs) (u + j) (gs.length + j) := by
  obtain ⟨m1, a1, a2, a3, a4⟩ := sh_98 h hn
  have hu := h.2.2.1
  unfold sf_97
  rw [a1]
  show ∃ e m2, sf_97_8 (Int32.ofNat n) (Int32.ofNat u) 0 m1 = _ ∧ _
  unfold sf_97_8
  obtain ⟨⟨c, m2⟩, ⟨e, q1, q2, q3, q4, q5⟩, q6⟩ := sh_loop (f := fun q => sf_97_8s (Int32.ofNat n) (Int32.ofNat u) q.1 q.2) (n := n) (i := 0) (s := (0, m1))
    (fun i s => ∃ e, s.1 = Int32.ofNat i ∧ sh_RI i sh_Fz gs u n m 0 e s.2 ∧ e.length = i ∧ (∀ g ∈ e, g = (0, 0, 0)) ∧ ∀ j, j < i → sh_pe s.2 (e ++ gs) (u + j) (gs.length + j)) (by
      rintro i ⟨c, m2⟩ hi ⟨e, r1, hR, r3, r4, r5⟩
      have r1 : c = Int32.ofNat i := r1
      subst r1
      have hlt := (sh_nIlt (a := i) (b := n) (by omega) (by omega)).mpr hi
      have rm := hR.room (N := 1) (by omega)
      obtain ⟨a, b, d, k, g⟩ := hR.rs.1.2.2.2
      obtain ⟨a2, b2, c2, n2, m3, k1, k2, k3⟩ := sh_st_spec (k := 0) (x := 0) (y := 0) g (by omega) (by omega) (Or.inl ⟨rfl, rfl, Or.inr ⟨by have := hR.rs.1.1; omega, rfl, Or.inl (by unfold sh_gh; rw [sh_ga_ext (by have := h.1.1; omega)]; exact hg0)⟩⟩)
      have hG : sh_GS ([(0, 0, 0)] ++ (e ++ gs)) m3 := hR.rs.1.cons k2
      have hR2 := hR.gop (N := 1) hG k3 (Nat.le_refl _)
      have hlen : (e ++ gs).length = gs.length + i := by rw [List.length_append]; omega
      have e45 : m3.I 45 = m2.I 45 := k3.I 45 (by omega) (by omega) (by omega) (by omega) (by omega)
      obtain ⟨m4, s1, s2, s3, s4, s5⟩ := sh_100 hR2.rs (i := u + i) (x := gs.length + i) (by omega) (by omega) (by rw [List.append_assoc]; show _ < (e ++ gs).length + 1; omega)
      refine ⟨(Int32.ofNat i + 1, m4), ?_, [(0, 0, 0)] ++ e, sh_nI1, sh_RI.mk (rs := s2) (fr := hR2.fr.trans s3) (po := fun j hj => by rw [s5 j (by omega)]; exact hR2.po j hj) (le := hR2.le) (rb := fun j hj => absurd hj (by omega)), ?_, ?_, ?_⟩
      · show sf_97_8s _ _ (Int32.ofNat i) m2 = _
        unfold sf_97_8s sf_99
        rw [if_pos hlt]
        have k1 : sf_19 0 0 0 m2 = some (Int32.ofNat (e ++ gs).length, m3) := k1
        rw [k1]
        show sh_bn (sf_100 (Int32.ofNat u + Int32.ofNat i) (Int32.ofNat (e ++ gs).length) m3) _ = _
        rw [sh_nIadd, hlen, s1]
        rfl
      · rw [List.length_append, r3]; show 1 + i = i + 1; omega
      · intro g hg
        rcases List.mem_append.mp hg with hg | hg
        · simp at hg; exact hg
        · exact r4 g hg
      · intro j hj
        by_cases hji : j = i
        · subst hji; exact s4
        · have := r5 j (by omega)
          refine ⟨?_, ?_⟩
          · rw [s5 (u + j) (by omega), e45]; exact this.1
          · rw [List.append_assoc]; exact sh_lt_app this.2) (Nat.zero_le _) ⟨[], rfl, sh_RI_0 a2 a3 a4, rfl, (fun g hg => absurd hg (List.not_mem_nil)), fun j hj => absurd hj (by omega)⟩
  have q1 : c = Int32.ofNat n := q1
  subst q1
  refine ⟨e, m2, q6 _ ?_, q2.rs, q2.fr, q2.po, q3, q4, q5⟩
  show sf_97_8s _ _ (Int32.ofNat n) m2 = _
  unfold sf_97_8s
  rw [if_neg (sh_nlt0 n)]
/-- does the index, n bits a, say k (its bits b)? -/
def sh_isx (a b : Nat → Bool) : Nat → Bool
  | 0 => true
  | j + 1 => sh_isx a b j && (if b j = true then a j else !a j)
theorem sh_k31 : ∀ k : Fin 32, ∀ i : Fin 128, ((Int32.ofNat k.1 >>> ((sf_21 (Int32.ofNat i.1) 31) &&& 31)) &&& 1 = 1) ↔ k.1.testBit i.1 = true := by
  have h : ∀ k : Fin 32, ∀ i : Fin 128, ((Int32.ofNat k.1 >>> ((if (31 : Int32) < Int32.ofNat i.1 then (31 : Int32) else Int32.ofNat i.1) &&& 31)) &&& 1 = 1) ↔ k.1.testBit i.1 = true := by decide +kernel
  exact h
/-- Reckoner.isIndex, where the type can hold k -/
theorem sh_140a {gs : sh_gL} {u v n k : Nat} {t : Int32} {m : sh_X} {F : Nat → (Nat → Bool) → Bool} (h : sh_RS gs u m) (hx : sh_val m gs u v n F) (ht : sf_94 t = Int32.ofNat n) (hk : k < 32) (h64 : n ≤ 64) (hl : gs.length + 2 * n ≤ 65536) : sh_wop (2 * n) gs u m (sf_140_17 (Int32.ofNat v) t (Int32.ofNat k) 1 0 m) (fun p => sh_isx (fun j => F j p) (fun j => k.testBit j) n) := by
  have hw := hx.1
  have h2 := h.1.1
  have hu := h.2.2.2.1
  unfold sf_140_17
  obtain ⟨e, a, m2, h3, ⟨c, rfl, c1, c2⟩, h5⟩ := sh_wires (N := n) (K := 2) (f := fun q => sf_140_17s (Int32.ofNat v) t (Int32.ofNat k) q.1 q.2.1 q.2.2) (a0 := 1) (sh_isC (fun i p => sh_isx (fun j => F j p) (fun j => k.testBit j) i)) h ⟨1, rfl, by omega, fun p => h.1.v1 p⟩ (fun i a e m2 hi hR hC => by
    obtain ⟨c, rfl, c1, c2⟩ := hC
    have hlt := (sh_nIlt (a := i) (b := n) (by omega) (by omega)).mpr hi
    have hm := sh_mul_lt hi hl
    have rm := hR.room hm
    obtain ⟨x, b1, b2, b3⟩ := hR.bit (hx.2 i hi) (by omega)
    have ck := sh_k31 ⟨k, hk⟩ ⟨i, by omega⟩
    by_cases hb : k.testBit i = true
    · obtain ⟨e2, r, m3, k1, k2, k3, k4⟩ := hR.op (sh_132' hR.rs.1 c1 b2 (by omega) c2 b3)
      refine ⟨_, _, m3, ?_, k2.more (by omega), r, rfl, k3, fun p => (k4 p).trans ?_⟩
      · show sf_140_17s _ _ _ (Int32.ofNat c) (Int32.ofNat i) m2 = _
        unfold sf_140_17s
        rw [ht, if_pos hlt, sh_nIadd, b1]
        show (if _ then _ else _) = _
        rw [if_pos (ck.mpr hb)]
        unfold sf_140_56 sf_140_83
        rw [if_pos rfl, k1]
        rfl
      · show _ = (_ && (if k.testBit i = true then _ else _))
        rw [if_pos hb]
    · obtain ⟨e1, r1, m1, g1, g2, g3, g4⟩ := hR.op (sh_141' hR.rs.1 b2 (by omega) b3)
      obtain ⟨c3, c4⟩ := sh_keep (e2 := e1) c1 c2
      have rm1 := g2.room (N := 1) (by omega)
      obtain ⟨e2, r, m3, k1, k2, k3, k4⟩ := g2.op (sh_132' g2.rs.1 c3 g3 (by omega) c4 g4)
      refine ⟨_, _, m3, ?_, k2, r, rfl, k3, fun p => (k4 p).trans ?_⟩
      · show sf_140_17s _ _ _ (Int32.ofNat c) (Int32.ofNat i) m2 = _
        unfold sf_140_17s
        rw [ht, if_pos hlt, sh_nIadd, b1]
        show (if _ then _ else _) = _
        rw [if_neg (fun q => hb (ck.mp q))]
        unfold sf_140_56 sf_140_83
        rw [if_neg (by decide), g1]
        show sh_bn (sf_132 (Int32.ofNat c) (Int32.ofNat r1) m1) _ = _
        rw [k1]
        rfl
      · show _ = (_ && (if k.testBit i = true then _ else _))
        rw [if_neg hb])
  refine ⟨e, c, m2, h5 _ ?_, h3, c1, c2⟩
  show sf_140_17s _ _ _ (Int32.ofNat c) (Int32.ofNat n) m2 = _
  unfold sf_140_17s
  rw [ht, if_neg (sh_nlt0 n)]
/-- whether an index says k -/
noncomputable def sh_hit (t : Int32) (a : Nat → Bool) (n k : Nat) : Bool := if sf_112 t (Int32.toInt64 (Int32.ofNat k)) = true then sh_isx a (fun j => k.testBit j) n else false
theorem sh_140 {gs : sh_gL} {u v n k : Nat} {t : Int32} {m : sh_X} {F : Nat → (Nat → Bool) → Bool} (h : sh_RS gs u m) (hx : sh_val m gs u v n F) (ht : sf_94 t = Int32.ofNat n) (hk : k < 32) (h64 : n ≤ 64) (hl : gs.length + 2 * n ≤ 65536) : sh_wop (2 * n) gs u m (sf_140 (Int32.ofNat v) t (Int32.ofNat k) m) (fun p => sh_hit t (fun j => F j p) n k) := by
  unfold sf_140 sh_hit
  by_cases hc : sf_112 t (Int32.toInt64 (Int32.ofNat k)) = true
  · simp only [if_pos hc]
    exact sh_140a h hx ht hk h64 hl
  · simp only [if_neg hc]
    have h2 := h.1.1
    exact ⟨[], 0, m, rfl, (sh_RI_00 h).more (Nat.zero_le _), by show 0 < gs.length; omega, fun p => h.1.v0 p⟩
