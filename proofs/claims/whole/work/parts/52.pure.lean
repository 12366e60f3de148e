/-- a row with an element put in -/
def sh_we (hit row elem : Nat → Bool) (n j : Nat) : Bool := if hit (j / n) = true then elem (j % n) else row j
theorem sh_divmod {k n i : Nat} (hi : i < n) : (k * n + i) / n = k ∧ (k * n + i) % n = i := by
  constructor
  · rw [Nat.mul_comm, Nat.mul_add_div (by omega), Nat.div_eq_of_lt hi, Nat.add_zero]
  · rw [Nat.mul_comm, Nat.mul_add_mod, Nat.mod_eq_of_lt hi]
theorem sh_96 {t : Int32} {n el : Nat} (ht : sf_94 t = Int32.ofNat n) (hte : sf_93 t = Int32.ofNat el) (hel : 1 ≤ el) (hb : el < 1073741824) : sf_96 t = Int32.ofNat (n * el) := by
  unfold sf_96
  rw [ht, hte, show (1 : Int32) = Int32.ofNat 1 from rfl, sh_max (by omega) (by omega), Nat.max_eq_right hel, sh_nImul]
/-- one element of withElement -/
theorem sh_139r {L : Nat} {gs : sh_gL} {u v w n el k h0 : Nat} {x2 x3 x4 : Int32} {m0 : sh_X} {e : sh_gL} {m : sh_X} {F E : Nat → (Nat → Bool) → Bool} {hit : Nat → (Nat → Bool) → Bool} (hs : sh_RS gs u m0) (hx : sh_val m0 gs u v (n * el) F) (hy : sh_val m0 gs u w n E) (hk : k < el) (hh : h0 < (e ++ gs).length) (hfh : ∀ p, sh_va p (e ++ gs) h0 = hit k p) (hn : u + n * el ≤ 8192) (hl : gs.length + (L + 3 * n) ≤ 65536)
    (hR : sh_RI L (fun j p => sh_we (fun k => hit k p) (fun j => F j p) (fun j => E j p) n j) gs u (n * el) m0 (k * n) e m) :
    ∃ e2 m2, sf_139_42 (Int32.ofNat v) x2 x3 x4 (Int32.ofNat w) (Int32.ofNat n) (Int32.ofNat u) (Int32.ofNat k) (Int32.ofNat h0) 0 m = some (.inl (Int32.ofNat k + 1, m2)) ∧ sh_RI (L + 3 * n) (fun j p => sh_we (fun k => hit k p) (fun j => F j p) (fun j => E j p) n j) gs u (n * el) m0 ((k + 1) * n) (e2 ++ e) m2 := by
  have hu := hs.2.2.1
  have hw := hx.1
  have hw2 := hy.1
  have hkn : k * n + n ≤ n * el := by rw [← Nat.succ_mul, Nat.mul_comm n el]; exact Nat.mul_le_mul_right n hk
  have hub := hs.2.2.2.1
  unfold sf_139_42
  obtain ⟨⟨c, m2⟩, ⟨e2, q1, q2⟩, q3⟩ := sh_loop (f := fun q => sf_139_42s (Int32.ofNat v) x2 x3 x4 (Int32.ofNat w) (Int32.ofNat n) (Int32.ofNat u) (Int32.ofNat k) (Int32.ofNat h0) q.1 q.2) (n := n) (i := 0) (s := (0, m))
    (fun i s => ∃ e2, s.1 = Int32.ofNat i ∧ sh_RI (L + 3 * i) (fun j p => sh_we (fun k => hit k p) (fun j => F j p) (fun j => E j p) n j) gs u (n * el) m0 (k * n + i) (e2 ++ e) s.2) (by
      rintro i ⟨c, m2⟩ hi ⟨e1, r1, hR⟩
      have r1 : c = Int32.ofNat i := r1
      subst r1
      have hlt := (sh_nIlt (a := i) (b := n) (by omega) (by omega)).mpr hi
      have rm := hR.room (N := 3) (by omega)
      obtain ⟨x, b1, b2, b3⟩ := hR.bit (hx.2 (k * n + i) (by omega)) (by omega)
      obtain ⟨y, y1, y2, y3⟩ := hR.bit (hy.2 i hi) (by omega)
      obtain ⟨g1, g2⟩ := sh_keep (e2 := e1) hh hfh
      obtain ⟨e2, r, m3, k1, k2, k3, k4⟩ := hR.op (sh_129' hR.rs.1 g1 y2 b2 (by omega) g2 y3 b3)
      obtain ⟨m5, s1, s2⟩ := k2.set hu (by omega) k3 (fun p => (k4 p).trans (by
        unfold sh_we
        rw [(sh_divmod hi).1, (sh_divmod hi).2]))
      refine ⟨(Int32.ofNat i + 1, m5), ?_, e2 ++ e1, sh_nI1, by rw [List.append_assoc]; exact s2.more (M := L + 3 * (i + 1)) (by omega)⟩
      show sf_139_42s _ _ _ _ _ _ _ _ _ (Int32.ofNat i) m2 = _
      unfold sf_139_42s
      rw [if_pos hlt, sh_nIadd, y1]
      show sh_bc (sf_103 (Int32.ofNat v + ((Int32.ofNat k * Int32.ofNat n) + Int32.ofNat i)) m2) _ = _
      rw [sh_nImul, sh_nIadd, sh_nIadd, b1]
      show sh_bn (sf_129 (Int32.ofNat h0) (Int32.ofNat y) (Int32.ofNat x) m2) _ = _
      rw [k1]
      show sh_bn (sf_100 (Int32.ofNat u + Int32.ofNat (k * n + i)) (Int32.ofNat r) m3) _ = _
      rw [sh_nIadd, s1]
      rfl) (Nat.zero_le _) ⟨[], rfl, hR.more (by omega)⟩
  have q1 : c = Int32.ofNat n := q1
  subst q1
  refine ⟨e2, m2, q3 _ ?_, by rw [show (k + 1) * n = k * n + n from Nat.succ_mul k n]; exact q2⟩
  show sf_139_42s _ _ _ _ _ _ _ _ _ (Int32.ofNat n) m2 = _
  unfold sf_139_42s
  rw [if_neg (sh_nlt0 n)]
/-- Reckoner.withElement -/
theorem sh_139 {gs : sh_gL} {u v w z n el iw : Nat} {t it : Int32} {m : sh_X} {F H E : Nat → (Nat → Bool) → Bool} (h : sh_RS gs u m) (hx : sh_val m gs u v (n * el) F) (hy : sh_val m gs u w iw H) (hz : sh_val m gs u z n E) (ht : sf_94 t = Int32.ofNat n) (hte : sf_93 t = Int32.ofNat el) (hit : sf_94 it = Int32.ofNat iw) (hel1 : 1 ≤ el) (hel : el ≤ 32) (hi64 : iw ≤ 64) (hn : u + n * el ≤ 8192) (hl : gs.length + (2 * iw + 3 * n) * el ≤ 65536) :
    sh_rop ((2 * iw + 3 * n) * el) (n * el) (n * el) gs u m (sf_139 (Int32.ofNat v) t (Int32.ofNat w) it (Int32.ofNat z) m) (fun j p => sh_we (fun k => sh_hit it (fun j => H j p) iw k) (fun j => F j p) (fun j => E j p) n j) := by
  obtain ⟨m1, a1, a2, a3, a4⟩ := sh_98 h hn
  have hu := h.2.2.1
  have hub := h.2.2.2.1
  unfold sf_139
  rw [sh_96 ht hte hel1 (by omega), ht, a1]
  show sh_rop _ _ _ _ _ _ (sf_139_19 (Int32.ofNat v) t (Int32.ofNat w) it (Int32.ofNat z) (Int32.ofNat n) (Int32.ofNat u) 0 m1) _
  unfold sf_139_19
  obtain ⟨⟨c, m3⟩, ⟨e3, t1, t2⟩, t3⟩ := sh_loop (f := fun q => sf_139_19s (Int32.ofNat v) t (Int32.ofNat w) it (Int32.ofNat z) (Int32.ofNat n) (Int32.ofNat u) q.1 q.2) (n := el) (i := 0) (s := (0, m1))
    (fun i s => ∃ e, s.1 = Int32.ofNat i ∧ sh_RI ((2 * iw + 3 * n) * i) (fun j p => sh_we (fun k => sh_hit it (fun j => H j p) iw k) (fun j => F j p) (fun j => E j p) n j) gs u (n * el) m (i * n) e s.2) (by
      rintro i ⟨c, m2⟩ hi ⟨e, r1, hR⟩
      have r1 : c = Int32.ofNat i := r1
      subst r1
      have hlt := (sh_nIlt (a := i) (b := el) (by omega) (by omega)).mpr hi
      have hm := sh_mul_lt hi hl
      have rm := hR.room hm
      have hin : i * n ≤ n * el := by rw [Nat.mul_comm n el]; exact Nat.mul_le_mul_right n (by omega)
      obtain ⟨e1, r, m3, k1, k2, k3, k4⟩ := sh_140 hR.rs (hR.val hy) hit (k := i) (by omega) hi64 (by omega)
      have hR2 := hR.wthen hin k2
      obtain ⟨e2, m4, l1, l2⟩ := sh_139r (hit := fun k p => sh_hit it (fun j => H j p) iw k) (x2 := t) (x3 := Int32.ofNat w) (x4 := it) h hx hz hi (by rw [List.append_assoc]; exact k3) (fun p => by rw [List.append_assoc]; exact k4 p) hn (by omega) hR2
      refine ⟨(Int32.ofNat i + 1, m4), ?_, _, sh_nI1, l2.more (M := (2 * iw + 3 * n) * (i + 1)) (by rw [Nat.mul_succ]; omega)⟩
      show sf_139_19s _ _ _ _ _ _ _ (Int32.ofNat i) m2 = _
      unfold sf_139_19s
      rw [hte, if_pos hlt, k1]
      exact l1) (Nat.zero_le _) ⟨[], rfl, by rw [Nat.zero_mul]; exact (sh_RI_0 a2 a3 a4).more (Nat.zero_le _)⟩
  have t1 : c = Int32.ofNat el := t1
  subst t1
  rw [Nat.mul_comm el n] at t2
  refine t2.rop (t3 _ ?_)
  show sf_139_19s _ _ _ _ _ _ _ (Int32.ofNat el) m3 = _
  unfold sf_139_19s
  rw [hte, if_neg (sh_nlt0 el)]
