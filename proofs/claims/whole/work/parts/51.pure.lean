/-! rows: an element by an index, a row with an element put in -/
theorem sh_RI.val {L : Nat} {F G : Nat → (Nat → Bool) → Bool} {gs : sh_gL} {u n : Nat} {m0 : sh_X} {i : Nat} {e : sh_gL} {m : sh_X} {v k : Nat} (h : sh_RI L F gs u n m0 i e m) (hv : sh_val m0 gs u v k G) : sh_val m (e ++ gs) (u + n) v k G := by
  refine ⟨by have := hv.1; omega, fun j hj => ?_⟩
  obtain ⟨x, h1, h2⟩ := hv.2 j hj
  exact ⟨x, ⟨by rw [h.po (v + j) (by have := hv.1; omega)]; exact h1.1, sh_lt_app h1.2⟩, fun p => by rw [sh_va_ext p _ h1.2]; exact h2 p⟩
theorem sh_RI.wthen {L N : Nat} {F : Nat → (Nat → Bool) → Bool} {gs : sh_gL} {u n : Nat} {m0 : sh_X} {i : Nat} {e e2 : sh_gL} {m m3 : sh_X} (hi : i ≤ n) (h : sh_RI L F gs u n m0 i e m) (g : sh_RI N sh_Fz (e ++ gs) (u + n) 0 m 0 e2 m3) : sh_RI (L + N) F gs u n m0 i (e2 ++ e) m3 := by
  have l1 := h.le
  have l2 := g.le
  refine sh_RI.mk (rs := by rw [List.append_assoc]; exact g.rs) (fr := h.fr.trans g.fr) (po := fun j hj => (g.po j (by omega)).trans (h.po j hj)) (le := by rw [List.length_append]; omega) (rb := fun j hj => ?_)
  obtain ⟨x, h1, h2⟩ := h.rb j hj
  rw [List.append_assoc]
  exact ⟨x, ⟨by rw [g.po (u + j) (by omega)]; exact h1.1, sh_lt_app h1.2⟩, fun p => by rw [sh_va_ext p _ h1.2]; exact h2 p⟩
/-- nothing but zeros -/
theorem sh_115z {gs : sh_gL} {u n : Nat} {m : sh_X} (h : sh_RS gs u m) (h64 : n ≤ 64) (hn : u + n ≤ 8192) : ∃ m2, sf_115 0 (Int32.ofNat n) m = some (Int32.ofNat u, m2) ∧ sh_RI 0 (fun _ _ => false) gs u n m n [] m2 := by
  obtain ⟨m1, a1, a2, a3, a4⟩ := sh_98 h hn
  have hu := h.2.2.1
  unfold sf_115
  rw [a1]
  show ∃ m2, sf_115_10 0 (Int32.ofNat n) (Int32.ofNat u) 0 m1 = _ ∧ _
  unfold sf_115_10
  obtain ⟨⟨c, m2⟩, ⟨q1, q2⟩, q3⟩ := sh_loop (f := fun q => sf_115_10s 0 (Int32.ofNat n) (Int32.ofNat u) q.1 q.2) (n := n) (i := 0) (s := (0, m1))
    (fun i s => s.1 = Int32.ofNat i ∧ sh_RI 0 (fun _ _ => false) gs u n m i [] s.2) (by
      rintro i ⟨c, m2⟩ hi ⟨r1, hR⟩
      have r1 : c = Int32.ofNat i := r1
      subst r1
      have hlt := (sh_nIlt (a := i) (b := n) (by omega) (by omega)).mpr hi
      obtain ⟨m4, s1, s2⟩ := hR.set (x := 0) hu hi (hR.rs.1.vb false (fun _ => false)).1 (fun p => hR.rs.1.v0 p)
      refine ⟨(Int32.ofNat i + 1, m4), ?_, sh_nI1, s2⟩
      show sf_115_10s _ _ _ (Int32.ofNat i) m2 = _
      unfold sf_115_10s
      rw [if_pos hlt, show (63 : Int32) = Int32.ofNat 63 from rfl, sh_min (by omega) (by omega), Nat.min_eq_left (by omega), sh_lbit32 0 (by omega), sh_nIadd, show (0 : Int64).toBitVec.getLsbD i = false from BitVec.getLsbD_zero]
      show sh_bn (sf_100 (Int32.ofNat (u + i)) (Int32.ofNat 0) m2) _ = _
      rw [s1]
      rfl) (Nat.zero_le _) ⟨rfl, sh_RI_0 a2 a3 a4⟩
  have q1 : c = Int32.ofNat n := q1
  subst q1
  refine ⟨m2, q3 _ ?_, q2⟩
  show sf_115_10s _ _ _ (Int32.ofNat n) m2 = _
  unfold sf_115_10s
  rw [if_neg (sh_nlt0 n)]
theorem sh_nImul {a b : Nat} : Int32.ofNat a * Int32.ofNat b = Int32.ofNat (a * b) := (Int32.ofNat_mul a b).symm
/-- the elements up to k, of which at most one is hit, together -/
def sh_ea (hit row : Nat → Bool) (n : Nat) : Nat → Nat → Bool
  | 0, _ => false
  | k + 1, i => Bool.xor (sh_ea hit row n k i) (hit k && row (k * n + i))
/-- one element of elementAt -/
theorem sh_198r {L : Nat} {gs : sh_gL} {u v n el k h0 : Nat} {x2 x3 x4 : Int32} {m0 : sh_X} {e : sh_gL} {m : sh_X} {F G : Nat → (Nat → Bool) → Bool} {fh : (Nat → Bool) → Bool} (hs : sh_RS gs u m0) (hx : sh_val m0 gs u v (n * el) F) (hk : k < el) (hh : h0 < (e ++ gs).length) (hfh : ∀ p, sh_va p (e ++ gs) h0 = fh p) (hn : u + n ≤ 8192) (hl : gs.length + (L + 2 * n) ≤ 65536) (hR : sh_RI L G gs u n m0 n e m) :
    ∃ e2 m2, sf_198_41 (Int32.ofNat v) x2 x3 x4 (Int32.ofNat n) (Int32.ofNat u) (Int32.ofNat k) (Int32.ofNat h0) 0 m = some (.inl (Int32.ofNat k + 1, m2)) ∧ sh_RI (L + 2 * n) (fun i p => Bool.xor (G i p) (fh p && F (k * n + i) p)) gs u n m0 n (e2 ++ e) m2 := by
  have hu := hs.2.2.1
  have hw := hx.1
  have hkn : k * n + n ≤ n * el := by rw [← Nat.succ_mul, Nat.mul_comm n el]; exact Nat.mul_le_mul_right n hk
  have hub := hs.2.2.2.1
  unfold sf_198_41
  obtain ⟨⟨c, m2⟩, ⟨e2, q1, q2⟩, q3⟩ := sh_loop (f := fun q => sf_198_41s (Int32.ofNat v) x2 x3 x4 (Int32.ofNat n) (Int32.ofNat u) (Int32.ofNat k) (Int32.ofNat h0) q.1 q.2) (n := n) (i := 0) (s := (0, m))
    (fun i s => ∃ e2, s.1 = Int32.ofNat i ∧ sh_RI (L + 2 * i) (fun j p => if j < i then Bool.xor (G j p) (fh p && F (k * n + j) p) else G j p) gs u n m0 n (e2 ++ e) s.2) (by
      rintro i ⟨c, m2⟩ hi ⟨e1, r1, hR⟩
      have r1 : c = Int32.ofNat i := r1
      subst r1
      have hlt := (sh_nIlt (a := i) (b := n) (by omega) (by omega)).mpr hi
      have rm := hR.room (N := 2) (by omega)
      obtain ⟨x, b1, b2, b3⟩ := hR.bit (hx.2 (k * n + i) (by omega)) (by omega)
      obtain ⟨g1, g2⟩ := sh_keep (e2 := e1) hh hfh
      obtain ⟨e2, r, m3, k1, k2, k3, k4⟩ := hR.op (sh_132' hR.rs.1 g1 b2 (by omega) g2 b3)
      obtain ⟨z, z1, z2, z3⟩ := k2.new (i := i) hi (Nat.le_refl _)
      have z3 : ∀ p, sh_va p ((e2 ++ (e1 ++ e)) ++ gs) z = G i p := fun p => by rw [z3 p, if_neg (Nat.lt_irrefl i)]
      have rm1 := k2.room (N := 1) (by omega)
      obtain ⟨e3, r3, m4, l1, l2, l3, l4⟩ := k2.op (sh_130' k2.rs.1 z2 k3 (by omega) z3 k4)
      obtain ⟨m5, s1, s2⟩ := l2.upd hu hi l3 l4
      refine ⟨(Int32.ofNat i + 1, m5), ?_, e3 ++ (e2 ++ e1), sh_nI1, ?_⟩
      · show sf_198_41s _ _ _ _ _ _ _ _ (Int32.ofNat i) m2 = _
        unfold sf_198_41s
        rw [if_pos hlt, sh_nImul, sh_nIadd, sh_nIadd, Nat.add_assoc, b1]
        show sh_bn (sf_132 (Int32.ofNat h0) (Int32.ofNat x) m2) _ = _
        rw [k1]
        show sh_bc (sf_103 (Int32.ofNat u + Int32.ofNat i) m3) _ = _
        rw [sh_nIadd, z1]
        show sh_bn (sf_130 (Int32.ofNat z) (Int32.ofNat r) m3) _ = _
        rw [l1]
        show sh_bn (sf_100 (Int32.ofNat (u + i)) (Int32.ofNat r3) m4) _ = _
        rw [s1]
        rfl
      · have this : (e3 ++ (e2 ++ e1)) ++ e = e3 ++ (e2 ++ (e1 ++ e)) := by simp only [List.append_assoc]
        rw [this]
        refine (s2.more (M := L + 2 * (i + 1)) (by omega)).cong (fun j hj p => ?_)
        unfold sh_fu
        by_cases hji : j = i
        · subst hji
          rw [if_pos rfl, if_pos (Nat.lt_succ_self j)]
        · rw [if_neg hji]
          show (if j < i then _ else _) = (if j < i + 1 then _ else _)
          by_cases hlt2 : j < i
          · rw [if_pos hlt2, if_pos (by omega)]
          · rw [if_neg hlt2, if_neg (by omega)]) (Nat.zero_le _) ⟨[], rfl, (hR.more (by omega)).cong (fun j hj p => by rw [if_neg (Nat.not_lt_zero j)])⟩
  have q1 : c = Int32.ofNat n := q1
  subst q1
  refine ⟨e2, m2, q3 _ ?_, q2.cong (fun j hj p => by rw [if_pos hj])⟩
  show sf_198_41s _ _ _ _ _ _ _ _ (Int32.ofNat n) m2 = _
  unfold sf_198_41s
  rw [if_neg (sh_nlt0 n)]
/-- Reckoner.elementAt -/
theorem sh_198 {gs : sh_gL} {u v w n el iw : Nat} {t it : Int32} {m : sh_X} {F H : Nat → (Nat → Bool) → Bool} (h : sh_RS gs u m) (hx : sh_val m gs u v (n * el) F) (hy : sh_val m gs u w iw H) (ht : sf_94 t = Int32.ofNat n) (hte : sf_93 t = Int32.ofNat el) (hit : sf_94 it = Int32.ofNat iw) (hel : el ≤ 32) (h64 : n ≤ 64) (hi64 : iw ≤ 64) (hn : u + n ≤ 8192) (hl : gs.length + (2 * iw + 2 * n) * el ≤ 65536) :
    sh_rop ((2 * iw + 2 * n) * el) n n gs u m (sf_198 (Int32.ofNat v) t (Int32.ofNat w) it m) (fun j p => sh_ea (fun k => sh_hit it (fun j => H j p) iw k) (fun j => F j p) n el j) := by
  obtain ⟨m1, a1, a2⟩ := sh_115z h h64 hn
  have hu := h.2.2.1
  have hub := h.2.2.2.1
  unfold sf_198
  rw [ht, a1]
  show sh_rop _ _ _ _ _ _ (sf_198_18 (Int32.ofNat v) t (Int32.ofNat w) it (Int32.ofNat n) (Int32.ofNat u) 0 m1) _
  unfold sf_198_18
  obtain ⟨⟨c, m3⟩, ⟨e3, t1, t2⟩, t3⟩ := sh_loop (f := fun q => sf_198_18s (Int32.ofNat v) t (Int32.ofNat w) it (Int32.ofNat n) (Int32.ofNat u) q.1 q.2) (n := el) (i := 0) (s := (0, m1))
    (fun i s => ∃ e, s.1 = Int32.ofNat i ∧ sh_RI ((2 * iw + 2 * n) * i) (fun j p => sh_ea (fun k => sh_hit it (fun j => H j p) iw k) (fun j => F j p) n i j) gs u n m n e s.2) (by
      rintro i ⟨c, m2⟩ hi ⟨e, r1, hR⟩
      have r1 : c = Int32.ofNat i := r1
      subst r1
      have hlt := (sh_nIlt (a := i) (b := el) (by omega) (by omega)).mpr hi
      have hm := sh_mul_lt hi hl
      have rm := hR.room hm
      obtain ⟨e1, r, m3, k1, k2, k3, k4⟩ := sh_140 hR.rs (hR.val hy) hit (k := i) (by omega) hi64 (by omega)
      have hR2 := hR.wthen (Nat.le_refl _) k2
      obtain ⟨e2, m4, l1, l2⟩ := sh_198r (fh := fun p => sh_hit it (fun j => H j p) iw i) (x2 := t) (x3 := Int32.ofNat w) (x4 := it) h hx hi (by rw [List.append_assoc]; exact k3) (fun p => by rw [List.append_assoc]; exact k4 p) hn (by omega) hR2
      refine ⟨(Int32.ofNat i + 1, m4), ?_, _, sh_nI1, (l2.more (M := (2 * iw + 2 * n) * (i + 1)) (by rw [Nat.mul_succ]; omega)).cong (fun j hj p => rfl)⟩
      show sf_198_18s _ _ _ _ _ _ (Int32.ofNat i) m2 = _
      unfold sf_198_18s
      rw [hte, if_pos hlt, k1]
      exact l1) (Nat.zero_le _) ⟨[], rfl, a2.more (Nat.zero_le _)⟩
  have t1 : c = Int32.ofNat el := t1
  subst t1
  refine t2.rop (t3 _ ?_)
  show sf_198_18s _ _ _ _ _ _ (Int32.ofNat el) m3 = _
  unfold sf_198_18s
  rw [hte, if_neg (sh_nlt0 el)]
