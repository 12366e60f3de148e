/-! division of sizes -/
theorem sh_cx.wrI {L N : Nat} {gs : sh_gL} {u : Nat} {m0 : sh_X} {e : sh_gL} {m : sh_X} {I2 : Nat → Nat → Int32} (h : sh_cx L gs u N m0 e m) (hI : ∀ c, c ≠ 46 → c ≠ 47 → I2 c = m.I c) : sh_cx L gs u N m0 e (m.T, I2, m.J, m.s) := by
  obtain ⟨r1, r2, r3, r4, r5, r6⟩ := h.rs
  have e45 := hI 45 (by omega) (by omega)
  have e44 := hI 44 (by omega) (by omega)
  obtain ⟨h1, h6, h7, a, b, d, n, g⟩ := r1
  have fa := g.fa
  have fb := g.fb
  have fc := g.fc
  refine sh_RI.mk (rs := ⟨⟨h1, h6, h7, a, b, d, n, sh_Gv.mk (ra := g.ra) (rb := g.rb) (rc := g.rc) (la := g.la) (lb := g.lb) (lc := g.lc) (ab := g.ab) (ac := g.ac) (bc := g.bc) (fa := g.fa) (fb := g.fb) (fc := g.fc) (nT := g.nT) (n0 := g.n0) (n1 := g.n1) (n5 := g.n5) (tT := g.tT) (le := g.le) (w := ?_) (k := ?_) (l := ?_) (r := ?_) (wf := g.wf)⟩, ?_, r3, r4, ⟨?_, r5.2⟩, ⟨?_, r6.2⟩⟩) (fr := h.fr.trans (sh_Rf.mk (fun c _ _ _ _ _ _ _ q1 q2 => hI c q1 q2) rfl (fun _ _ _ h => h) (Nat.le_refl _) (Nat.le_refl _) rfl)) (po := fun j hj => ?_) (le := h.le) (rb := fun j hj => absurd hj (by omega))
  · show I2 9 3 = _
    rw [hI 9 (by omega) (by omega)]; exact g.w
  · intro j hj
    show I2 a j = _
    rw [hI a (by omega) (by omega)]; exact g.k j hj
  · intro j hj
    show I2 b j = _
    rw [hI b (by omega) (by omega)]; exact g.l j hj
  · intro j hj
    show I2 d j = _
    rw [hI d (by omega) (by omega)]; exact g.r j hj
  · show I2 44 4 = _
    rw [e44]; exact r2
  · show I2 45 0 = _
    rw [e45]; exact r5.1
  · show I2 45 1 = _
    rw [e45]; exact r6.1
  · show I2 45 j = _
    rw [e45]; exact h.po j hj
theorem sh_bn_some {α β : Type} {r : α} {m : sh_X} {f : α → sh_X → Option β} : sh_bn (some (r, m)) f = f r m := rfl
theorem sh_mlt : ((-1 : Int32) < 0) := by decide
/-- one step of the division, whole -/
theorem sh_183t {L n t : Nat} {gs : sh_gL} {u v : Nat} {x4 : Bool} {m0 : sh_X} {e : sh_gL} {m : sh_X} {F H R : Nat → (Nat → Bool) → Bool} (h0 : sh_RS gs u m0) (hx : sh_val m0 gs u v n F) (hn : n ≤ 64) (ht : t < n) (hub : u + 2 * n ≤ 8192) (hl : gs.length + (L + (8 * n + 3)) ≤ 65536) (h : sh_cx L gs u (2 * n) m0 e m) (hR : ∀ j, j < n → sh_ce m (e ++ gs) 46 j (R j)) (hB : ∀ j, j < n → sh_ce m (e ++ gs) 45 (u + n + j) (fun p => !H j p)) :
    ∃ e2 m2, sf_183_86 (Int32.ofNat v) x4 (Int32.ofNat u) (Int32.ofNat (u + n)) (Int32.ofNat n) (Int32.ofNat (n - 1 - t)) (Int32.ofNat n) m = some (.inl (Int32.ofNat (n - 1 - t) + (-1), m2)) ∧ sh_cx (L + (8 * n + 3)) gs u (2 * n) m0 (e2 ++ e) m2 ∧ (∀ j, j ≠ u + (n - 1 - t) → m2.I 45 j = m.I 45 j) ∧ sh_ce m2 ((e2 ++ e) ++ gs) 45 (u + (n - 1 - t)) (fun p => sh_dF (sh_dS (fun j => R j p) (F (n - 1 - t) p)) (fun j => H j p) n) ∧ ∀ j, j < n → sh_ce m2 ((e2 ++ e) ++ gs) 46 j (fun p => sh_dN (sh_dS (fun j => R j p) (F (n - 1 - t) p)) (fun j => H j p) n j) := by
  have hu := h0.2.2.1
  have hw := hx.1
  obtain ⟨k, k1, k2, k3⟩ := sh_RI.bit h (hx.2 (n - 1 - t) (by omega)) (by omega)
  obtain ⟨m1, a1, a2, a3, a4⟩ := sh_183s (x1 := Int32.ofNat v) (x4 := x4) (x5 := Int32.ofNat u) (x6 := Int32.ofNat (u + n)) (x8 := Int32.ofNat (n - 1 - t)) hn h hR (by rw [sh_nIadd]; exact k1) k2 k3 (fun m2 e45 e44 => by
    have k1 := k1
    rw [sh_nIadd]
    unfold sf_103 at k1 ⊢
    rw [e45, e44]
    exact k1)
  obtain ⟨e2, c, m2, b1, b2, b3, b4, b5, b6, b7⟩ := sh_183c (x1 := Int32.ofNat v) (x4 := x4) (x5 := Int32.ofNat u) (x8 := Int32.ofNat (n - 1 - t)) (S := fun j p => sh_dS (fun j => R j p) (F (n - 1 - t) p) j) (B := fun j p => !H j p) hu hn hub (by omega) a2 a4 (fun j hj => by
    obtain ⟨x, y1, y2, y3⟩ := hB j hj
    exact ⟨x, by rw [a3]; exact y1, y2, y3⟩)
  obtain ⟨s, s1, s2, s3⟩ := (a4 n (Nat.le_refl _)).app2 (m2 := m2) (e2 := e2) (by rw [b6])
  have rm := b2.room (N := 3) (by omega)
  obtain ⟨e3, ft, m3, o1, o2, o3, o4, o5, o6, o7⟩ := b2.op (sh_185' b2.rs.1 s2 b3 (by omega) s3 b4)
  obtain ⟨e4, m4, v1, v2, v3, v4, v5⟩ := sh_183n (x1 := Int32.ofNat v) (x4 := x4) (x6 := Int32.ofNat (u + n)) (s := n - 1 - t) (S := fun j p => sh_dS (fun j => R j p) (F (n - 1 - t) p) j) (ff := fun p => sh_dF (sh_dS (fun j => R j p) (F (n - 1 - t) p)) (fun j => H j p) n) hu hn (by omega) hub (by omega) o2 (fun j hj => by
    have := ((a4 j (by omega)).app2 (m2 := m2) (e2 := e2) (by rw [b6])).app2 (m2 := m3) (e2 := e3) (by rw [o6])
    exact this) (fun j hj => (b7 j hj).app2 (m2 := m3) (e2 := e3) (by rw [o7])) o3 o4
  have hass : (e4 ++ (e3 ++ e2)) ++ e = e4 ++ (e3 ++ (e2 ++ e)) := by simp only [List.append_assoc]
  refine ⟨e4 ++ (e3 ++ e2), m4, ?_, ?_, ?_, ?_, ?_⟩
  · refine a1 _ (b1 _ ?_)
    unfold sf_183_133s
    rw [if_neg (sh_nlt0 n), show (0 : Int32) = Int32.ofNat 0 from rfl, sh_max (by omega) (by omega), Nat.max_eq_right (Nat.zero_le n), if_pos ((sh_okn (by omega)).mpr (by omega)), sh_nIc (by omega), s1, o1]
    show sh_up (sf_183_253 _ _ _ _ _ _ (Int32.ofNat ft) 0 m3) = _
    rw [v1]
    rfl
  · rw [hass]; exact v2.more (by omega)
  · intro j hj
    rw [v3 j hj, o5, b5, a3]
  · rw [hass]; exact v4
  · intro j hj
    rw [hass]
    exact v5 j hj
theorem sh_neg1 : Int32.ofNat 0 + (-1) = -1 := by decide
/-- Reckoner.divideSizes -/
theorem sh_183 {gs : sh_gL} {u v w n : Nat} {r : Bool} {m : sh_X} {F H : Nat → (Nat → Bool) → Bool} (h : sh_RS gs u m) (h46 : m.T[46]? = some (.inl (0, 65))) (hx : sh_val m gs u v n F) (hy : sh_val m gs u w n H) (h1n : 1 ≤ n) (hn : n ≤ 64) (hub : u + 2 * n ≤ 8192) (hl : gs.length + (n + (8 * n + 3) * n) ≤ 65536) :
    sh_rop (n + (8 * n + 3) * n) (2 * n) n gs u m (sf_183 (Int32.ofNat v) (Int32.ofNat w) (Int32.ofNat n) r m) (fun j p => if r = true then sh_dR (fun j => F j p) (fun j => H j p) n n j else sh_dF (sh_dS (sh_dR (fun j => F j p) (fun j => H j p) n (n - 1 - j)) (F j p)) (fun j => H j p) n) := by
  have hu := h.2.2.1
  have hw := hx.1
  have hw2 := hy.1
  obtain ⟨m1, a1, a2, a3, a4⟩ := sh_98 (n := n) h (by omega)
  obtain ⟨m2, b1, b2, b3, b4⟩ := sh_98 (n := n) a2 (by omega)
  have hu2 : u + n + n = u + 2 * n := by omega
  rw [hu2] at b2
  have c0 : sh_cx 0 gs u (2 * n) m [] m2 := sh_RI_0 b2 (a3.trans b3) (fun j => (b4 j).trans (a4 j))
  have t46 : sh_ln m2.T 46 = 65 := sh_ln_of (b3.T 46 _ (by omega) (a3.T 46 _ (by omega) h46))
  have c1 := c0.wrI (I2 := sh_fl m2.I 46 65 0) (fun c q1 q2 => by funext i; unfold sh_fl; rw [if_neg q1])
  have hfl : sf_184 46 0 m2 = some ((), (m2.T, sh_fl m2.I 46 65 0, m2.J, m2.s)) := by
    unfold sf_184
    rw [t46]
  have hz : ∀ j, j < n → sh_ce (m2.T, sh_fl m2.I 46 65 0, m2.J, m2.s) ([] ++ gs) 46 j (fun p => sh_dR (fun j => F j p) (fun j => H j p) n 0 j) := fun j hj =>
    ⟨0, by show sh_fl m2.I 46 65 0 46 j = _; unfold sh_fl; rw [if_pos rfl, if_pos (by omega)]; rfl, by show 0 < gs.length; have := h.1.1; omega, fun p => h.1.v0 p⟩
  unfold sf_183
  rw [a1]
  show sh_rop _ _ _ _ _ _ (sh_bn (sf_98 (Int32.ofNat n) m1) _) _
  rw [b1]
  rw [sh_bn_some, hfl, sh_bn_some]
  rw [show (64 : Int32) = Int32.ofNat 64 from rfl, sh_min (by omega) (by omega), Nat.min_eq_left hn]
  -- the bits of y are turned
  unfold sf_183_33
  obtain ⟨⟨c, m3⟩, ⟨e3, q1, q2, q3, q4⟩, q6⟩ := sh_loop (f := fun q => sf_183_33s (Int32.ofNat v) (Int32.ofNat w) r (Int32.ofNat u) (Int32.ofNat (u + n)) (Int32.ofNat n) q.1 q.2) (n := n) (i := 0) (s := (0, (m2.T, sh_fl m2.I 46 65 0, m2.J, m2.s)))
    (fun i s => ∃ e, s.1 = Int32.ofNat i ∧ sh_cx (1 * i) gs u (2 * n) m e s.2 ∧ (∀ j, j < i → sh_ce s.2 (e ++ gs) 45 (u + n + j) (fun p => !H j p)) ∧ ∀ j, j < n → sh_ce s.2 (e ++ gs) 46 j (fun p => sh_dR (fun j => F j p) (fun j => H j p) n 0 j)) (by
      rintro i ⟨c, m2⟩ hi ⟨e, r1, hR, r3, r4⟩
      have r1 : c = Int32.ofNat i := r1
      subst r1
      have hR : sh_cx (1 * i) gs u (2 * n) m e m2 := hR
      have hlt := (sh_nIlt (a := i) (b := n) (by omega) (by omega)).mpr hi
      have rm := hR.room (N := 1) (by omega)
      obtain ⟨y, y1, y2, y3⟩ := sh_RI.bit hR (hy.2 i hi) (by omega)
      obtain ⟨e2, o, m3, k1, k2, k3, k4, k5, k6, k7⟩ := hR.op (sh_xor1 (k := 1) hR.rs.1 y2 (by omega) y3 (by omega))
      obtain ⟨m4, s1, s2, s3, s4, s5, s6⟩ := k2.set (i := n + i) hu (by omega) k3
      rw [← Nat.add_assoc] at s1 s3 s4
      refine ⟨(Int32.ofNat i + 1, m4), ?_, e2 ++ e, sh_nI1, s2.more (by omega), fun j hj => ?_, fun j hj => ?_⟩
      · show sf_183_33s _ _ _ _ _ _ (Int32.ofNat i) m2 = _
        unfold sf_183_33s
        rw [if_pos hlt, sh_nIadd, y1]
        show sh_bn (sf_130 (Int32.ofNat y) (Int32.ofNat 1) m2) _ = _
        rw [k1]
        show sh_bn (sf_100 (Int32.ofNat (u + n) + Int32.ofNat i) (Int32.ofNat o) m3) _ = _
        rw [sh_nIadd, s1]
        rfl
      · by_cases hji : j = i
        · subst hji
          exact ⟨o, s3, k3, fun p => (k4 p).trans (by simp)⟩
        · exact (r3 j (by omega)).app2 (by show m4.I 45 (u + n + j) = m2.I 45 (u + n + j); rw [s4 _ (by omega), k5])
      · exact (r4 j hj).app2 (by show m4.I 46 j = m2.I 46 j; rw [s5, k6])) (Nat.zero_le _) ⟨[], rfl, c1, fun j hj => absurd hj (by omega), hz⟩
  have q1 : c = Int32.ofNat n := q1
  subst q1
  have q2 : sh_cx (1 * n) gs u (2 * n) m e3 m3 := q2
  -- the steps
  obtain ⟨⟨c, m4⟩, ⟨e4, t1, t2, t3, t4, t5⟩, t6⟩ := sh_loop (f := fun q => sf_183_77s (Int32.ofNat v) r (Int32.ofNat u) (Int32.ofNat (u + n)) (Int32.ofNat n) q.1 q.2) (n := n) (i := 0) (s := (Int32.ofNat (n - 1), m3))
    (fun t s => ∃ e, (s.1 = if t < n then Int32.ofNat (n - 1 - t) else -1) ∧ sh_cx (1 * n + (8 * n + 3) * t) gs u (2 * n) m e s.2 ∧ (∀ j, j < n → sh_ce s.2 (e ++ gs) 45 (u + n + j) (fun p => !H j p)) ∧ (∀ j, j < n → sh_ce s.2 (e ++ gs) 46 j (fun p => sh_dR (fun j => F j p) (fun j => H j p) n t j)) ∧ ∀ j, n - t ≤ j → j < n → sh_ce s.2 (e ++ gs) 45 (u + j) (fun p => sh_dF (sh_dS (sh_dR (fun j => F j p) (fun j => H j p) n (n - 1 - j)) (F j p)) (fun j => H j p) n)) (by
      rintro t ⟨c, m2⟩ hi ⟨e, r1, hR, r3, r4, r5⟩
      have r1 : c = if t < n then Int32.ofNat (n - 1 - t) else -1 := r1
      rw [if_pos hi] at r1
      subst r1
      have hm := sh_mul_lt (K := 8 * n + 3) (g := gs.length + n) hi (by omega)
      obtain ⟨e2, m5, k1, k2, k3, k4, k5⟩ := sh_183t (x4 := r) (R := fun j p => sh_dR (fun j => F j p) (fun j => H j p) n t j) h hx hn hi hub (by omega) hR r4 r3
      refine ⟨(Int32.ofNat (n - 1 - t) + (-1), m5), ?_, e2 ++ e, ?_, k2.more (by rw [Nat.mul_succ]; omega), fun j hj => ?_, fun j hj => ?_, fun j hj1 hj2 => ?_⟩
      · show sf_183_77s _ _ _ _ _ (Int32.ofNat (n - 1 - t)) m2 = _
        unfold sf_183_77s
        rw [if_neg (sh_nI0 (by omega)), k1]
      · show Int32.ofNat (n - 1 - t) + (-1) = _
        by_cases hlast : t + 1 < n
        · rw [if_pos hlast, sh_nIm1 (by omega), show n - 1 - (t + 1) = n - 1 - t - 1 by omega]
        · rw [if_neg hlast, show n - 1 - t = 0 by omega]; exact sh_neg1
      · exact (r3 j hj).app2 (by show m5.I 45 (u + n + j) = m2.I 45 (u + n + j); rw [k3 _ (by omega)])
      · exact k5 j hj
      · by_cases hjt : j = n - 1 - t
        · rw [hjt]
          have e0 : n - 1 - (n - 1 - t) = t := by omega
          rw [e0]
          exact k4
        · exact (r5 j (by omega) hj2).app2 (by show m5.I 45 (u + j) = m2.I 45 (u + j); rw [k3 _ (by omega)])) (Nat.zero_le _) ⟨e3, by rw [if_pos (by omega), Nat.sub_zero], q2.more (by omega), q3, q4, fun j h1 h2 => absurd h1 (by omega)⟩
  have t1 : c = if n < n then _ else -1 := t1
  rw [if_neg (Nat.lt_irrefl n)] at t1
  subst t1
  have t2 : sh_cx (1 * n + (8 * n + 3) * n) gs u (2 * n) m e4 m4 := t2
  -- the answer
  have fin : ∃ m5, sf_183_341 r (Int32.ofNat u) (Int32.ofNat n) 0 m4 = some (Int32.ofNat u, m5) ∧ sh_cx (1 * n + (8 * n + 3) * n) gs u (2 * n) m e4 m5 ∧ ∀ j, j < n → sh_ce m5 (e4 ++ gs) 45 (u + j) (fun p => if r = true then sh_dR (fun j => F j p) (fun j => H j p) n n j else sh_dF (sh_dS (sh_dR (fun j => F j p) (fun j => H j p) n (n - 1 - j)) (F j p)) (fun j => H j p) n) := by
    unfold sf_183_341
    by_cases hr : r = true
    · obtain ⟨⟨c, m5⟩, ⟨w1, w2, w3, w4⟩, w6⟩ := sh_loop (f := fun q => sf_183_341s r (Int32.ofNat u) (Int32.ofNat n) q.1 q.2) (n := n) (i := 0) (s := (0, m4))
        (fun i s => s.1 = Int32.ofNat i ∧ sh_cx (1 * n + (8 * n + 3) * n) gs u (2 * n) m e4 s.2 ∧ s.2.I 46 = m4.I 46 ∧ ∀ j, j < i → sh_ce s.2 (e4 ++ gs) 45 (u + j) (fun p => sh_dR (fun j => F j p) (fun j => H j p) n n j)) (by
          rintro i ⟨c, m2⟩ hi ⟨r1, hR, r3, r4⟩
          have r1 : c = Int32.ofNat i := r1
          subst r1
          have r3 : m2.I 46 = m4.I 46 := r3
          have hlt := (sh_nIlt (a := i) (b := n) (by omega) (by omega)).mpr hi
          obtain ⟨x, x1, x2, x3⟩ := t4 i hi
          obtain ⟨m5, s1, s2, s3, s4, s5, s6⟩ := sh_cx.set hR (i := i) hu (by omega) x2
          refine ⟨(Int32.ofNat i + 1, m5), ?_, sh_nI1, s2, s5.trans r3, fun j hj => ?_⟩
          · show sf_183_341s _ _ _ (Int32.ofNat i) m2 = _
            unfold sf_183_341s
            rw [if_pos hr, if_pos hlt, if_pos ((sh_okn (by omega)).mpr (by omega)), sh_nIc (by omega), show m2.I 46 i = Int32.ofNat x by rw [r3]; exact x1, sh_nIadd, s1]
            rfl
          · by_cases hji : j = i
            · subst hji; exact ⟨x, s3, x2, x3⟩
            · obtain ⟨y, y1, y2, y3⟩ := r4 j (by omega)
              exact ⟨y, by show m5.I 45 (u + j) = _; rw [s4 _ (by omega)]; exact y1, y2, y3⟩) (Nat.zero_le _) ⟨rfl, t2, rfl, fun j hj => absurd hj (by omega)⟩
      have w1 : c = Int32.ofNat n := w1
      subst w1
      refine ⟨m5, w6 _ ?_, w2, fun j hj => ?_⟩
      · show sf_183_341s _ _ _ (Int32.ofNat n) m5 = _
        unfold sf_183_341s
        rw [if_pos hr, if_neg (sh_nlt0 n)]
      · obtain ⟨y, y1, y2, y3⟩ := w4 j hj
        exact ⟨y, y1, y2, fun p => (y3 p).trans (if_pos hr).symm⟩
    · refine ⟨m4, ?_, t2, fun j hj => ?_⟩
      · rw [sh_while_eq]
        have : sf_183_341s r (Int32.ofNat u) (Int32.ofNat n) 0 m4 = some (.inr (Int32.ofNat u, m4)) := by
          unfold sf_183_341s
          rw [if_neg hr]
        simp only [this]
      · obtain ⟨y, y1, y2, y3⟩ := t5 j (by omega) hj
        exact ⟨y, y1, y2, fun p => (y3 p).trans (if_neg hr).symm⟩
  obtain ⟨m5, f1, f2, f3⟩ := fin
  refine ⟨e4, u, u + 2 * n, m5, q6 _ ?_, f2.rs, by omega, by omega, f2.fr, f2.po, by have := f2.le; omega, by omega, fun j hj => ?_⟩
  · show sf_183_33s _ _ _ _ _ _ (Int32.ofNat n) m3 = _
    unfold sf_183_33s sf_183_77
    rw [if_neg (sh_nlt0 n), show Int32.ofNat n - 1 = Int32.ofNat (n - 1) from sh_nIs (b := 1) (by omega), t6 (Int32.ofNat u, m5) (by
      show sf_183_77s _ _ _ _ _ (-1) m4 = _
      unfold sf_183_77s
      rw [if_pos sh_mlt, f1]
      rfl)]
    rfl
  · obtain ⟨y, y1, y2, y3⟩ := f3 j hj
    exact ⟨y, ⟨y1, y2⟩, y3⟩
