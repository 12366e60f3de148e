/-! division: entries of the Reckoner's arrays, and operations that keep them -/
/-- the entry i of the cell c is a wire worth f -/
def sh_ce (m : sh_X) (gs : sh_gL) (c i : Nat) (f : (Nat → Bool) → Bool) : Prop := ∃ x, m.I c i = Int32.ofNat x ∧ x < gs.length ∧ ∀ p, sh_va p gs x = f p
theorem sh_ce.app {m m2 : sh_X} {e gs : sh_gL} {c i : Nat} {f : (Nat → Bool) → Bool} (h : sh_ce m gs c i f) (hc : m2.I c i = m.I c i) : sh_ce m2 (e ++ gs) c i f := by
  obtain ⟨x, h1, h2, h3⟩ := h
  exact ⟨x, hc.trans h1, sh_lt_app h2, fun p => by rw [sh_va_ext p _ h2]; exact h3 p⟩
theorem sh_ce.app2 {m m2 : sh_X} {e2 e gs : sh_gL} {c i : Nat} {f : (Nat → Bool) → Bool} (h : sh_ce m (e ++ gs) c i f) (hc : m2.I c i = m.I c i) : sh_ce m2 ((e2 ++ e) ++ gs) c i f := by
  rw [List.append_assoc]
  exact h.app hc
/-- the state in the midst of a division -/
def sh_cx (L : Nat) (gs : sh_gL) (u N : Nat) (m0 : sh_X) (e : sh_gL) (m : sh_X) : Prop := sh_RI L sh_Fz gs u N m0 0 e m
theorem sh_cx.op {L N N2 : Nat} {gs : sh_gL} {u : Nat} {m0 : sh_X} {e : sh_gL} {m : sh_X} {q : Option (Int32 × sh_X)} {f : (Nat → Bool) → Bool} (h : sh_cx L gs u N m0 e m) (hq : sh_gop N2 (e ++ gs) m q f) :
    ∃ e2 r m2, q = some (Int32.ofNat r, m2) ∧ sh_cx (L + N2) gs u N m0 (e2 ++ e) m2 ∧ r < ((e2 ++ e) ++ gs).length ∧ (∀ p, sh_va p ((e2 ++ e) ++ gs) r = f p) ∧ m2.I 45 = m.I 45 ∧ m2.I 46 = m.I 46 ∧ m2.I 47 = m.I 47 := by
  obtain ⟨e2, r, m2, h1, h2, h3, h4, h5, h6⟩ := hq
  exact ⟨e2, r, m2, h1, h.gop h2 h3 h4, by rw [List.append_assoc]; exact h5, fun p => by rw [List.append_assoc]; exact h6 p, h3.I 45 (by omega) (by omega) (by omega) (by omega) (by omega), h3.I 46 (by omega) (by omega) (by omega) (by omega) (by omega), h3.I 47 (by omega) (by omega) (by omega) (by omega) (by omega)⟩
/-- rest and less are written -/
theorem sh_cx.wr {L N : Nat} {gs : sh_gL} {u : Nat} {m0 : sh_X} {e : sh_gL} {m : sh_X} {c i : Nat} {x : Int32} (h : sh_cx L gs u N m0 e m) (hc : c = 46 ∨ c = 47) : sh_cx L gs u N m0 e (m.T, sh_u2 m.I c i x, m.J, m.s) := by
  have e45 : sh_u2 m.I c i x 45 = m.I 45 := sh_u2_cell (by omega)
  have e44 : sh_u2 m.I c i x 44 = m.I 44 := sh_u2_cell (by omega)
  obtain ⟨r1, r2, r3, r4, r5, r6⟩ := h.rs
  refine sh_RI.mk (rs := ⟨r1.wr (by omega) (by omega) (by omega) (by omega) (by omega), ?_, r3, r4, ⟨?_, r5.2⟩, ⟨?_, r6.2⟩⟩) (fr := h.fr.trans (sh_Rf.wr (by omega))) (po := fun j hj => ?_) (le := h.le) (rb := fun j hj => absurd hj (by omega))
  · show sh_u2 m.I c i x 44 4 = _
    rw [e44]; exact r2
  · show sh_u2 m.I c i x 45 0 = _
    rw [e45]; exact r5.1
  · show sh_u2 m.I c i x 45 1 = _
    rw [e45]; exact r6.1
  · show sh_u2 m.I c i x 45 j = _
    rw [e45]; exact h.po j hj
theorem sh_cx.set {L N : Nat} {gs : sh_gL} {u : Nat} {m0 : sh_X} {i : Nat} {e : sh_gL} {m : sh_X} {x : Nat} (h : sh_cx L gs u N m0 e m) (hu : 2 ≤ u) (hi : i < N) (hx : x < (e ++ gs).length) :
    ∃ m2, sf_100 (Int32.ofNat (u + i)) (Int32.ofNat x) m = some ((), m2) ∧ sh_cx L gs u N m0 e m2 ∧ m2.I 45 (u + i) = Int32.ofNat x ∧ (∀ j, j ≠ u + i → m2.I 45 j = m.I 45 j) ∧ m2.I 46 = m.I 46 ∧ m2.I 47 = m.I 47 := by
  have hr := h.rs
  obtain ⟨r1, r2, r3, r4, r5, r6⟩ := hr
  obtain ⟨m2, a1, a2, a3, a4, a5⟩ := sh_100 h.rs (i := u + i) (by omega) (by omega) hx
  have e46 : m2.I 46 = m.I 46 ∧ m2.I 47 = m.I 47 := by
    have a1 := a1
    unfold sf_100 at a1
    rw [if_pos (show (1 : Int32) < Int32.ofNat (u + i) from (sh_nIlt (a := 1) (by omega) (by omega)).mpr (by omega)), r2, if_pos ((sh_nIlt (by omega) (by omega)).mpr (by omega)), if_pos ((sh_okn (by omega)).mpr (by omega))] at a1
    have := (Prod.mk.inj (Option.some.inj a1)).2
    rw [← this]
    exact ⟨sh_u2_cell (I := m.I) (a := 45) (b := 46) (i := (Int32.ofNat (u + i)).toNatClampNeg) (x := Int32.ofNat x) (by decide), sh_u2_cell (I := m.I) (a := 45) (b := 47) (i := (Int32.ofNat (u + i)).toNatClampNeg) (x := Int32.ofNat x) (by decide)⟩
  exact ⟨m2, a1, sh_RI.mk (rs := a2) (fr := h.fr.trans a3) (po := fun j hj => by rw [a5 j (by omega)]; exact h.po j hj) (le := h.le) (rb := fun j hj => absurd hj (by omega)), a4.1, a5, e46⟩
theorem sh_cx.wire {L N : Nat} {gs : sh_gL} {u : Nat} {m0 : sh_X} {e : sh_gL} {m : sh_X} {i : Nat} {f : (Nat → Bool) → Bool} (h : sh_cx L gs u N m0 e m) (hi : i < u + N) (hb : sh_ce m (e ++ gs) 45 i f) : ∃ x, sf_103 (Int32.ofNat i) m = some (Int32.ofNat x) ∧ x < (e ++ gs).length ∧ ∀ p, sh_va p (e ++ gs) x = f p := by
  obtain ⟨x, h1, h2, h3⟩ := hb
  exact ⟨x, sh_103 h.rs hi ⟨h1, h2⟩, h2, h3⟩
/-- the subtraction of a step: carries, and what is left -/
theorem sh_183c {L n : Nat} {gs : sh_gL} {u : Nat} {x1 x5 x8 : Int32} {x4 : Bool} {m0 : sh_X} {e : sh_gL} {m : sh_X} {S B : Nat → (Nat → Bool) → Bool} (hu : 2 ≤ u) (hn : n ≤ 64) (hub : u + 2 * n ≤ 8192) (hl : gs.length + (L + 5 * n) ≤ 65536) (h : sh_cx L gs u (2 * n) m0 e m) (hS : ∀ j, j ≤ n → sh_ce m (e ++ gs) 46 j (S j)) (hB : ∀ j, j < n → sh_ce m (e ++ gs) 45 (u + n + j) (B j)) :
    ∃ e2 c m2, (∀ r, (sf_183_133s x1 x4 x5 (Int32.ofNat (u + n)) (Int32.ofNat n) x8 (Int32.ofNat c) (Int32.ofNat n) m2 = some (.inr r)) → sf_183_133 x1 x4 x5 (Int32.ofNat (u + n)) (Int32.ofNat n) x8 1 0 m = some r) ∧ sh_cx (L + 5 * n) gs u (2 * n) m0 (e2 ++ e) m2 ∧ c < ((e2 ++ e) ++ gs).length ∧ (∀ p, sh_va p ((e2 ++ e) ++ gs) c = sh_cy (fun j => S j p) (fun j => B j p) true n) ∧ m2.I 45 = m.I 45 ∧ m2.I 46 = m.I 46 ∧ ∀ j, j < n → sh_ce m2 ((e2 ++ e) ++ gs) 47 j (fun p => Bool.xor (Bool.xor (S j p) (sh_cy (fun j => S j p) (fun j => B j p) true j)) (B j p)) := by
  have h2 := h.rs.1.1
  unfold sf_183_133
  obtain ⟨⟨a, c, m2⟩, ⟨e2, q1, q2, ⟨c0, q3, q4, q5⟩, q6, q7, q8⟩, q9⟩ := sh_loop (f := fun q => sf_183_133s x1 x4 x5 (Int32.ofNat (u + n)) (Int32.ofNat n) x8 q.1 q.2.1 q.2.2) (n := n) (i := 0) (s := (1, 0, m))
    (fun i s => ∃ e2, s.2.1 = Int32.ofNat i ∧ sh_cx (L + 5 * i) gs u (2 * n) m0 (e2 ++ e) s.2.2 ∧ sh_isC (fun i p => sh_cy (fun j => S j p) (fun j => B j p) true i) i s.1 ((e2 ++ e) ++ gs) ∧ s.2.2.I 45 = m.I 45 ∧ s.2.2.I 46 = m.I 46 ∧ ∀ j, j < i → sh_ce s.2.2 ((e2 ++ e) ++ gs) 47 j (fun p => Bool.xor (Bool.xor (S j p) (sh_cy (fun j => S j p) (fun j => B j p) true j)) (B j p))) (by
      rintro i ⟨a, c, m2⟩ hi ⟨e2, r1, hR, ⟨c0, r3, r4, r5⟩, r6, r7, r8⟩
      have r1 : c = Int32.ofNat i := r1
      have r3 : a = Int32.ofNat c0 := r3
      subst r1
      subst r3
      have r6 : m2.I 45 = m.I 45 := r6
      have r7 : m2.I 46 = m.I 46 := r7
      have hR : sh_cx (L + 5 * i) gs u (2 * n) m0 (e2 ++ e) m2 := hR
      have r8 : ∀ j, j < i → sh_ce m2 ((e2 ++ e) ++ gs) 47 j _ := r8
      have hlt := (sh_nIlt (a := i) (b := n) (by omega) (by omega)).mpr hi
      have rm := hR.room (N := 5) (by omega)
      obtain ⟨b, b1, b2, b3⟩ := hR.wire (i := u + n + i) (by omega) ((hB i hi).app2 (by rw [r6]))
      obtain ⟨s, s1, s2, s3⟩ := (hS i (by omega)).app2 (m2 := m2) (e2 := e2) (by rw [r7])
      obtain ⟨e3, l, m3, k1, k2, k3, k4, k5, k6, k7⟩ := hR.op (sh_130' hR.rs.1 s2 r4 (by omega) s3 r5)
      obtain ⟨c1, c2⟩ := sh_keep (e2 := e3) r4 r5
      obtain ⟨b4, b5⟩ := sh_keep (e2 := e3) b2 b3
      have rm1 := k2.room (N := 4) (by omega)
      obtain ⟨e4, rr, m4, l1, l2, l3, l4, l5, l6, l7⟩ := k2.op (sh_130' k2.rs.1 b4 c1 (by omega) b5 c2)
      obtain ⟨c3, c4⟩ := sh_keep (e2 := e4) c1 c2
      obtain ⟨b6, b7⟩ := sh_keep (e2 := e4) b4 b5
      obtain ⟨k8, k9⟩ := sh_keep (e2 := e4) k3 k4
      have rm2 := l2.room (N := 3) (by omega)
      obtain ⟨e5, ls, m5, o1, o2, o3, o4, o5, o6, o7⟩ := l2.op (sh_130' l2.rs.1 k8 b6 (by omega) k9 b7)
      have w := o2.wr (c := 47) (i := i) (x := Int32.ofNat ls) (Or.inr rfl)
      obtain ⟨c5, c6⟩ := sh_keep (e2 := e5) c3 c4
      obtain ⟨l8, l9⟩ := sh_keep (e2 := e5) l3 l4
      obtain ⟨k10, k11⟩ := sh_keep (e2 := e5) k8 k9
      have rm3 := w.room (N := 2) (by omega)
      obtain ⟨e6, an, m6, v1, v2, v3, v4, v5, v6, v7⟩ := w.op (sh_132' w.rs.1 k10 l8 (by omega) k11 l9)
      obtain ⟨c7, c8⟩ := sh_keep (e2 := e6) c5 c6
      have rm4 := v2.room (N := 1) (by omega)
      obtain ⟨e7, cr, m7, y1, y2, y3, y4, y5, y6, y7⟩ := v2.op (sh_130' v2.rs.1 v3 c7 (by omega) v4 c8)
      have hass : (e7 ++ (e6 ++ (e5 ++ (e4 ++ (e3 ++ e2))))) ++ e = e7 ++ (e6 ++ (e5 ++ (e4 ++ (e3 ++ (e2 ++ e))))) := by simp only [List.append_assoc]
      have e45 : m7.I 45 = m.I 45 := by
        rw [y5, v5]
        show sh_u2 m5.I 47 i (Int32.ofNat ls) 45 = _
        rw [sh_u2_cell (by omega), o5, l5, k5, r6]
      have e46 : m7.I 46 = m.I 46 := by
        rw [y6, v6]
        show sh_u2 m5.I 47 i (Int32.ofNat ls) 46 = _
        rw [sh_u2_cell (by omega), o6, l6, k6, r7]
      have e47 : m7.I 47 = sh_u2 m5.I 47 i (Int32.ofNat ls) 47 := by rw [y7, v7]
      have e47b : m5.I 47 = m2.I 47 := by rw [o7, l7, k7]
      refine ⟨(Int32.ofNat cr, Int32.ofNat i + 1, m7), ?_, e7 ++ (e6 ++ (e5 ++ (e4 ++ (e3 ++ e2)))), sh_nI1, by rw [hass]; exact y2.more (by omega), ⟨cr, rfl, by rw [hass]; exact y3, fun p => by rw [hass, y4 p]; rfl⟩, e45, e46, fun j hj => ?_⟩
      · show sf_183_133s x1 x4 x5 (Int32.ofNat (u + n)) (Int32.ofNat n) x8 (Int32.ofNat c0) (Int32.ofNat i) m2 = _
        unfold sf_183_133s
        rw [if_pos hlt, sh_nIadd, b1]
        show (if sh_okb (Int32.ofNat i) 65 = true then _ else none) = _
        rw [if_pos ((sh_okn (by omega)).mpr (by omega)), sh_nIc (by omega), s1, k1]
        show sh_bn (sf_130 (Int32.ofNat b) (Int32.ofNat c0) m3) _ = _
        rw [l1]
        show sh_bn (sf_130 (Int32.ofNat l) (Int32.ofNat b) m4) _ = _
        rw [o1]
        show (if sh_okb (Int32.ofNat i) 64 = true then sh_bn (sf_132 (Int32.ofNat l) (Int32.ofNat rr) (m5.T, sh_u2 m5.I 47 i (Int32.ofNat ls), m5.J, m5.s)) _ else none) = _
        rw [if_pos ((sh_okn (by omega)).mpr (by omega)), v1]
        show sh_bn (sf_130 (Int32.ofNat an) (Int32.ofNat c0) m6) _ = _
        rw [y1]
        rfl
      · by_cases hji : j = i
        · subst hji
          obtain ⟨o8, o9⟩ := sh_keep (e2 := e7 ++ e6) (e := e5 ++ (e4 ++ (e3 ++ (e2 ++ e)))) (gs := gs) o3 o4
          refine ⟨ls, ?_, ?_, fun p => ?_⟩
          · show m7.I 47 j = _
            rw [e47, sh_u2_same]
          · rw [hass]; rw [List.append_assoc e7 e6] at o8; exact o8
          · rw [hass]; rw [List.append_assoc e7 e6] at o9; exact (o9 p).trans rfl
        · have := (r8 j (by omega)).app2 (m2 := m7) (e2 := e7 ++ (e6 ++ (e5 ++ (e4 ++ e3)))) (by rw [e47, sh_u2_idx hji, e47b])
          have h3 : (e7 ++ (e6 ++ (e5 ++ (e4 ++ (e3 ++ e2))))) ++ e = (e7 ++ (e6 ++ (e5 ++ (e4 ++ e3)))) ++ (e2 ++ e) := by simp only [List.append_assoc]
          rw [h3]
          exact this) (Nat.zero_le _) ⟨[], rfl, h, ⟨1, rfl, by show 1 < (e ++ gs).length; omega, fun p => h.rs.1.v1 p⟩, rfl, rfl, fun j hj => absurd hj (by omega)⟩
  have q1 : c = Int32.ofNat n := q1
  have q3 : a = Int32.ofNat c0 := q3
  subst q1
  subst q3
  exact ⟨e2, c0, m2, fun r hr => q9 r hr, q2, q4, q5, q6, q7, q8⟩
