/-! division: a step -/
def sh_dS (R : Nat → Bool) (x : Bool) (j : Nat) : Bool := if j = 0 then x else R (j - 1)
def sh_dF (S b : Nat → Bool) (n : Nat) : Bool := S n || sh_cy S (fun j => !b j) true n
def sh_dN (S b : Nat → Bool) (n j : Nat) : Bool := if sh_dF S b n = true then Bool.xor (Bool.xor (S j) (sh_cy S (fun j => !b j) true j)) (!b j) else S j
/-- what is left of x behind t steps -/
def sh_dR (a b : Nat → Bool) (n : Nat) : Nat → Nat → Bool
  | 0 => fun _ => false
  | t + 1 => sh_dN (sh_dS (sh_dR a b n t) (a (n - 1 - t))) b n
theorem sh_nIm1 {a : Nat} (h : 1 ≤ a) : Int32.ofNat a + (-1) = Int32.ofNat (a - 1) := by
  have : Int32.ofNat a = Int32.ofNat (a - 1) + 1 := by rw [sh_nI1]; congr 1; omega
  rw [this]
  simp [Int32.add_assoc]
theorem sh_wrI {m : sh_X} {c i b : Nat} {x : Int32} (h : b ≠ c) : sh_X.I (m.T, sh_u2 m.I c i x, m.J, m.s) b = m.I b := sh_u2_cell h
theorem sh_wrI' {m : sh_X} {c i : Nat} {x : Int32} : sh_X.I (m.T, sh_u2 m.I c i x, m.J, m.s) c i = x := sh_u2_same
/-- rest moves up by one, and the bit x comes in -/
theorem sh_183s {L n : Nat} {gs : sh_gL} {u k : Nat} {x1 x5 x6 x8 : Int32} {x4 : Bool} {m0 : sh_X} {e : sh_gL} {m : sh_X} {R : Nat → (Nat → Bool) → Bool} {fx : (Nat → Bool) → Bool} (hn : n ≤ 64) (h : sh_cx L gs u (2 * n) m0 e m) (hR : ∀ j, j < n → sh_ce m (e ++ gs) 46 j (R j)) (hk : sf_103 (x1 + x8) m = some (Int32.ofNat k)) (hk2 : k < (e ++ gs).length) (hk3 : ∀ p, sh_va p (e ++ gs) k = fx p) (hw : ∀ m2, m2.I 45 = m.I 45 → m2.I 44 = m.I 44 → sf_103 (x1 + x8) m2 = some (Int32.ofNat k)) :
    ∃ m2, (∀ r, sf_183_133 x1 x4 x5 x6 (Int32.ofNat n) x8 1 0 m2 = some r → sf_183_86 x1 x4 x5 x6 (Int32.ofNat n) x8 (Int32.ofNat n) m = some r) ∧ sh_cx L gs u (2 * n) m0 e m2 ∧ m2.I 45 = m.I 45 ∧ ∀ j, j ≤ n → sh_ce m2 (e ++ gs) 46 j (fun p => sh_dS (fun j => R j p) (fx p) j) := by
  unfold sf_183_86
  obtain ⟨⟨c, m2⟩, ⟨q1, q2, q3, q4, q5⟩, q6⟩ := sh_loop (f := fun q => sf_183_86s x1 x4 x5 x6 (Int32.ofNat n) x8 q.1 q.2) (n := n) (i := 0) (s := (Int32.ofNat n, m))
    (fun i s => s.1 = Int32.ofNat (n - i) ∧ sh_cx L gs u (2 * n) m0 e s.2 ∧ s.2.I 45 = m.I 45 ∧ s.2.I 44 = m.I 44 ∧ ∀ j, s.2.I 46 j = if n - i < j ∧ j ≤ n then m.I 46 (j - 1) else m.I 46 j) (by
      rintro i ⟨c, m2⟩ hi ⟨r1, hR, r3, r4, r5⟩
      have r1 : c = Int32.ofNat (n - i) := r1
      subst r1
      have r3 : m2.I 45 = m.I 45 := r3
      have r4 : m2.I 44 = m.I 44 := r4
      have hR : sh_cx L gs u (2 * n) m0 e m2 := hR
      have r5 : ∀ j, m2.I 46 j = if n - i < j ∧ j ≤ n then m.I 46 (j - 1) else m.I 46 j := r5
      have w := hR.wr (c := 46) (i := n - i) (x := m2.I 46 (n - i - 1)) (Or.inl rfl)
      refine ⟨(Int32.ofNat (n - i) + (-1), (m2.T, sh_u2 m2.I 46 (n - i) (m2.I 46 (n - i - 1)), m2.J, m2.s)), ?_, ?_, w, ?_, ?_, ?_⟩
      · show sf_183_86s x1 x4 x5 x6 (Int32.ofNat n) x8 (Int32.ofNat (n - i)) m2 = _
        unfold sf_183_86s
        rw [if_pos (show (0 : Int32) < Int32.ofNat (n - i) from (sh_nIlt (a := 0) (by omega) (by omega)).mpr (by omega)), show Int32.ofNat (n - i) - 1 = Int32.ofNat (n - i - 1) from sh_nIs (b := 1) (by omega), if_pos ((sh_okn (by omega)).mpr (by omega)), if_pos ((sh_okn (by omega)).mpr (by omega)), sh_nIc (by omega), sh_nIc (by omega)]
      · rw [show n - (i + 1) = n - i - 1 by omega]; exact sh_nIm1 (by omega)
      · exact (sh_wrI (b := 45) (by decide)).trans r3
      · exact (sh_wrI (b := 44) (by decide)).trans r4
      · intro j
        show sh_u2 m2.I 46 (n - i) (m2.I 46 (n - i - 1)) 46 j = _
        by_cases hj : j = n - i
        · rw [hj, sh_u2_same, r5, if_neg (by omega), if_pos (by omega)]
        · rw [sh_u2_idx hj, r5]
          by_cases h1 : n - i < j ∧ j ≤ n
          · rw [if_pos h1, if_pos (by omega)]
          · rw [if_neg h1, if_neg (by omega)]) (Nat.zero_le _) ⟨rfl, h, rfl, rfl, fun j => by rw [if_neg (by omega)]⟩
  have q1 : c = Int32.ofNat (n - n) := q1
  rw [Nat.sub_self] at q1
  subst q1
  have q2 : sh_cx L gs u (2 * n) m0 e m2 := q2
  have q3 : m2.I 45 = m.I 45 := q3
  have q4 : m2.I 44 = m.I 44 := q4
  have q5 : ∀ j, m2.I 46 j = if n - n < j ∧ j ≤ n then m.I 46 (j - 1) else m.I 46 j := q5
  have w := q2.wr (c := 46) (i := 0) (x := Int32.ofNat k) (Or.inl rfl)
  refine ⟨(m2.T, sh_u2 m2.I 46 0 (Int32.ofNat k), m2.J, m2.s), fun r hr => q6 _ ?_, w, (sh_wrI (b := 45) (by decide)).trans q3, fun j hj => ?_⟩
  · show sf_183_86s x1 x4 x5 x6 (Int32.ofNat n) x8 (Int32.ofNat 0) m2 = _
    unfold sf_183_86s
    rw [if_neg (show ¬ (0 : Int32) < Int32.ofNat 0 by decide), hw m2 q3 q4]
    show sh_up (sf_183_133 x1 x4 x5 x6 (Int32.ofNat n) x8 1 0 (m2.T, sh_u2 m2.I 46 0 (Int32.ofNat k), m2.J, m2.s)) = _
    rw [hr]
    rfl
  · by_cases hj0 : j = 0
    · subst hj0
      exact ⟨k, sh_wrI', hk2, hk3⟩
    · obtain ⟨x, x1, x2, x3⟩ := hR (j - 1) (by omega)
      refine ⟨x, ?_, x2, fun p => ?_⟩
      · show sh_u2 m2.I 46 0 _ 46 j = _
        rw [sh_u2_idx hj0, q5, if_pos (by omega), x1]
      · rw [x3 p]
        show _ = if j = 0 then _ else _
        rw [if_neg hj0]
/-- what is left: less where it fits, else rest -/
theorem sh_183n {L n : Nat} {gs : sh_gL} {u ft s : Nat} {x1 x6 : Int32} {x4 : Bool} {m0 : sh_X} {e : sh_gL} {m : sh_X} {S D : Nat → (Nat → Bool) → Bool} {ff : (Nat → Bool) → Bool} (hu : 2 ≤ u) (hn : n ≤ 64) (hs : s < n) (hub : u + 2 * n ≤ 8192) (hl : gs.length + (L + 3 * n) ≤ 65536) (h : sh_cx L gs u (2 * n) m0 e m) (hS : ∀ j, j < n → sh_ce m (e ++ gs) 46 j (S j)) (hD : ∀ j, j < n → sh_ce m (e ++ gs) 47 j (D j)) (hf : ft < (e ++ gs).length) (hff : ∀ p, sh_va p (e ++ gs) ft = ff p) :
    ∃ e2 m2, sf_183_253 x1 x4 (Int32.ofNat u) x6 (Int32.ofNat n) (Int32.ofNat s) (Int32.ofNat ft) 0 m = some (.inl (Int32.ofNat s + (-1), m2)) ∧ sh_cx (L + 3 * n) gs u (2 * n) m0 (e2 ++ e) m2 ∧ (∀ j, j ≠ u + s → m2.I 45 j = m.I 45 j) ∧ sh_ce m2 ((e2 ++ e) ++ gs) 45 (u + s) ff ∧ ∀ j, j < n → sh_ce m2 ((e2 ++ e) ++ gs) 46 j (fun p => if ff p = true then D j p else S j p) := by
  unfold sf_183_253
  obtain ⟨⟨c, m2⟩, ⟨e2, q1, q2, q3, q4, q5⟩, q6⟩ := sh_loop (f := fun q => sf_183_253s x1 x4 (Int32.ofNat u) x6 (Int32.ofNat n) (Int32.ofNat s) (Int32.ofNat ft) q.1 q.2) (n := n) (i := 0) (s := (0, m))
    (fun i s => ∃ e2, s.1 = Int32.ofNat i ∧ sh_cx (L + 3 * i) gs u (2 * n) m0 (e2 ++ e) s.2 ∧ s.2.I 45 = m.I 45 ∧ s.2.I 47 = m.I 47 ∧ ∀ j, j < n → sh_ce s.2 ((e2 ++ e) ++ gs) 46 j (fun p => if j < i then (if ff p = true then D j p else S j p) else S j p)) (by
      rintro i ⟨c, m2⟩ hi ⟨e2, r1, hR, r3, r4, r5⟩
      have r1 : c = Int32.ofNat i := r1
      subst r1
      have r3 : m2.I 45 = m.I 45 := r3
      have r4 : m2.I 47 = m.I 47 := r4
      have hR : sh_cx (L + 3 * i) gs u (2 * n) m0 (e2 ++ e) m2 := hR
      have r5 : ∀ j, j < n → sh_ce m2 ((e2 ++ e) ++ gs) 46 j _ := r5
      have hlt := (sh_nIlt (a := i) (b := n) (by omega) (by omega)).mpr hi
      have rm := hR.room (N := 3) (by omega)
      obtain ⟨a, a1, a2, a3⟩ := (hD i hi).app2 (m2 := m2) (e2 := e2) (by rw [r4])
      obtain ⟨b, b1, b2, b3⟩ := r5 i hi
      have b3 : ∀ p, sh_va p ((e2 ++ e) ++ gs) b = S i p := fun p => (b3 p).trans (if_neg (Nat.lt_irrefl i))
      obtain ⟨f1, f2⟩ := sh_keep (e2 := e2) hf hff
      obtain ⟨e3, o1, m3, k1, k2, k3, k4, k5, k6, k7⟩ := hR.op (sh_130' hR.rs.1 a2 b2 (by omega) a3 b3)
      obtain ⟨f3, f4⟩ := sh_keep (e2 := e3) f1 f2
      have rm1 := k2.room (N := 2) (by omega)
      obtain ⟨e4, o2, m4, l1, l2, l3, l4, l5, l6, l7⟩ := k2.op (sh_132' k2.rs.1 f3 k3 (by omega) f4 k4)
      obtain ⟨b4, b5⟩ := sh_keep (e2 := e3) b2 b3
      obtain ⟨b6, b7⟩ := sh_keep (e2 := e4) b4 b5
      have rm2 := l2.room (N := 1) (by omega)
      obtain ⟨e5, o3, m5, v1, v2, v3, v4, v5, v6, v7⟩ := l2.op (sh_130' l2.rs.1 b6 l3 (by omega) b7 l4)
      have w := v2.wr (c := 46) (i := i) (x := Int32.ofNat o3) (Or.inl rfl)
      have hass : (e5 ++ (e4 ++ (e3 ++ e2))) ++ e = e5 ++ (e4 ++ (e3 ++ (e2 ++ e))) := by simp only [List.append_assoc]
      refine ⟨(Int32.ofNat i + 1, (m5.T, sh_u2 m5.I 46 i (Int32.ofNat o3), m5.J, m5.s)), ?_, e5 ++ (e4 ++ (e3 ++ e2)), sh_nI1, by rw [hass]; exact w.more (by omega), ?_, ?_, fun j hj => ?_⟩
      · show sf_183_253s x1 x4 (Int32.ofNat u) x6 (Int32.ofNat n) (Int32.ofNat s) (Int32.ofNat ft) (Int32.ofNat i) m2 = _
        unfold sf_183_253s
        rw [if_pos hlt, if_pos ((sh_okn (by omega)).mpr (by omega)), if_pos ((sh_okn (by omega)).mpr (by omega)), sh_nIc (by omega), a1, b1, k1]
        show sh_bn (sf_132 (Int32.ofNat ft) (Int32.ofNat o1) m3) _ = _
        rw [l1]
        show (if sh_okb (Int32.ofNat i) 65 = true then sh_bn (sf_130 (m4.I 46 i) (Int32.ofNat o2) m4) _ else none) = _
        rw [if_pos ((sh_okn (by omega)).mpr (by omega)), show m4.I 46 i = Int32.ofNat b by rw [l6, k6]; exact b1, v1]
        show (if sh_okb (Int32.ofNat i) 65 = true then _ else none) = _
        rw [if_pos ((sh_okn (by omega)).mpr (by omega))]
      · exact (sh_wrI (b := 45) (by decide)).trans (by rw [v5, l5, k5]; exact r3)
      · exact (sh_wrI (b := 47) (by decide)).trans (by rw [v7, l7, k7]; exact r4)
      · by_cases hji : j = i
        · subst hji
          refine ⟨o3, sh_wrI', by rw [hass]; exact v3, fun p => ?_⟩
          rw [hass, v4 p]
          show Bool.xor (S j p) (ff p && Bool.xor (D j p) (S j p)) = if j < j + 1 then (if ff p = true then D j p else S j p) else S j p
          rw [if_pos (Nat.lt_succ_self j)]
          cases ff p <;> cases D j p <;> cases S j p <;> rfl
        · have := (r5 j hj).app2 (m2 := (m5.T, sh_u2 m5.I 46 i (Int32.ofNat o3), m5.J, m5.s)) (e2 := e5 ++ (e4 ++ e3)) (by
            show sh_u2 m5.I 46 i _ 46 j = _
            rw [sh_u2_idx hji, v6, l6, k6])
          have h3 : (e5 ++ (e4 ++ (e3 ++ e2))) ++ e = (e5 ++ (e4 ++ e3)) ++ (e2 ++ e) := by simp only [List.append_assoc]
          rw [h3]
          obtain ⟨x, y1, y2, y3⟩ := this
          refine ⟨x, y1, y2, fun p => (y3 p).trans ?_⟩
          show (if j < i then _ else _) = (if j < i + 1 then _ else _)
          by_cases hlt2 : j < i
          · rw [if_pos hlt2, if_pos (show j < i + 1 by omega)]
          · rw [if_neg hlt2, if_neg (show ¬ j < i + 1 by omega)]) (Nat.zero_le _) ⟨[], rfl, h, rfl, rfl, fun j hj => by
            obtain ⟨x, y1, y2, y3⟩ := hS j hj
            exact ⟨x, y1, y2, fun p => (y3 p).trans (if_neg (Nat.not_lt_zero j)).symm⟩⟩
  have q1 : c = Int32.ofNat n := q1
  subst q1
  have q2 : sh_cx (L + 3 * n) gs u (2 * n) m0 (e2 ++ e) m2 := q2
  obtain ⟨f1, f2⟩ := sh_keep (e2 := e2) hf hff
  obtain ⟨m3, s1, s2, s3, s4, s5, s6⟩ := q2.set (i := s) hu (by omega) f1
  have q3 : m2.I 45 = m.I 45 := q3
  refine ⟨e2, m3, q6 _ ?_, s2, fun j hj => by rw [s4 j hj, q3], ⟨ft, s3, f1, f2⟩, fun j hj => ?_⟩
  · show sf_183_253s x1 x4 (Int32.ofNat u) x6 (Int32.ofNat n) (Int32.ofNat s) (Int32.ofNat ft) (Int32.ofNat n) m2 = _
    unfold sf_183_253s
    rw [if_neg (sh_nlt0 n), sh_nIadd, s1]
    rfl
  · obtain ⟨x, y1, y2, y3⟩ := q5 j hj
    exact ⟨x, by rw [s5]; exact y1, y2, fun p => (y3 p).trans (if_pos hj)⟩
