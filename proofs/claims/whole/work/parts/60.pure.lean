/-! sendLabels and transferLabels -/
/-- Garbling.sendLabels -/
theorem sh_226 {gs : sh_gL} {a b n : Nat} {p : Nat → Bool} {W : Nat → Nat} {f : Nat → Nat → Nat} {m : sh_X} (h : sh_Yz gs a b m) (hE : sh_Ev 13 n W f m) (hf : ∀ k, k < n → ∀ i, i < W k → f k i < gs.length) (hp : ∀ k, k < n → ∀ i, i < W k → p (f k i) = (m.J 16 k).toBitVec.getLsbD i) :
    ∃ m2, sf_226 m = some ((), m2) ∧ sh_Lst gs a b (m.J 61 5) p m m2 ∧ ∀ k, k < n → ∀ i, i < W k → sh_lb a b (m.J 61 5) m2 (f k i) (p (f k i)) := by
  have n1 := hE.n1
  unfold sf_226 sf_226_2
  obtain ⟨⟨c, m2⟩, ⟨q1, q2, q3⟩, q6⟩ := sh_loop (f := fun q => sf_226_2s q.1 q.2) (n := n) (i := 0) (s := (0, m))
    (fun i s => s.1 = Int32.ofNat i ∧ sh_Lst gs a b (m.J 61 5) p m s.2 ∧ ∀ k, k < i → ∀ j, j < W k → sh_lb a b (m.J 61 5) s.2 (f k j) (p (f k j))) (by
      rintro k ⟨c, m2⟩ hk ⟨r1, hR, r3⟩
      have r1 : c = Int32.ofNat k := r1
      subst r1
      have hR : sh_Lst gs a b (m.J 61 5) p m m2 := hR
      obtain ⟨m3, k1, k2, k3, k4⟩ := sh_226r hR hE hk (hf k hk) (hp k hk)
      refine ⟨(Int32.ofNat k + 1, m3), ?_, sh_nI1, k2, fun k2 hk2 j hj => ?_⟩
      · show sf_226_2s (Int32.ofNat k) m2 = _
        unfold sf_226_2s
        rw [(hE.same hR.f.I).am, if_pos ((sh_nIlt (by omega) (by omega)).mpr hk), k1]
      · by_cases hkk : k2 = k
        · subst hkk; exact k3 j hj
        · exact k4 _ (r3 k2 (by omega) j hj)) (Nat.zero_le _) ⟨rfl, sh_Lst.refl h, fun k hk => absurd hk (by omega)⟩
  have q1 : c = Int32.ofNat n := q1
  subst q1
  have q2 : sh_Lst gs a b (m.J 61 5) p m m2 := q2
  refine ⟨m2, q6 _ ?_, q2, q3⟩
  show sf_226_2s (Int32.ofNat n) m2 = _
  unfold sf_226_2s
  rw [(hE.same q2.f.I).am, if_neg (sh_nlt0 n)]
/-- the bits of bob's element k -/
theorem sh_229r {gs : sh_gL} {a b n k : Nat} {p : Nat → Bool} {W : Nat → Nat} {f : Nat → Nat → Nat} {m0 m : sh_X} (h : sh_Lst gs a b (m0.J 61 5) p m0 m) (hE : sh_Ev 18 n W f m0) (hk : k < n) (hf : ∀ i, i < W k → f k i < gs.length) (hp : ∀ i, i < W k → p (f k i) = (m0.J 21 k).toBitVec.getLsbD i) :
    ∃ m2, sf_229_12 (Int32.ofNat k) 0 m = some (.inl (Int32.ofNat k + 1, m2)) ∧ sh_Lst gs a b (m0.J 61 5) p m0 m2 ∧ (∀ i, i < W k → sh_lb a b (m0.J 61 5) m2 (f k i) (p (f k i))) ∧ ∀ w, sh_lb a b (m0.J 61 5) m w (p w) → sh_lb a b (m0.J 61 5) m2 w (p w) := by
  have n1 := hE.n1
  have w1 := hE.w1 k hk
  have hlen := h.z.g.len
  obtain ⟨ha1, ha2, ha3, ha4, ha5⟩ := sh_ne62 h.z.fa
  obtain ⟨hb1, hb2, hb3, hb4, hb5⟩ := sh_ne62b h.z.fb
  unfold sf_229_12
  obtain ⟨⟨c, m2⟩, ⟨q1, q2, q3, q4⟩, q6⟩ := sh_loop (f := fun q => sf_229_12s (Int32.ofNat k) q.1 q.2) (n := W k) (i := 0) (s := (0, m))
    (fun i s => s.1 = Int32.ofNat i ∧ sh_Lst gs a b (m0.J 61 5) p m0 s.2 ∧ (∀ j, j < i → sh_lb a b (m0.J 61 5) s.2 (f k j) (p (f k j))) ∧ ∀ w, sh_lb a b (m0.J 61 5) m w (p w) → sh_lb a b (m0.J 61 5) s.2 w (p w)) (by
      rintro i ⟨c, m2⟩ hi ⟨r1, hR, r3, r4⟩
      have r1 : c = Int32.ofNat i := r1
      subst r1
      have hR : sh_Lst gs a b (m0.J 61 5) p m0 m2 := hR
      have e2 : sh_Ev 18 n W f m2 := hE.same hR.f.I
      have hlt := (sh_nIlt (a := i) (b := W k) (by omega) (by omega)).mpr hi
      have hw := hf i hi
      obtain ⟨z, m3, t1, t2, t3⟩ := sh_222 (k := 0) (a := a) (b := b) (m := m2) (by omega)
      -- the zero's label stands; then it goes over
      have j21 : sh_u2 m3.J a (f k i) z 21 k = m0.J 21 k := by rw [sh_u2_cell (by omega), t3 21 (by omega)]; exact hR.off 21 k (by omega)
      have j61 : sh_u2 m3.J a (f k i) z 61 5 = m0.J 61 5 := by rw [sh_u2_cell (by omega), t3 61 (by omega)]; exact hR.off 61 5 (by omega)
      obtain ⟨m4, u1, u2, u3⟩ := sh_230 (a := a) (b := b) (z := z) (v := p (f k i)) (m := (m3.T, m3.I, sh_u2 m3.J a (f k i) z, m3.s))
      have ja4 : m4.J a = sh_u2 m3.J a (f k i) z a := u3 a ha1
      have jb4 : m4.J b = m3.J b := (u3 b hb1).trans (sh_u2_cell hR.z.ab.symm)
      have fr : sh_Yf a b m2 (m4.T, m4.I, sh_u2 m4.J b (f k i) (z ^^^ sh_bo (m0.J 61 5) (p (f k i))), m4.s) := by
        refine sh_Yf.mk (u2.T.trans t2.T) (u2.I.trans t2.I) (u2.s.trans t2.s) (fun c h1 h2 h3 h4 => ?_)
        show sh_u2 m4.J b (f k i) _ c = _
        rw [sh_u2_cell h2, u3 c h3]
        show sh_u2 m3.J a (f k i) z c = _
        rw [sh_u2_cell h1, t3 c h3]
      have s2 : sh_lb a b (m0.J 61 5) (m4.T, m4.I, sh_u2 m4.J b (f k i) (z ^^^ sh_bo (m0.J 61 5) (p (f k i))), m4.s) (f k i) (p (f k i)) := by
        show sh_u2 m4.J b (f k i) _ b (f k i) = sh_u2 m4.J b (f k i) _ a (f k i) ^^^ _
        rw [sh_u2_same, sh_u2_cell hR.z.ab, ja4, sh_u2_same]
      have sr : ∀ w, sh_lb a b (m0.J 61 5) m2 w (p w) → sh_lb a b (m0.J 61 5) (m4.T, m4.I, sh_u2 m4.J b (f k i) (z ^^^ sh_bo (m0.J 61 5) (p (f k i))), m4.s) w (p w) := by
        intro w hwb
        by_cases hne : w = f k i
        · rw [hne]; exact s2
        · show sh_u2 m4.J b (f k i) _ b w = sh_u2 m4.J b (f k i) _ a w ^^^ _
          rw [sh_u2_idx hne, sh_u2_cell hR.z.ab, ja4, sh_u2_idx hne, jb4, t3 a ha1, t3 b hb1]
          exact hwb
      refine ⟨(Int32.ofNat i + 1, (m4.T, m4.I, sh_u2 m4.J b (f k i) (z ^^^ sh_bo (m0.J 61 5) (p (f k i))), m4.s)), ?_, sh_nI1, sh_Lst.mk (fr.Yz hR.z) (hR.f.trans fr) (fun w hw => sr w (hR.k w hw)), fun j hj => ?_, fun w hwb => sr w (r4 w hwb)⟩
      · show sf_229_12s (Int32.ofNat k) (Int32.ofNat i) m2 = _
        have o1 : sh_okb (Int32.ofNat (f k i)) (sh_ln m2.T a) = true := (sh_okn (by omega)).mpr (by have := hR.z.la; omega)
        have o2 : sh_okb (Int32.ofNat (f k i)) (sh_ln m2.T b) = true := (sh_okn (by omega)).mpr (by have := hR.z.lb; omega)
        have o3 : sh_okb (Int32.ofNat k) 256 = true := (sh_okn (by omega)).mpr (by omega)
        have u1 : sf_230 z (Int32.ofNat (sh_bn1 (p (f k i)))) (m3.T, m3.I, sh_u2 m3.J a (f k i) z, m3.s) = some (z ^^^ sh_bo (sh_u2 m3.J a (f k i) z 61 5) (p (f k i)), m4) := u1
        unfold sf_229_12s
        rw [if_pos o3, sh_nIc (by omega), show m2.I 20 k = Int32.ofNat (W k) from e2.wi k hk, if_pos hlt, sh_227 e2 hk hi, sh_bc_some, sh_225 hR.z (by omega), sh_bc_some, if_pos (decide_eq_true hw)]
        show sh_bn (sf_222 (Int32.ofNat 0) m2) _ = _
        rw [t1, sh_bn_some, hR.z.ra, show sh_rf m3.T 61 3 = a by rw [t2.T]; exact hR.z.ra, show sh_rf m3.T 61 4 = b by rw [t2.T]; exact hR.z.rb, if_pos o1, show sh_ln m3.T a = sh_ln m2.T a by rw [t2.T], show sh_ln m3.T b = sh_ln m2.T b by rw [t2.T], if_pos o1, if_pos o3, sh_nIc (by omega), sh_u2_same, j21, sh_ubit32 _ (by omega), ← hp i hi, u1, sh_bn_some, if_pos o2, j61]
        rfl
      · by_cases hji : j = i
        · subst hji; exact s2
        · exact sr _ (r3 j (by omega))) (Nat.zero_le _) ⟨rfl, h, fun j hj => absurd hj (by omega), fun _ h => h⟩
  have q1 : c = Int32.ofNat (W k) := q1
  subst q1
  have q2 : sh_Lst gs a b (m0.J 61 5) p m0 m2 := q2
  refine ⟨m2, q6 _ ?_, q2, q3, q4⟩
  show sf_229_12s (Int32.ofNat k) (Int32.ofNat (W k)) m2 = _
  unfold sf_229_12s
  rw [if_pos ((sh_okn (by omega)).mpr (by omega)), sh_nIc (by omega), show m2.I 20 k = Int32.ofNat (W k) from (hE.same q2.f.I).wi k hk, if_neg (sh_nlt0 _)]
/-- Garbling.transferLabels -/
theorem sh_229 {gs : sh_gL} {a b n : Nat} {p : Nat → Bool} {W : Nat → Nat} {f : Nat → Nat → Nat} {m : sh_X} (h : sh_Yz gs a b m) (hE : sh_Ev 18 n W f m) (hf : ∀ k, k < n → ∀ i, i < W k → f k i < gs.length) (hp : ∀ k, k < n → ∀ i, i < W k → p (f k i) = (m.J 21 k).toBitVec.getLsbD i) :
    ∃ m2, sf_229 m = some ((), m2) ∧ sh_Lst gs a b (m.J 61 5) p m m2 ∧ ∀ k, k < n → ∀ i, i < W k → sh_lb a b (m.J 61 5) m2 (f k i) (p (f k i)) := by
  have n1 := hE.n1
  unfold sf_229 sf_229_2
  obtain ⟨⟨c, m2⟩, ⟨q1, q2, q3⟩, q6⟩ := sh_loop (f := fun q => sf_229_2s q.1 q.2) (n := n) (i := 0) (s := (0, m))
    (fun i s => s.1 = Int32.ofNat i ∧ sh_Lst gs a b (m.J 61 5) p m s.2 ∧ ∀ k, k < i → ∀ j, j < W k → sh_lb a b (m.J 61 5) s.2 (f k j) (p (f k j))) (by
      rintro k ⟨c, m2⟩ hk ⟨r1, hR, r3⟩
      have r1 : c = Int32.ofNat k := r1
      subst r1
      have hR : sh_Lst gs a b (m.J 61 5) p m m2 := hR
      obtain ⟨m3, k1, k2, k3, k4⟩ := sh_229r hR hE hk (hf k hk) (hp k hk)
      refine ⟨(Int32.ofNat k + 1, m3), ?_, sh_nI1, k2, fun k2 hk2 j hj => ?_⟩
      · show sf_229_2s (Int32.ofNat k) m2 = _
        unfold sf_229_2s
        rw [(hE.same hR.f.I).am, if_pos ((sh_nIlt (by omega) (by omega)).mpr hk), k1]
      · by_cases hkk : k2 = k
        · subst hkk; exact k3 j hj
        · exact k4 _ (r3 k2 (by omega) j hj)) (Nat.zero_le _) ⟨rfl, sh_Lst.refl h, fun k hk => absurd hk (by omega)⟩
  have q1 : c = Int32.ofNat n := q1
  subst q1
  have q2 : sh_Lst gs a b (m.J 61 5) p m m2 := q2
  refine ⟨m2, q6 _ ?_, q2, q3⟩
  show sf_229_2s (Int32.ofNat n) m2 = _
  unfold sf_229_2s
  rw [(hE.same q2.f.I).am, if_neg (sh_nlt0 n)]
