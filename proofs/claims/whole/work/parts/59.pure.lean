/-! ELEMENTS, and the labels of the inputs -/
def sh_sum (W : Nat → Nat) : Nat → Nat
  | 0 => 0
  | k + 1 => sh_sum W k + W k
theorem sh_sum_le {W : Nat → Nat} {k n : Nat} (h : k ≤ n) : sh_sum W k ≤ sh_sum W n := by
  induction n with
  | zero => rw [show k = 0 by omega]; exact Nat.le_refl _
  | succ n ih =>
    by_cases hk : k = n + 1
    · rw [hk]; exact Nat.le_refl _
    · exact Nat.le_trans (ih (by omega)) (Nat.le_add_right _ _)
theorem sh_sum_lt {W : Nat → Nat} {k n i : Nat} (h : k < n) (hi : i < W k) : sh_sum W k + i < sh_sum W n := by
  have : sh_sum W (k + 1) ≤ sh_sum W n := sh_sum_le h
  have e : sh_sum W (k + 1) = sh_sum W k + W k := rfl
  omega
/-- one sort of elements, at the cell x: n of them, of W bits, the wires f -/
def sh_Ev (x n : Nat) (W : Nat → Nat) (f : Nat → Nat → Nat) (m : sh_X) : Prop := (m.I x 4 = Int32.ofNat n) ∧ (m.I x 5 = Int32.ofNat (sh_sum W n)) ∧ (n ≤ 256) ∧ (sh_sum W n ≤ 1000) ∧ (∀ k, k < n → m.I (x + 1) k = Int32.ofNat (sh_sum W k)) ∧ (∀ k, k < n → m.I (x + 2) k = Int32.ofNat (W k)) ∧ (∀ k, k < n → W k ≤ 64) ∧ (∀ k, k < n → ∀ i, i < W k → m.I (x + 4) (sh_sum W k + i) = Int32.ofNat (f k i))
theorem sh_Ev.am {x n : Nat} {W : Nat → Nat} {f : Nat → Nat → Nat} {m : sh_X} (h : sh_Ev x n W f m) : m.I x 4 = Int32.ofNat n := h.1
theorem sh_Ev.to {x n : Nat} {W : Nat → Nat} {f : Nat → Nat → Nat} {m : sh_X} (h : sh_Ev x n W f m) : m.I x 5 = Int32.ofNat (sh_sum W n) := h.2.1
theorem sh_Ev.n1 {x n : Nat} {W : Nat → Nat} {f : Nat → Nat → Nat} {m : sh_X} (h : sh_Ev x n W f m) : n ≤ 256 := h.2.2.1
theorem sh_Ev.t1 {x n : Nat} {W : Nat → Nat} {f : Nat → Nat → Nat} {m : sh_X} (h : sh_Ev x n W f m) : sh_sum W n ≤ 1000 := h.2.2.2.1
theorem sh_Ev.fi {x n : Nat} {W : Nat → Nat} {f : Nat → Nat → Nat} {m : sh_X} (h : sh_Ev x n W f m) : ∀ k, k < n → m.I (x + 1) k = Int32.ofNat (sh_sum W k) := h.2.2.2.2.1
theorem sh_Ev.wi {x n : Nat} {W : Nat → Nat} {f : Nat → Nat → Nat} {m : sh_X} (h : sh_Ev x n W f m) : ∀ k, k < n → m.I (x + 2) k = Int32.ofNat (W k) := h.2.2.2.2.2.1
theorem sh_Ev.w1 {x n : Nat} {W : Nat → Nat} {f : Nat → Nat → Nat} {m : sh_X} (h : sh_Ev x n W f m) : ∀ k, k < n → W k ≤ 64 := h.2.2.2.2.2.2.1
theorem sh_Ev.ws {x n : Nat} {W : Nat → Nat} {f : Nat → Nat → Nat} {m : sh_X} (h : sh_Ev x n W f m) : ∀ k, k < n → ∀ i, i < W k → m.I (x + 4) (sh_sum W k + i) = Int32.ofNat (f k i) := h.2.2.2.2.2.2.2
theorem sh_Ev.mk {x n : Nat} {W : Nat → Nat} {f : Nat → Nat → Nat} {m : sh_X} (am : m.I x 4 = Int32.ofNat n) (to : m.I x 5 = Int32.ofNat (sh_sum W n)) (n1 : n ≤ 256) (t1 : sh_sum W n ≤ 1000) (fi : ∀ k, k < n → m.I (x + 1) k = Int32.ofNat (sh_sum W k)) (wi : ∀ k, k < n → m.I (x + 2) k = Int32.ofNat (W k)) (w1 : ∀ k, k < n → W k ≤ 64) (ws : ∀ k, k < n → ∀ i, i < W k → m.I (x + 4) (sh_sum W k + i) = Int32.ofNat (f k i)) : sh_Ev x n W f m := ⟨am, to, n1, t1, fi, wi, w1, ws⟩
theorem sh_Ev.same {x n : Nat} {W : Nat → Nat} {f : Nat → Nat → Nat} {m m2 : sh_X} (h : sh_Ev x n W f m) (hI : m2.I = m.I) : sh_Ev x n W f m2 :=
  sh_Ev.mk (am := by rw [hI]; exact h.am) (to := by rw [hI]; exact h.to) (n1 := h.n1) (t1 := h.t1) (fi := by rw [hI]; exact h.fi) (wi := by rw [hI]; exact h.wi) (w1 := h.w1) (ws := by rw [hI]; exact h.ws)
theorem sh_bc_some {α β : Type} {r : α} {f : α → Option β} : sh_bc (some r) f = f r := rfl
theorem sh_228 {x n k : Nat} {W : Nat → Nat} {f : Nat → Nat → Nat} {m : sh_X} (h : sh_Ev x n W f m) (hk : k < n) : sf_228 x (Int32.ofNat k) m = some true := by
  have := h.n1
  unfold sf_228
  rw [if_neg (sh_nI0 (by omega)), h.am, if_pos ((sh_nIlt (by omega) (by omega)).mpr hk)]
/-- Elements.wireOf -/
theorem sh_227 {x n k i : Nat} {W : Nat → Nat} {f : Nat → Nat → Nat} {m : sh_X} (h : sh_Ev x n W f m) (hk : k < n) (hi : i < W k) : sf_227 x (Int32.ofNat k) (Int32.ofNat i) m = some (Int32.ofNat (f k i)) := by
  have n1 := h.n1
  have t1 := h.t1
  have w1 := h.w1 k hk
  have lt := sh_sum_lt hk hi
  unfold sf_227
  rw [sh_228 h hk, sh_bc_some, if_pos rfl, if_pos ((sh_okn (by omega)).mpr (by omega)), sh_nIc (by omega), h.fi k hk, sh_nIadd]
  unfold sf_227_20
  rw [if_neg (sh_nI0 (by omega)), h.to, if_pos ((sh_nIlt (by omega) (by omega)).mpr lt), if_pos ((sh_okn (by omega)).mpr (by omega)), sh_nIc (by omega), h.ws k hk i hi]
/-- a label is set -/
theorem sh_lb_new {a b w : Nat} {o z : Int64} {v : Bool} {T : List sh_Tg} {I : Nat → Nat → Int32} {J : Nat → Nat → Int64} {s : Nat} (hab : a ≠ b) : sh_lb a b o (T, I, sh_u2 (sh_u2 J a w z) b w (z ^^^ sh_bo o v), s) w v := by
  show sh_u2 (sh_u2 J a w z) b w (z ^^^ sh_bo o v) b w = sh_u2 (sh_u2 J a w z) b w (z ^^^ sh_bo o v) a w ^^^ sh_bo o v
  rw [sh_u2_same, sh_u2_cell hab, sh_u2_same]
theorem sh_lb_old {a b w w2 : Nat} {o z y : Int64} {v : Bool} {m : sh_X} {T : List sh_Tg} {I : Nat → Nat → Int32} {J : Nat → Nat → Int64} {s : Nat} (hab : a ≠ b) (hne : w2 ≠ w) (hJa : J a = m.J a) (hJb : J b = m.J b) (h : sh_lb a b o m w2 v) : sh_lb a b o (T, I, sh_u2 (sh_u2 J a w z) b w y, s) w2 v := by
  show sh_u2 (sh_u2 J a w z) b w y b w2 = sh_u2 (sh_u2 J a w z) b w y a w2 ^^^ sh_bo o v
  rw [sh_u2_idx hne, sh_u2_cell hab.symm, sh_u2_cell hab, sh_u2_idx hne, hJa, hJb]
  exact h
/-- one bit of an input: what the loops of sendLabels and transferLabels do -/
def sh_Lst (gs : sh_gL) (a b : Nat) (o : Int64) (p : Nat → Bool) (m0 m : sh_X) : Prop := (sh_Yz gs a b m) ∧ (sh_Yf a b m0 m) ∧ (∀ w, sh_lb a b o m0 w (p w) → sh_lb a b o m w (p w))
theorem sh_Lst.z {gs : sh_gL} {a b : Nat} {o : Int64} {p : Nat → Bool} {m0 m : sh_X} (h : sh_Lst gs a b o p m0 m) : sh_Yz gs a b m := h.1
theorem sh_Lst.f {gs : sh_gL} {a b : Nat} {o : Int64} {p : Nat → Bool} {m0 m : sh_X} (h : sh_Lst gs a b o p m0 m) : sh_Yf a b m0 m := h.2.1
theorem sh_Lst.k {gs : sh_gL} {a b : Nat} {o : Int64} {p : Nat → Bool} {m0 m : sh_X} (h : sh_Lst gs a b o p m0 m) : ∀ w, sh_lb a b o m0 w (p w) → sh_lb a b o m w (p w) := h.2.2
theorem sh_Lst.mk {gs : sh_gL} {a b : Nat} {o : Int64} {p : Nat → Bool} {m0 m : sh_X} (z : sh_Yz gs a b m) (f : sh_Yf a b m0 m) (k : ∀ w, sh_lb a b o m0 w (p w) → sh_lb a b o m w (p w)) : sh_Lst gs a b o p m0 m := ⟨z, f, k⟩
theorem sh_Lst.refl {gs : sh_gL} {a b : Nat} {o : Int64} {p : Nat → Bool} {m : sh_X} (h : sh_Yz gs a b m) : sh_Lst gs a b o p m m := sh_Lst.mk h (sh_Yf.refl a b m) (fun _ h => h)
theorem sh_Lst.off {gs : sh_gL} {a b : Nat} {o : Int64} {p : Nat → Bool} {m0 m : sh_X} (h : sh_Lst gs a b o p m0 m) (c i : Nat) (hc : c < 62) : m.J c i = m0.J c i := by
  have fa := h.z.fa
  have fb := h.z.fb
  rw [h.f.J c (by omega) (by omega) (by omega) (by omega)]
/-- a label is set, the coins having been thrown -/
theorem sh_Lst.set {gs : sh_gL} {a b w : Nat} {o z : Int64} {p : Nat → Bool} {m0 m m2 : sh_X} (h : sh_Lst gs a b o p m0 m) (f : sh_Yf a b m m2) (hJa : m2.J a = m.J a) (hJb : m2.J b = m.J b) : sh_Lst gs a b o p m0 (m2.T, m2.I, sh_u2 (sh_u2 m2.J a w z) b w (z ^^^ sh_bo o (p w)), m2.s) ∧ sh_lb a b o (m2.T, m2.I, sh_u2 (sh_u2 m2.J a w z) b w (z ^^^ sh_bo o (p w)), m2.s) w (p w) := by
  have z2 := f.Yz h.z
  refine ⟨sh_Lst.mk (z2.same rfl rfl) (h.f.trans (f.trans (sh_Yf.mk rfl rfl rfl (fun c h1 h2 _ _ => ?_)))) (fun w2 hw => ?_), sh_lb_new z2.ab⟩
  · show sh_u2 (sh_u2 m2.J a w z) b w _ c = _
    rw [sh_u2_cell h2, sh_u2_cell h1]
  · by_cases hne : w2 = w
    · subst hne; exact sh_lb_new z2.ab
    · exact sh_lb_old z2.ab hne hJa hJb (h.k w2 hw)
theorem sh_ne62 {a : Nat} (h : a = 64 ∨ 125 ≤ a) : a ≠ 62 ∧ a ≠ 63 ∧ a ≠ 61 ∧ a ≠ 16 ∧ a ≠ 21 := by omega
theorem sh_ne62b {a : Nat} (h : a = 65 ∨ 125 ≤ a) : a ≠ 62 ∧ a ≠ 63 ∧ a ≠ 61 ∧ a ≠ 16 ∧ a ≠ 21 := by omega
/-- the bits of alice's element k -/
theorem sh_226r {gs : sh_gL} {a b n k : Nat} {p : Nat → Bool} {W : Nat → Nat} {f : Nat → Nat → Nat} {m0 m : sh_X} (h : sh_Lst gs a b (m0.J 61 5) p m0 m) (hE : sh_Ev 13 n W f m0) (hk : k < n) (hf : ∀ i, i < W k → f k i < gs.length) (hp : ∀ i, i < W k → p (f k i) = (m0.J 16 k).toBitVec.getLsbD i) :
    ∃ m2, sf_226_12 (Int32.ofNat k) 0 m = some (.inl (Int32.ofNat k + 1, m2)) ∧ sh_Lst gs a b (m0.J 61 5) p m0 m2 ∧ (∀ i, i < W k → sh_lb a b (m0.J 61 5) m2 (f k i) (p (f k i))) ∧ ∀ w, sh_lb a b (m0.J 61 5) m w (p w) → sh_lb a b (m0.J 61 5) m2 w (p w) := by
  have n1 := hE.n1
  have w1 := hE.w1 k hk
  have hlen := h.z.g.len
  obtain ⟨ha1, ha2, ha3, ha4, ha5⟩ := sh_ne62 h.z.fa
  obtain ⟨hb1, hb2, hb3, hb4, hb5⟩ := sh_ne62b h.z.fb
  unfold sf_226_12
  obtain ⟨⟨c, m2⟩, ⟨q1, q2, q3, q4⟩, q6⟩ := sh_loop (f := fun q => sf_226_12s (Int32.ofNat k) q.1 q.2) (n := W k) (i := 0) (s := (0, m))
    (fun i s => s.1 = Int32.ofNat i ∧ sh_Lst gs a b (m0.J 61 5) p m0 s.2 ∧ (∀ j, j < i → sh_lb a b (m0.J 61 5) s.2 (f k j) (p (f k j))) ∧ ∀ w, sh_lb a b (m0.J 61 5) m w (p w) → sh_lb a b (m0.J 61 5) s.2 w (p w)) (by
      rintro i ⟨c, m2⟩ hi ⟨r1, hR, r3, r4⟩
      have r1 : c = Int32.ofNat i := r1
      subst r1
      have hR : sh_Lst gs a b (m0.J 61 5) p m0 m2 := hR
      have e2 : sh_Ev 13 n W f m2 := hE.same hR.f.I
      have hlt := (sh_nIlt (a := i) (b := W k) (by omega) (by omega)).mpr hi
      have hw := hf i hi
      obtain ⟨z, m3, t1, t2, t3⟩ := sh_222 (k := 0) (a := a) (b := b) (m := m2) (by omega)
      obtain ⟨s1, s2⟩ := hR.set (w := f k i) (z := z) t2 (t3 a ha1) (t3 b hb1)
      have sr : ∀ w, sh_lb a b (m0.J 61 5) m2 w (p w) → sh_lb a b (m0.J 61 5) (m3.T, m3.I, sh_u2 (sh_u2 m3.J a (f k i) z) b (f k i) (z ^^^ sh_bo (m0.J 61 5) (p (f k i))), m3.s) w (p w) := by
        intro w hwb
        by_cases hne : w = f k i
        · rw [hne]; exact s2
        · exact sh_lb_old hR.z.ab hne (t3 a ha1) (t3 b hb1) hwb
      refine ⟨(Int32.ofNat i + 1, (m3.T, m3.I, sh_u2 (sh_u2 m3.J a (f k i) z) b (f k i) (z ^^^ sh_bo (m0.J 61 5) (p (f k i))), m3.s)), ?_, sh_nI1, s1, fun j hj => ?_, fun w hwb => sr w (r4 w hwb)⟩
      · show sf_226_12s (Int32.ofNat k) (Int32.ofNat i) m2 = _
        have o1 : sh_okb (Int32.ofNat (f k i)) (sh_ln m2.T a) = true := (sh_okn (by omega)).mpr (by have := hR.z.la; omega)
        have o2 : sh_okb (Int32.ofNat (f k i)) (sh_ln m2.T b) = true := (sh_okn (by omega)).mpr (by have := hR.z.lb; omega)
        have o3 : sh_okb (Int32.ofNat k) 256 = true := (sh_okn (by omega)).mpr (by omega)
        unfold sf_226_12s
        rw [if_pos o3, sh_nIc (by omega), show m2.I 15 k = Int32.ofNat (W k) from e2.wi k hk, if_pos hlt, sh_227 e2 hk hi]
        show sh_bc (sf_225 (Int32.ofNat (f k i)) m2) _ = _
        rw [sh_225 hR.z (by omega)]
        show (if decide (f k i < gs.length) = true then _ else _) = _
        rw [if_pos (decide_eq_true hw)]
        show sh_bn (sf_222 (Int32.ofNat 0) m2) _ = _
        rw [t1, sh_bn_some, hR.z.ra, t2.T, hR.z.ra, hR.z.rb, if_pos o1, if_pos o1, if_pos o3, if_pos o2, sh_nIc (by omega)]
        unfold sf_226_81
        have j16 : sh_u2 m3.J a (f k i) z 16 k = m0.J 16 k := by rw [sh_u2_cell (by omega), t3 16 (by omega)]; exact hR.off 16 k (by omega)
        have j61 : sh_u2 m3.J a (f k i) z 61 5 = m0.J 61 5 := by rw [sh_u2_cell (by omega), t3 61 (by omega)]; exact hR.off 61 5 (by omega)
        rw [sh_u2_same, j16, j61, sh_ubit_mul _ _ (by omega), hp i hi]
      · by_cases hji : j = i
        · subst hji; exact s2
        · exact sr _ (r3 j (by omega))) (Nat.zero_le _) ⟨rfl, h, fun j hj => absurd hj (by omega), fun _ h => h⟩
  have q1 : c = Int32.ofNat (W k) := q1
  subst q1
  have q2 : sh_Lst gs a b (m0.J 61 5) p m0 m2 := q2
  refine ⟨m2, q6 _ ?_, q2, q3, q4⟩
  show sf_226_12s (Int32.ofNat k) (Int32.ofNat (W k)) m2 = _
  unfold sf_226_12s
  rw [if_pos ((sh_okn (by omega)).mpr (by omega)), sh_nIc (by omega), show m2.I 15 k = Int32.ofNat (W k) from (hE.same q2.f.I).wi k hk, if_neg (sh_nlt0 _)]
