/-! ELEMENTS are made -/
theorem sh_sum_cong {W W2 : Nat → Nat} : ∀ n, (∀ k, k < n → W k = W2 k) → sh_sum W n = sh_sum W2 n
  | 0, _ => rfl
  | n + 1, h => by
    show sh_sum W n + W n = sh_sum W2 n + W2 n
    rw [sh_sum_cong n (fun k hk => h k (by omega)), h n (by omega)]
theorem sh_sum_uniq {W : Nat → Nat} {k i k2 i2 : Nat} (h : i < W k) (h2 : i2 < W k2) (e : sh_sum W k + i = sh_sum W k2 + i2) : k = k2 ∧ i = i2 := by
  rcases Nat.lt_trichotomy k k2 with l | l | l
  · have := sh_sum_lt (W := W) l h; omega
  · subst l; exact ⟨rfl, by omega⟩
  · have := sh_sum_lt (W := W) l h2; omega
/-- a elements are begun, T wires are written -/
def sh_Eq (x a S : Nat) (W : Nat → Nat) (f : Nat → Nat → Nat) (m : sh_X) : Prop := (m.I x 4 = Int32.ofNat a) ∧ (m.I x 5 = Int32.ofNat S) ∧ (∀ k, k < a → m.I (x + 1) k = Int32.ofNat (sh_sum W k)) ∧ (∀ k, k < a → m.I (x + 2) k = Int32.ofNat (W k)) ∧ (∀ k i, i < W k → sh_sum W k + i < S → m.I (x + 4) (sh_sum W k + i) = Int32.ofNat (f k i))
theorem sh_Eq.am {x a S : Nat} {W : Nat → Nat} {f : Nat → Nat → Nat} {m : sh_X} (h : sh_Eq x a S W f m) : m.I x 4 = Int32.ofNat a := h.1
theorem sh_Eq.to {x a S : Nat} {W : Nat → Nat} {f : Nat → Nat → Nat} {m : sh_X} (h : sh_Eq x a S W f m) : m.I x 5 = Int32.ofNat S := h.2.1
theorem sh_Eq.fi {x a S : Nat} {W : Nat → Nat} {f : Nat → Nat → Nat} {m : sh_X} (h : sh_Eq x a S W f m) : ∀ k, k < a → m.I (x + 1) k = Int32.ofNat (sh_sum W k) := h.2.2.1
theorem sh_Eq.wi {x a S : Nat} {W : Nat → Nat} {f : Nat → Nat → Nat} {m : sh_X} (h : sh_Eq x a S W f m) : ∀ k, k < a → m.I (x + 2) k = Int32.ofNat (W k) := h.2.2.2.1
theorem sh_Eq.ws {x a S : Nat} {W : Nat → Nat} {f : Nat → Nat → Nat} {m : sh_X} (h : sh_Eq x a S W f m) : ∀ k i, i < W k → sh_sum W k + i < S → m.I (x + 4) (sh_sum W k + i) = Int32.ofNat (f k i) := h.2.2.2.2
theorem sh_Eq.mk {x a S : Nat} {W : Nat → Nat} {f : Nat → Nat → Nat} {m : sh_X} (am : m.I x 4 = Int32.ofNat a) (to : m.I x 5 = Int32.ofNat S) (fi : ∀ k, k < a → m.I (x + 1) k = Int32.ofNat (sh_sum W k)) (wi : ∀ k, k < a → m.I (x + 2) k = Int32.ofNat (W k)) (ws : ∀ k i, i < W k → sh_sum W k + i < S → m.I (x + 4) (sh_sum W k + i) = Int32.ofNat (f k i)) : sh_Eq x a S W f m := ⟨am, to, fi, wi, ws⟩
/-- what is left as it was -/
def sh_Ef (x : Nat) (m m2 : sh_X) : Prop := (m2.T = m.T) ∧ (m2.s = m.s) ∧ (∀ c, c ≠ x → c ≠ x + 1 → c ≠ x + 2 → c ≠ x + 4 → m2.I c = m.I c) ∧ (∀ c, c ≠ x + 3 → m2.J c = m.J c)
theorem sh_Ef.T {x : Nat} {m m2 : sh_X} (h : sh_Ef x m m2) : m2.T = m.T := h.1
theorem sh_Ef.s {x : Nat} {m m2 : sh_X} (h : sh_Ef x m m2) : m2.s = m.s := h.2.1
theorem sh_Ef.I {x : Nat} {m m2 : sh_X} (h : sh_Ef x m m2) : ∀ c, c ≠ x → c ≠ x + 1 → c ≠ x + 2 → c ≠ x + 4 → m2.I c = m.I c := h.2.2.1
theorem sh_Ef.J {x : Nat} {m m2 : sh_X} (h : sh_Ef x m m2) : ∀ c, c ≠ x + 3 → m2.J c = m.J c := h.2.2.2
theorem sh_Ef.mk {x : Nat} {m m2 : sh_X} (T : m2.T = m.T) (s : m2.s = m.s) (I : ∀ c, c ≠ x → c ≠ x + 1 → c ≠ x + 2 → c ≠ x + 4 → m2.I c = m.I c) (J : ∀ c, c ≠ x + 3 → m2.J c = m.J c) : sh_Ef x m m2 := ⟨T, s, I, J⟩
theorem sh_Ef.refl {x : Nat} (m : sh_X) : sh_Ef x m m := sh_Ef.mk rfl rfl (fun _ _ _ _ _ => rfl) (fun _ _ => rfl)
theorem sh_Ef.trans {x : Nat} {m m2 m3 : sh_X} (h : sh_Ef x m m2) (g : sh_Ef x m2 m3) : sh_Ef x m m3 := sh_Ef.mk (g.T.trans h.T) (g.s.trans h.s) (fun c a b d e => (g.I c a b d e).trans (h.I c a b d e)) (fun c a => (g.J c a).trans (h.J c a))
theorem sh_Ev.Eq {x n : Nat} {W : Nat → Nat} {f : Nat → Nat → Nat} {m : sh_X} (h : sh_Ev x n W f m) {W2 : Nat → Nat} {f2 : Nat → Nat → Nat} (hW : ∀ k, k < n → W2 k = W k) (hf : ∀ k i, k < n → f2 k i = f k i) : sh_Eq x n (sh_sum W2 n) W2 f2 m := by
  have es : ∀ k, k ≤ n → sh_sum W2 k = sh_sum W k := fun k hk => sh_sum_cong k (fun j hj => hW j (by omega))
  refine sh_Eq.mk h.am (by rw [es n (Nat.le_refl _)]; exact h.to) (fun k hk => by rw [es k (by omega)]; exact h.fi k hk) (fun k hk => by rw [hW k hk]; exact h.wi k hk) (fun k i hi hs => ?_)
  by_cases hk : k < n
  · rw [es k (by omega), hf k i hk]
    exact h.ws k hk i (by rw [← hW k hk]; exact hi)
  · have := sh_sum_le (W := W2) (show n ≤ k by omega)
    omega
theorem sh_Eq.Ev {x n : Nat} {W : Nat → Nat} {f : Nat → Nat → Nat} {m : sh_X} (h : sh_Eq x n (sh_sum W n) W f m) (n1 : n ≤ 256) (t1 : sh_sum W n ≤ 1000) (w1 : ∀ k, k < n → W k ≤ 64) : sh_Ev x n W f m :=
  sh_Ev.mk h.am h.to n1 t1 h.fi h.wi w1 (fun k hk i hi => h.ws k i hi (sh_sum_lt hk hi))
/-- Elements.begin -/
theorem sh_102 {x a : Nat} {W : Nat → Nat} {f : Nat → Nat → Nat} {m : sh_X} (h : sh_Eq x a (sh_sum W a) W f m) (ha : a < 256) (hs : sh_sum W a ≤ 1000) : ∃ m2, sf_102 x (Int32.ofNat (W a)) m = some ((), m2) ∧ sh_Eq x (a + 1) (sh_sum W a) W f m2 ∧ sh_Ef x m m2 ∧ m2.J (x + 3) a = 0 ∧ ∀ k, k ≠ a → m2.J (x + 3) k = m.J (x + 3) k := by
  have o : sh_okb (Int32.ofNat a) 256 = true := sh_okn' ha (by omega)
  have e59 : sf_102_59 x (Int32.ofNat (W a)) (Int32.ofNat a) (Int32.ofNat (sh_sum W a)) m = some ((), (m.T, sh_u2 (sh_u2 (sh_u2 m.I (x + 1) a (Int32.ofNat (sh_sum W a))) (x + 2) a (Int32.ofNat (W a))) x 4 (Int32.ofNat (a + 1)), sh_u2 m.J (x + 3) a 0, m.s)) := by
    unfold sf_102_59
    rw [if_pos o, h.am, if_pos o, if_pos o, sh_nIc (by omega), sh_nI1]
  refine ⟨(m.T, sh_u2 (sh_u2 (sh_u2 m.I (x + 1) a (Int32.ofNat (sh_sum W a))) (x + 2) a (Int32.ofNat (W a))) x 4 (Int32.ofNat (a + 1)), sh_u2 m.J (x + 3) a 0, m.s), ?_, ?_, sh_Ef.mk rfl rfl (fun c h1 h2 h3 h4 => ?_) (fun c h1 => sh_u2_cell h1), sh_u2_same, fun k hk => sh_u2_idx hk⟩
  rotate_left
  · refine sh_Eq.mk se_Is ?_ (fun k hk => ?_) (fun k hk => ?_) (fun k i hi hk => ?_)
    · rw [se_In (by omega), sh_u2_cell (by omega), sh_u2_cell (by omega)]; exact h.to
    · rw [se_Ic (by omega), sh_u2_cell (by omega)]
      by_cases e : k = a
      · subst e; rw [sh_u2_same]
      · rw [sh_u2_idx e]; exact h.fi k (by omega)
    · rw [se_Ic (by omega)]
      by_cases e : k = a
      · subst e; rw [sh_u2_same]
      · rw [sh_u2_idx e, sh_u2_cell (by omega)]; exact h.wi k (by omega)
    · rw [se_Ic (by omega), sh_u2_cell (by omega), sh_u2_cell (by omega)]; exact h.ws k i hi hk
  · show sh_u2 (sh_u2 (sh_u2 m.I (x + 1) a (Int32.ofNat (sh_sum W a))) (x + 2) a (Int32.ofNat (W a))) x 4 (Int32.ofNat (a + 1)) c = m.I c
    rw [sh_u2_cell h1, sh_u2_cell h3, sh_u2_cell h2]
  · rw [← e59]
    unfold sf_102
    rw [h.am, if_neg (sh_nI0 (by omega)), if_pos (show Int32.ofNat a < 256 from (sh_nIlt (b := 256) (by omega) (by omega)).mpr ha)]
    by_cases e : a = 0
    · rw [if_pos (by rw [e]; rfl), e]
      rfl
    · obtain ⟨a', rfl⟩ : ∃ a', a = a' + 1 := ⟨a - 1, by omega⟩
      rw [if_neg (show ¬ Int32.ofNat (a' + 1) = 0 from fun r => e ((sh_nIeq (b := 0) (by omega) (by omega)).mp r)), se_um1, if_pos (sh_okn' (by omega) (by omega)), if_pos (sh_okn' (by omega) (by omega)), sh_nIc (by omega), h.fi a' (by omega), h.wi a' (by omega), sh_nIadd]
      rfl
/-- Elements.add -/
theorem sh_104 {x a i : Nat} {W : Nat → Nat} {f : Nat → Nat → Nat} {m : sh_X} (h : sh_Eq x (a + 1) (sh_sum W a + i) W f m) (hi : i < W a) (hs : sh_sum W a + i < 1000) : ∃ m2, sf_104 x (Int32.ofNat (f a i)) m = some ((), m2) ∧ sh_Eq x (a + 1) (sh_sum W a + (i + 1)) W f m2 ∧ sh_Ef x m m2 ∧ m2.J = m.J := by
  refine ⟨(m.T, sh_u2 (sh_u2 m.I (x + 4) (sh_sum W a + i) (Int32.ofNat (f a i))) x 5 (Int32.ofNat (sh_sum W a + (i + 1))), m.J, m.s), ?_, ?_, sh_Ef.mk rfl rfl (fun c h1 h2 h3 h4 => ?_) (fun c h1 => rfl), rfl⟩
  · unfold sf_104
    rw [h.to, if_pos (show Int32.ofNat (sh_sum W a + i) < 1000 from (sh_nIlt (b := 1000) (by omega) (by omega)).mpr hs), if_pos (sh_okn' hs (by omega)), sh_nIc (by omega), sh_nI1]
    rfl
  · refine sh_Eq.mk ?_ se_Is (fun k hk => ?_) (fun k hk => ?_) (fun k i' hi' hk => ?_)
    · rw [se_In (by omega), sh_u2_cell (by omega)]; exact h.am
    · rw [se_Ic (by omega), sh_u2_cell (by omega)]; exact h.fi k hk
    · rw [se_Ic (by omega), sh_u2_cell (by omega)]; exact h.wi k hk
    · rw [se_Ic (by omega)]
      by_cases e : sh_sum W k + i' = sh_sum W a + i
      · obtain ⟨rfl, rfl⟩ := sh_sum_uniq hi' hi e
        rw [sh_u2_same]
      · rw [sh_u2_idx e]; exact h.ws k i' hi' (by omega)
  · show sh_u2 (sh_u2 m.I (x + 4) (sh_sum W a + i) (Int32.ofNat (f a i))) x 5 (Int32.ofNat (sh_sum W a + (i + 1))) c = m.I c
    rw [sh_u2_cell h1, sh_u2_cell h4]
/-- the elements of a value are made: those of W and f behind the n0 that stand -/
theorem sh_101 {x n0 w k b nn u : Nat} {gs : sh_gL} {W : Nat → Nat} {f : Nat → Nat → Nat} {m : sh_X} {F : Nat → (Nat → Bool) → Bool} (hx : x + 4 < 44) (hrs : sh_RS gs u m) (E : sh_Ev x n0 W f m) (ht : sh_typ k b nn) (hv : sh_val m gs u w (b * sh_mx nn) F) (h1 : n0 + sh_mx nn ≤ 256) (h2 : sh_sum W n0 + sh_mx nn * b ≤ 1000) :
    ∃ (m2 : sh_X) (g : Nat → Nat), sf_101 x (Int32.ofNat (sh_te k b nn)) (Int32.ofNat w) m = some ((), m2) ∧ sh_Ev x (n0 + sh_mx nn) (fun y => if y < n0 then W y else b) (fun y i => if y < n0 then f y i else g ((y - n0) * b + i)) m2 ∧ sh_sum (fun y => if y < n0 then W y else b) (n0 + sh_mx nn) = sh_sum W n0 + sh_mx nn * b ∧ sh_Ef x m m2 ∧ ((∀ y, y < n0 → m2.J (x + 3) y = m.J (x + 3) y) ∧ ∀ y, n0 ≤ y → y < n0 + sh_mx nn → m2.J (x + 3) y = 0) ∧ ∀ y, y < b * sh_mx nn → sh_pe m gs (w + y) (g y) ∧ ∀ p, sh_va p gs (g y) = F y p := by
  have b2 := ht.b2
  have n32 := ht.n2
  have mx := sh_mx_le n32
  have hw := hv.1
  have hu8 := hrs.2.2.2.1
  obtain ⟨g, hg⟩ : ∃ g : Nat → Nat, ∀ y, y < b * sh_mx nn → sh_pe m gs (w + y) (g y) ∧ ∀ p, sh_va p gs (g y) = F y p := by
    refine ⟨fun y => Int32.toNatClampNeg (m.I 45 (w + y)), fun y hy => ?_⟩
    obtain ⟨z, z1, z2⟩ := hv.2 y hy
    have zl := z1.2
    have gl := hrs.1
    have : Int32.toNatClampNeg (m.I 45 (w + y)) = z := by
      rw [z1.1]
      exact sh_nIc (by have := gl.len; omega)
    show sh_pe m gs (w + y) (Int32.toNatClampNeg (m.I 45 (w + y))) ∧ ∀ p, sh_va p gs (Int32.toNatClampNeg (m.I 45 (w + y))) = F y p
    rw [this]
    exact ⟨z1, z2⟩
  obtain ⟨W2, hW2⟩ : ∃ W2 : Nat → Nat, W2 = fun y => if y < n0 then W y else b := ⟨_, rfl⟩
  obtain ⟨f2, hf2⟩ : ∃ f2 : Nat → Nat → Nat, f2 = fun y i => if y < n0 then f y i else g ((y - n0) * b + i) := ⟨_, rfl⟩
  have W2n : ∀ y, n0 ≤ y → W2 y = b := fun y hy => by rw [hW2]; exact if_neg (by omega)
  have W2l : ∀ y, y < n0 → W2 y = W y := fun y hy => by rw [hW2]; exact if_pos hy
  have f2n : ∀ y i, n0 ≤ y → f2 y i = g ((y - n0) * b + i) := fun y i hy => by rw [hf2]; exact if_neg (by omega)
  have f2l : ∀ y i, y < n0 → f2 y i = f y i := fun y i hy => by rw [hf2]; exact if_pos hy
  have sum2 : ∀ t, sh_sum W2 (n0 + t) = sh_sum W n0 + t * b := by
    intro t
    induction t with
    | zero => rw [Nat.zero_mul]; exact sh_sum_cong n0 (fun y hy => W2l y hy)
    | succ t ih =>
      show sh_sum W2 (n0 + t) + W2 (n0 + t) = _
      rw [ih, W2n _ (by omega), Nat.succ_mul]
      omega
  have E0 := E.Eq (W2 := W2) (f2 := f2) W2l f2l
  -- the bits of one element
  have inner : ∀ t, t < sh_mx nn → ∀ (m1 : sh_X), sh_Eq x (n0 + t + 1) (sh_sum W2 (n0 + t)) W2 f2 m1 → sh_Ef x m m1 → ∃ m2, sf_101_31 x (Int32.ofNat (sh_te k b nn)) (Int32.ofNat w) (Int32.ofNat b) (Int32.ofNat t) 0 m1 = some (.inl (Int32.ofNat t + 1, m2)) ∧ sh_Eq x (n0 + t + 1) (sh_sum W2 (n0 + t) + b) W2 f2 m2 ∧ sh_Ef x m m2 ∧ m2.J = m1.J := by
    intro t ht' m1 hE hF
    have tb : t * b + b ≤ b * sh_mx nn := by rw [← Nat.succ_mul, Nat.mul_comm b]; exact Nat.mul_le_mul_right b ht'
    have tm : b * sh_mx nn = sh_mx nn * b := Nat.mul_comm _ _
    have st := sum2 t
    unfold sf_101_31
    obtain ⟨⟨c, m2⟩, ⟨q1, q2, q3, q5⟩, q4⟩ := sh_loop (f := fun q => sf_101_31s x (Int32.ofNat (sh_te k b nn)) (Int32.ofNat w) (Int32.ofNat b) (Int32.ofNat t) q.1 q.2) (n := b) (i := 0) (s := (0, m1))
      (fun i s => s.1 = Int32.ofNat i ∧ sh_Eq x (n0 + t + 1) (sh_sum W2 (n0 + t) + i) W2 f2 s.2 ∧ sh_Ef x m s.2 ∧ s.2.J = m1.J) (by
        rintro i ⟨c, m2⟩ hi ⟨r1, r2, r3, r4⟩
        have r1 : c = Int32.ofNat i := r1
        subst r1
        have r2 : sh_Eq x (n0 + t + 1) (sh_sum W2 (n0 + t) + i) W2 f2 m2 := r2
        have r3 : sh_Ef x m m2 := r3
        obtain ⟨p1, p2⟩ := hg (t * b + i) (by omega)
        have e103 : sf_103 (Int32.ofNat (w + (t * b + i))) m2 = some (Int32.ofNat (g (t * b + i))) := by
          have := sh_103 hrs (show w + (t * b + i) < u by omega) p1
          unfold sf_103 at this ⊢
          rw [r3.I 44 (by omega) (by omega) (by omega) (by omega), r3.I 45 (by omega) (by omega) (by omega) (by omega)]
          exact this
        obtain ⟨m3, s1, s2, s3, s4⟩ := sh_104 r2 (by rw [W2n _ (by omega)]; exact hi) (by omega)
        rw [f2n _ _ (by omega), show n0 + t - n0 = t by omega] at s1
        refine ⟨(Int32.ofNat i + 1, m3), ?_, sh_nI1, s2, r3.trans s3, s4.trans r4⟩
        show sf_101_31s x _ _ _ _ (Int32.ofNat i) m2 = _
        unfold sf_101_31s
        rw [if_pos ((sh_nIlt (by omega) (by omega)).mpr hi), sh_nImul, sh_nIadd, sh_nIadd, Nat.add_assoc, e103, sh_bc_some, s1, sh_bn_some]) (Nat.zero_le _) ⟨rfl, hE, hF, rfl⟩
    have q1 : c = Int32.ofNat b := q1
    subst q1
    refine ⟨m2, q4 _ ?_, q2, q3, q5⟩
    show sf_101_31s x _ _ _ _ (Int32.ofNat b) m2 = _
    unfold sf_101_31s
    rw [if_neg (sh_nlt0 b)]
  have e42 : sf_42 1 (sf_93 (Int32.ofNat (sh_te k b nn))) = Int32.ofNat (sh_mx nn) := by rw [sh_93 ht, sh_42_mx (by omega)]
  unfold sf_101 sf_101_9
  obtain ⟨⟨c, m2⟩, ⟨q1, q2, q3, q5, q6⟩, q4⟩ := sh_loop (f := fun q => sf_101_9s x (Int32.ofNat (sh_te k b nn)) (Int32.ofNat w) (sf_94 (Int32.ofNat (sh_te k b nn))) q.1 q.2) (n := sh_mx nn) (i := 0) (s := (0, m))
    (fun t s => s.1 = Int32.ofNat t ∧ sh_Eq x (n0 + t) (sh_sum W2 (n0 + t)) W2 f2 s.2 ∧ sh_Ef x m s.2 ∧ (∀ y, y < n0 → s.2.J (x + 3) y = m.J (x + 3) y) ∧ ∀ y, n0 ≤ y → y < n0 + t → s.2.J (x + 3) y = 0) (by
      rintro t ⟨c, m2⟩ ht' ⟨r1, r2, r3, r4, r5⟩
      have r1 : c = Int32.ofNat t := r1
      subst r1
      have r2 : sh_Eq x (n0 + t) (sh_sum W2 (n0 + t)) W2 f2 m2 := r2
      have r3 : sh_Ef x m m2 := r3
      have st := sum2 t
      have tb : t * b + b ≤ sh_mx nn * b := by rw [← Nat.succ_mul]; exact Nat.mul_le_mul_right b ht'
      obtain ⟨m3, s1, s2, s3, s4, s5⟩ := sh_102 r2 (by omega) (by omega)
      rw [W2n _ (by omega)] at s1
      obtain ⟨m4, t1, t2, t3, t4⟩ := inner t ht' m3 s2 (r3.trans s3)
      refine ⟨(Int32.ofNat t + 1, m4), ?_, sh_nI1, ?_, t3, fun y hy => ?_, fun y h1 h2 => ?_⟩
      · show sf_101_9s x _ _ _ (Int32.ofNat t) m2 = _
        unfold sf_101_9s
        rw [e42, if_pos ((sh_nIlt (by omega) (by omega)).mpr ht'), sh_94 ht, s1, sh_bn_some, t1]
      · have : sh_sum W2 (n0 + (t + 1)) = sh_sum W2 (n0 + t) + b := by
          show sh_sum W2 (n0 + t) + W2 (n0 + t) = _
          rw [W2n _ (by omega)]
        rw [this]
        exact t2
      · show m4.J (x + 3) y = _
        rw [t4, s5 y (by omega)]
        exact r4 y hy
      · show m4.J (x + 3) y = 0
        rw [t4]
        by_cases e : y = n0 + t
        · rw [e]; exact s4
        · rw [s5 y e]; exact r5 y h1 (by omega)) (Nat.zero_le _) ⟨rfl, E0, sh_Ef.refl m, fun _ _ => rfl, fun y h1 h2 => absurd h2 (by omega)⟩
  have q1 : c = Int32.ofNat (sh_mx nn) := q1
  subst q1
  have q2 : sh_Eq x (n0 + sh_mx nn) (sh_sum W2 (n0 + sh_mx nn)) W2 f2 m2 := q2
  refine ⟨m2, g, q4 _ ?_, ?_, by rw [← hW2]; exact sum2 _, q3, ⟨q5, q6⟩, hg⟩
  · show sf_101_9s x _ _ _ (Int32.ofNat (sh_mx nn)) m2 = _
    unfold sf_101_9s
    rw [e42, if_neg (sh_nlt0 _)]
  · rw [← hW2, ← hf2]
    exact q2.Ev h1 (by rw [sum2]; exact h2) (fun y hy => by
      by_cases hy2 : y < n0
      · rw [W2l y hy2]; exact E.w1 y hy2
      · rw [W2n y (by omega)]; exact b2)
