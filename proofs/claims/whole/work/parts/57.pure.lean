/-! Reckoner.reckon: all signs but the shifts -/
def sh_sm (k : Bool) (a b : Nat → Bool) (j : Nat) : Bool := Bool.xor (Bool.xor (a j) (sh_cy a (fun j => Bool.xor (b j) k) k j)) (Bool.xor (b j) k)
def sh_lt (s : Bool) (n : Nat) (a b : Nat → Bool) : Bool := !sh_cy (sh_bl s n a) (fun j => !sh_bl s n b j) true n
def sh_df (n : Nat) (a b : Nat → Bool) : Bool := sh_or (fun j => Bool.xor (a j) (b j)) n
/-- the bits of what a sign makes -/
def sh_rk (c : Int32) (s : Bool) (n : Nat) (a b : Nat → Bool) (j : Nat) : Bool :=
  if c = 37 then sh_dv s true a b n j else if c = 42 then sh_pr a b (n - 1) j else if c = 43 then sh_sm false a b j else if c = 45 then sh_sm true a b j else if c = 47 then sh_dv s false a b n j
  else if c = 60 then sh_lt s n a b else if c = 62 then sh_lt s n b a else if c = 8509 then sh_df n a b else if c = 15421 then !sh_lt s n b a else if c = 15677 then !sh_df n a b else if c = 15933 then !sh_lt s n a b
  else sh_bw c (a j) (b j)
/-- does a sign make one bit? -/
def sh_tst (c : Int32) : Bool := decide (c = 60 ∨ c = 62 ∨ c = 8509 ∨ c = 15421 ∨ c = 15677 ∨ c = 15933)
def sh_pc (c : Int32) (n : Nat) : Nat := if c = 42 then n * n else if c = 47 ∨ c = 37 then 2 * (n * n) else n
theorem sh_rop.more {N N2 S S2 n : Nat} {gs : sh_gL} {u : Nat} {m : sh_X} {q : Option (Int32 × sh_X)} {F G : Nat → (Nat → Bool) → Bool} (h : sh_rop N S n gs u m q F) (hN : N ≤ N2) (hS : S ≤ S2) (hF : ∀ j, j < n → ∀ p, F j p = G j p) : sh_rop N2 S2 n gs u m q G := by
  obtain ⟨e9, w9, u9, m9, q1, q2, q3, q4, q5, q6, q7, q8⟩ := h
  exact ⟨e9, w9, u9, m9, q1, q2, q3, by omega, q5, q6, by omega, q8.cong hF⟩
theorem sh_wop.not {L : Nat} {gs : sh_gL} {u : Nat} {m : sh_X} {q : Option (Int32 × sh_X)} {f : (Nat → Bool) → Bool} {k : Int32 → sh_X → Option (Int32 × sh_X)} (hq : sh_wop L gs u m q f) (hl : gs.length + (L + 1) ≤ 65536) : ∃ e r m2 m3 r2, q = some (Int32.ofNat r, m2) ∧ sf_141 (Int32.ofNat r) m2 = some (Int32.ofNat r2, m3) ∧ sh_RI (L + 1) sh_Fz gs u 0 m 0 e m3 ∧ r2 < (e ++ gs).length ∧ ∀ p, sh_va p (e ++ gs) r2 = !f p := by
  obtain ⟨e, r, m2, h1, h2, h3, h4⟩ := hq
  have rm := h2.room (N := 1) hl
  obtain ⟨e2, r2, m3, k1, k2, k3, k4⟩ := h2.op (sh_141' h2.rs.1 h3 (by omega) h4)
  exact ⟨e2 ++ e, r, m2, m3, r2, h1, k1, k2, k3, k4⟩
theorem sh_sgl {L : Nat} {gs : sh_gL} {u : Nat} {m : sh_X} {q : Option (Int32 × sh_X)} {f : (Nat → Bool) → Bool} (hq : sh_wop L gs u m q f) (hn : u + 1 ≤ 8192) : sh_rop L 1 1 gs u m (sh_bn q fun r m => sh_bn (sf_188 r m) fun r m => some (r, m)) (fun _ p => f p) :=
  sh_rop.wop (N := 0) hq (fun e r m2 g1 g2 g3 g4 => sh_rop_id (sh_188 g1 g3 g4 hn))
theorem sh_sgn {L : Nat} {gs : sh_gL} {u : Nat} {m : sh_X} {q : Option (Int32 × sh_X)} {f : (Nat → Bool) → Bool} (hq : sh_wop L gs u m q f) (hl : gs.length + (L + 1) ≤ 65536) (hn : u + 1 ≤ 8192) : sh_rop (L + 1) 1 1 gs u m (sh_bn q fun r m => sh_bn (sf_141 r m) fun r m => sh_bn (sf_188 r m) fun r m => some (r, m)) (fun _ p => !f p) := by
  obtain ⟨e, r, m2, m3, r2, h1, h2, h3, h4, h5⟩ := sh_wop.not (k := fun _ _ => none) hq hl
  have := sh_sgl (q := some (Int32.ofNat r2, m3)) (f := fun p => !f p) ⟨e, r2, m3, rfl, h3, h4, h5⟩ hn
  rw [sh_bn_some] at this
  rw [h1, sh_bn_some, h2, sh_bn_some]
  exact this
/-- Reckoner.reckon -/
theorem sh_178 {gs : sh_gL} {u v w n : Nat} {c t : Int32} {m : sh_X} {F H : Nat → (Nat → Bool) → Bool} (h : sh_RS gs u m) (h46 : m.T[46]? = some (.inl (0, 65))) (ht : sf_94 t = Int32.ofNat n) (hx : sh_val m gs u v n F) (hy : sh_val m gs u w n H) (h1n : 1 ≤ n) (hn : n ≤ 64) (hsg : sf_114 t = true → 2 ≤ n) (hub : 4 * u + 5 * sh_pc c n ≤ 4 * 8192) (hl : gs.length + 14 * sh_pc c n ≤ 65536) :
    ∃ S, 4 * S ≤ 5 * sh_pc c n ∧ sh_rop (14 * sh_pc c n) S (if sh_tst c = true then 1 else n) gs u m (sf_178 c (Int32.ofNat v) (Int32.ofNat w) t m) (fun j p => sh_rk c (sf_114 t) n (fun j => F j p) (fun j => H j p) j) := by
  have hnn : n ≤ n * n := Nat.le_mul_of_pos_left n h1n
  have h2nn : sf_114 t = true → 2 * n ≤ n * n := fun q => Nat.mul_le_mul_right n (hsg q)
  have e8 : (8 * n + 3) * n = 8 * (n * n) + 3 * n := by rw [Nat.add_mul, Nat.mul_assoc]
  have e9 : (8 * n + 19) * n = 8 * (n * n) + 19 * n := by rw [Nat.add_mul, Nat.mul_assoc]
  have e6 : 6 * n * n = 6 * (n * n) := Nat.mul_assoc _ _ _
  unfold sf_178
  by_cases c37 : c = 37
  · subst c37
    have pc : sh_pc 37 n = 2 * (n * n) := rfl
    rw [pc] at hub hl ⊢
    rw [if_pos rfl, if_neg (by decide)]
    by_cases hs : sf_114 t = true
    · have q := h2nn hs
      exact ⟨5 * n, by omega, (sh_rop_id (sh_182s (r := true) h h46 ht hx hy h1n hn (by omega) (by omega) hs)).more (by omega) (Nat.le_refl _) (fun j _ p => rfl)⟩
    · exact ⟨2 * n, by omega, (sh_rop_id (sh_182u (r := true) h h46 ht hx hy h1n hn (by omega) (by omega) hs)).more (by omega) (Nat.le_refl _) (fun j _ p => rfl)⟩
  rw [if_neg c37]
  by_cases c42 : c = 42
  · subst c42
    have pc : sh_pc 42 n = n * n := rfl
    rw [pc] at hub hl ⊢
    rw [if_pos rfl, if_neg (by decide), ht]
    exact ⟨n, by omega, (sh_rop_id (sh_181 h hx hy h1n (by omega) (by omega))).more (by omega) (Nat.le_refl _) (fun j _ p => rfl)⟩
  rw [if_neg c42]
  by_cases c47 : c = 47
  · subst c47
    have pc : sh_pc 47 n = 2 * (n * n) := rfl
    rw [pc] at hub hl ⊢
    rw [if_neg (by decide), if_neg (by decide), if_pos rfl, if_neg (by decide)]
    by_cases hs : sf_114 t = true
    · have q := h2nn hs
      exact ⟨5 * n, by omega, (sh_rop_id (sh_182s (r := false) h h46 ht hx hy h1n hn (by omega) (by omega) hs)).more (by omega) (Nat.le_refl _) (fun j _ p => rfl)⟩
    · exact ⟨2 * n, by omega, (sh_rop_id (sh_182u (r := false) h h46 ht hx hy h1n hn (by omega) (by omega) hs)).more (by omega) (Nat.le_refl _) (fun j _ p => rfl)⟩
  have pc : sh_pc c n = n := by
    unfold sh_pc
    rw [if_neg c42, if_neg (by rintro (q | q); exact c47 q; exact c37 q)]
  rw [pc] at hub hl ⊢
  by_cases c43 : c = 43
  · subst c43
    rw [if_pos rfl, if_neg (by decide), ht]
    exact ⟨n, by omega, (sh_rop_id (sh_179 (k := 0) h hx hy (by omega) (by omega) (by omega))).more (by omega) (Nat.le_refl _) (fun j _ p => rfl)⟩
  rw [if_neg c43]
  by_cases c45 : c = 45
  · subst c45
    rw [if_pos rfl, if_neg (by decide), ht]
    exact ⟨n, by omega, (sh_rop_id (sh_179 (k := 1) h hx hy (by omega) (by omega) (by omega))).more (by omega) (Nat.le_refl _) (fun j _ p => rfl)⟩
  rw [if_neg c45, if_neg c47]
  by_cases c60 : c = 60
  · subst c60
    rw [if_pos rfl, if_pos (by decide), ht]
    exact ⟨1, by omega, (sh_sgl (sh_189 (s := sf_114 t) h hx hy (by omega)) (by omega)).more (by omega) (Nat.le_refl _) (fun j _ p => rfl)⟩
  rw [if_neg c60]
  by_cases c62 : c = 62
  · subst c62
    rw [if_pos rfl, if_pos (by decide), ht]
    exact ⟨1, by omega, (sh_sgl (sh_189 (s := sf_114 t) h hy hx (by omega)) (by omega)).more (by omega) (Nat.le_refl _) (fun j _ p => rfl)⟩
  rw [if_neg c62]
  by_cases c33 : c = 8509
  · subst c33
    rw [if_pos rfl, if_pos (by decide), ht]
    exact ⟨1, by omega, (sh_sgl (sh_187 h hx hy (by omega)) (by omega)).more (by omega) (Nat.le_refl _) (fun j _ p => rfl)⟩
  rw [if_neg c33]
  by_cases cle : c = 15421
  · subst cle
    rw [if_pos rfl, if_pos (by decide), ht]
    exact ⟨1, by omega, (sh_sgn (sh_189 (s := sf_114 t) h hy hx (by omega)) (by omega) (by omega)).more (by omega) (Nat.le_refl _) (fun j _ p => rfl)⟩
  rw [if_neg cle]
  by_cases ceq : c = 15677
  · subst ceq
    rw [if_pos rfl, if_pos (by decide), ht]
    exact ⟨1, by omega, (sh_sgn (sh_187 h hx hy (by omega)) (by omega) (by omega)).more (by omega) (Nat.le_refl _) (fun j _ p => rfl)⟩
  rw [if_neg ceq]
  by_cases cge : c = 15933
  · subst cge
    rw [if_pos rfl, if_pos (by decide), ht]
    exact ⟨1, by omega, (sh_sgn (sh_189 (s := sf_114 t) h hx hy (by omega)) (by omega) (by omega)).more (by omega) (Nat.le_refl _) (fun j _ p => rfl)⟩
  rw [if_neg cge, ht]
  have nt : ¬ sh_tst c = true := by
    unfold sh_tst
    simp only [decide_eq_true_eq]
    rintro (q | q | q | q | q | q)
    · exact c60 q
    · exact c62 q
    · exact c33 q
    · exact cle q
    · exact ceq q
    · exact cge q
  rw [if_neg nt]
  refine ⟨n, by omega, (sh_rop_id (sh_190 (s := c) h hx hy (by omega) (by omega))).more (by omega) (Nat.le_refl _) (fun j _ p => ?_)⟩
  unfold sh_rk
  rw [if_neg c37, if_neg c42, if_neg c43, if_neg c45, if_neg c47, if_neg c60, if_neg c62, if_neg c33, if_neg cle, if_neg ceq, if_neg cge]
