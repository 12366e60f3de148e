/-! division with signs; all signs -/
theorem sh_val.keep {m m2 : sh_X} {e gs : sh_gL} {u u2 v n : Nat} {F : Nat → (Nat → Bool) → Bool} (h : sh_val m gs u v n F) (hu : u ≤ u2) (hp : ∀ j, j < u → m2.I 45 j = m.I 45 j) : sh_val m2 (e ++ gs) u2 v n F := by
  have h1 := h.1
  refine ⟨by omega, fun j hj => ?_⟩
  obtain ⟨x, h2, h3⟩ := h.2 j hj
  exact ⟨x, ⟨by rw [hp (v + j) (by omega)]; exact h2.1, sh_lt_app h2.2⟩, fun p => by rw [sh_va_ext p _ h2.2]; exact h3 p⟩
theorem sh_val.cong {m : sh_X} {gs : sh_gL} {u v n : Nat} {F G : Nat → (Nat → Bool) → Bool} (h : sh_val m gs u v n F) (hF : ∀ j, j < n → ∀ p, F j p = G j p) : sh_val m gs u v n G :=
  ⟨h.1, fun j hj => by obtain ⟨x, h2, h3⟩ := h.2 j hj; exact ⟨x, h2, fun p => (h3 p).trans (hF j hj p)⟩⟩
theorem sh_keep1 {e gs : sh_gL} {x : Nat} {f : (Nat → Bool) → Bool} (hx : x < gs.length) (hf : ∀ p, sh_va p gs x = f p) : x < (e ++ gs).length ∧ ∀ p, sh_va p (e ++ gs) x = f p := ⟨sh_lt_app hx, fun p => by rw [sh_va_ext p _ hx]; exact hf p⟩
/-- -x where t is true -/
def sh_nt (a : Nat → Bool) (t : Bool) (j : Nat) : Bool := Bool.xor (Bool.xor (a j) t) (sh_ng a t j)
/-- the bits of a quotient or a rest of sizes -/
def sh_dq (r : Bool) (a b : Nat → Bool) (n j : Nat) : Bool := if r = true then sh_dR a b n n j else sh_dF (sh_dS (sh_dR a b n (n - 1 - j)) (a j)) b n
/-- the bits of a quotient or a rest -/
def sh_dv (s r : Bool) (a b : Nat → Bool) (n j : Nat) : Bool := if s = true then sh_nt (sh_dq r (sh_nt a (a (n - 1))) (sh_nt b (b (n - 1))) n) (if r = true then a (n - 1) else (Bool.xor (a (n - 1)) (b (n - 1)) && sh_or b n)) j else sh_dq r a b n j
/-- Reckoner.divide -/
theorem sh_182s {gs : sh_gL} {u v w n : Nat} {t : Int32} {r : Bool} {m : sh_X} {F H : Nat → (Nat → Bool) → Bool} (h : sh_RS gs u m) (h46 : m.T[46]? = some (.inl (0, 65))) (ht : sf_94 t = Int32.ofNat n) (hx : sh_val m gs u v n F) (hy : sh_val m gs u w n H) (h1n : 1 ≤ n) (hn : n ≤ 64) (hub : u + 5 * n ≤ 8192) (hl : gs.length + (8 * n + 19) * n ≤ 65536) (hs : sf_114 t = true) :
    sh_rop ((8 * n + 19) * n) (5 * n) n gs u m (sf_182 (Int32.ofNat v) (Int32.ofNat w) t r m) (fun j p => sh_dv (sf_114 t) r (fun j => F j p) (fun j => H j p) n j) := by
  have hw := hx.1
  have hw2 := hy.1
  have hK : (8 * n + 19) * n = (8 * n + 3) * n + 16 * n := by rw [← Nat.add_mul]
  unfold sf_182
  rw [ht]
  rw [if_pos hs]
  obtain ⟨sx, x1, x2⟩ := hx.2 (n - 1) (by omega)
  obtain ⟨sy, y1, y2⟩ := hy.2 (n - 1) (by omega)
  have ax : (Int32.ofNat v + Int32.ofNat n) - 1 = Int32.ofNat (v + (n - 1)) := by rw [sh_nIadd, show (1 : Int32) = Int32.ofNat 1 from rfl, sh_nIs (by omega)]; congr 1; omega
  have ay : (Int32.ofNat w + Int32.ofNat n) - 1 = Int32.ofNat (w + (n - 1)) := by rw [sh_nIadd, show (1 : Int32) = Int32.ofNat 1 from rfl, sh_nIs (by omega)]; congr 1; omega
  rw [ax, sh_103 h (by omega) x1]
  show sh_rop _ _ _ _ _ _ (sh_bc (sf_103 ((Int32.ofNat w + Int32.ofNat n) - 1) m) _) _
  rw [ay, sh_103 h (by omega) y1]
  show sh_rop _ _ _ _ _ _ (sh_bn (sf_166 (Int32.ofNat v) (Int32.ofNat n) (Int32.ofNat sx) m) _) _
  obtain ⟨e1, w1, u1, m1, a1, a2, a3, a4, a5, a6, a7, a8⟩ := sh_166 h hx x1.2 x2 (by omega) (by omega)
  rw [a1, sh_bn_some]
  have hy1 : sh_val m1 (e1 ++ gs) u1 w n H := hy.keep a3 a6
  obtain ⟨y3, y4⟩ := sh_keep1 (e := e1) y1.2 y2
  obtain ⟨x3, x4⟩ := sh_keep1 (e := e1) x1.2 x2
  obtain ⟨e2, w2, u2, m2, b1, b2, b3, b4, b5, b6, b7, b8⟩ := sh_166 a2 hy1 y3 y4 (by omega) (by rw [List.length_append]; omega)
  rw [b1, sh_bn_some]
  have hz : sh_val m2 (e2 ++ (e1 ++ gs)) u2 w1 n _ := a8.keep b3 b6
  have hy2 : sh_val m2 (e2 ++ (e1 ++ gs)) u2 w n H := hy1.keep b3 b6
  obtain ⟨y5, y6⟩ := sh_keep1 (e := e2) y3 y4
  obtain ⟨x5, x6⟩ := sh_keep1 (e := e2) x3 x4
  have t46 : m2.T[46]? = some (.inl (0, 65)) := b5.T 46 _ (by omega) (a5.T 46 _ (by omega) h46)
  obtain ⟨e3, w3, u3, m3, c1, c2, c3, c4, c5, c6, c7, c8⟩ := sh_183 (r := r) b2 t46 hz b8 h1n hn (by omega) (by rw [List.length_append, List.length_append]; omega)
  rw [c1, sh_bn_some]
  have hy3 : sh_val m3 (e3 ++ (e2 ++ (e1 ++ gs))) u3 w n H := hy2.keep c3 c6
  obtain ⟨y7, y8⟩ := sh_keep1 (e := e3) y5 y6
  obtain ⟨x7, x8⟩ := sh_keep1 (e := e3) x5 x6
  have len3 : (e3 ++ (e2 ++ (e1 ++ gs))).length ≤ gs.length + (7 * n + (8 * n + 3) * n) := by simp only [List.length_append]; omega
  -- the end: a last turn
  have fin : ∀ (e4 : sh_gL) (k : Nat) (m4 : sh_X) (fk : (Nat → Bool) → Bool), sh_RS (e4 ++ (e3 ++ (e2 ++ (e1 ++ gs)))) u3 m4 → sh_Rf m3 m4 → (∀ j, j < u3 → m4.I 45 j = m3.I 45 j) → e4.length ≤ 3 * n + 2 → k < (e4 ++ (e3 ++ (e2 ++ (e1 ++ gs)))).length → (∀ p, sh_va p (e4 ++ (e3 ++ (e2 ++ (e1 ++ gs)))) k = fk p) → sh_rop ((8 * n + 19) * n) (5 * n) n gs u m (sf_182_119 (Int32.ofNat n) (Int32.ofNat w3) (Int32.ofNat k) m4) (fun j p => sh_nt (sh_dq r (sh_nt (fun j => F j p) (F (n - 1) p)) (sh_nt (fun j => H j p) (H (n - 1) p)) n) (fk p) j) := by
    intro e4 k m4 fk g1 g2 g3 g4 g5 g6
    have g7 : sh_val m4 (e4 ++ (e3 ++ (e2 ++ (e1 ++ gs)))) u3 w3 n _ := c8.keep (Nat.le_refl _) g3
    have len4 : (e4 ++ (e3 ++ (e2 ++ (e1 ++ gs)))).length ≤ gs.length + (10 * n + 2 + (8 * n + 3) * n) := by rw [List.length_append]; omega
    obtain ⟨e5, w5, u5, m5, d1, d2, d3, d4, d5, d6, d7, d8⟩ := sh_166 g1 g7 g5 g6 (by omega) (by omega)
    have hass : e5 ++ (e4 ++ (e3 ++ (e2 ++ (e1 ++ gs)))) = (e5 ++ (e4 ++ (e3 ++ (e2 ++ e1)))) ++ gs := by simp only [List.append_assoc]
    refine ⟨e5 ++ (e4 ++ (e3 ++ (e2 ++ e1))), w5, u5, m5, ?_, ?_, by omega, by omega, a5.trans (b5.trans (c5.trans (g2.trans d5))), ?_, ?_, ?_⟩
    · unfold sf_182_119
      rw [d1]
      rfl
    · rw [← hass]; exact d2
    · intro j hj
      rw [d6 j (by omega), g3 j (by omega), c6 j (by omega), b6 j (by omega), a6 j hj]
    · simp only [List.length_append]; omega
    · rw [← hass]
      exact d8.cong (fun j hj p => rfl)
  by_cases hr : r = true
  · rw [if_pos hr]
    have := fin [] sx m3 _ c2 (sh_Rf.refl m3) (fun j _ => rfl) (Nat.zero_le _) x7 x8
    obtain ⟨e9, w9, u9, m9, q1, q2, q3, q4, q5, q6, q7, q8⟩ := this
    refine ⟨e9, w9, u9, m9, q1, q2, q3, q4, q5, q6, q7, q8.cong (fun j hj p => ?_)⟩
    unfold sh_dv
    rw [if_pos hs, if_pos hr]
  · rw [if_neg hr]
    have h0 := sh_RI_00 c2
    have rm := h0.room (N := 1) (by omega)
    obtain ⟨f1, k1, m4, g1, g2, g3, g4⟩ := h0.op (sh_130' c2.1 x7 y7 (by omega) x8 y8)
    rw [show sf_130 (Int32.ofNat sx) (Int32.ofNat sy) m3 = some (Int32.ofNat k1, m4) from g1, sh_bn_some]
    rw [List.append_nil] at g2 g3 g4
    have l1 := g2.le
    obtain ⟨f2, k2, m5, i1, i2, i3, i4⟩ := sh_186 g2.rs (hy3.keep (Nat.le_refl _) g2.po) (by rw [List.length_append]; omega)
    rw [i1, sh_bn_some]
    have l2 := i2.le
    obtain ⟨g5, g6⟩ := sh_keep1 (e := f2) g3 g4
    have h1 := sh_RI_00 i2.rs
    have rm1 := h1.room (N := 1) (by simp only [List.length_append] at *; omega)
    obtain ⟨f3, k3, m6, j1, j2, j3, j4⟩ := h1.op (sh_132' i2.rs.1 g5 i3 (by simp only [List.length_append] at *; omega) g6 i4)
    rw [show sf_132 (Int32.ofNat k1) (Int32.ofNat k2) m5 = some (Int32.ofNat k3, m6) from j1, sh_bn_some]
    rw [List.append_nil] at j2 j3 j4
    have l3 := j2.le
    have hass : f3 ++ (f2 ++ (f1 ++ (e3 ++ (e2 ++ (e1 ++ gs))))) = (f3 ++ (f2 ++ f1)) ++ (e3 ++ (e2 ++ (e1 ++ gs))) := by simp only [List.append_assoc]
    have rs := j2.rs
    rw [hass] at rs j3
    have := fin (f3 ++ (f2 ++ f1)) k3 m6 (fun p => Bool.xor (F (n - 1) p) (H (n - 1) p) && sh_or (fun j => H j p) n) rs (g2.fr.trans (i2.fr.trans j2.fr)) (fun j hj => by rw [j2.po j (by omega), i2.po j (by omega), g2.po j hj]) (by simp only [List.length_append]; omega) j3 (fun p => by rw [← hass]; exact j4 p)
    obtain ⟨e9, w9, u9, m9, q1, q2, q3, q4, q5, q6, q7, q8⟩ := this
    refine ⟨e9, w9, u9, m9, q1, q2, q3, q4, q5, q6, q7, q8.cong (fun j hj p => ?_)⟩
    unfold sh_dv
    rw [if_pos hs, if_neg hr]
theorem sh_182u {gs : sh_gL} {u v w n : Nat} {t : Int32} {r : Bool} {m : sh_X} {F H : Nat → (Nat → Bool) → Bool} (h : sh_RS gs u m) (h46 : m.T[46]? = some (.inl (0, 65))) (ht : sf_94 t = Int32.ofNat n) (hx : sh_val m gs u v n F) (hy : sh_val m gs u w n H) (h1n : 1 ≤ n) (hn : n ≤ 64) (hub : u + 2 * n ≤ 8192) (hl : gs.length + (n + (8 * n + 3) * n) ≤ 65536) (hs : ¬ sf_114 t = true) :
    sh_rop (n + (8 * n + 3) * n) (2 * n) n gs u m (sf_182 (Int32.ofNat v) (Int32.ofNat w) t r m) (fun j p => sh_dv (sf_114 t) r (fun j => F j p) (fun j => H j p) n j) := by
  unfold sf_182
  rw [ht, if_neg hs]
  obtain ⟨e9, w9, u9, m9, q1, q2, q3, q4, q5, q6, q7, q8⟩ := sh_rop_id (sh_183 (r := r) h h46 hx hy h1n hn hub hl)
  refine ⟨e9, w9, u9, m9, q1, q2, q3, q4, q5, q6, q7, q8.cong (fun j hj p => ?_)⟩
  unfold sh_dv
  rw [if_neg hs]
  rfl
