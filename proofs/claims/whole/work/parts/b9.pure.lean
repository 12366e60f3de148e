/-! numbers: what the signs make, in the model -/
/-- the result of the model may change, and the cost; nothing else -/
def sh_Rr (m m2 : sh_X) : Prop := (m2.T = m.T) ∧ (m2.s = m.s) ∧ (∀ x, x ≠ 66 → m2.I x = m.I x) ∧ (∀ x, x ≠ 66 → m2.J x = m.J x) ∧ (∀ f, f ≠ 42 → f ≠ 43 → f ≠ 44 → f ≠ 45 → m2.I 66 f = m.I 66 f)
theorem sh_Rr.T {m m2 : sh_X} (h : sh_Rr m m2) : m2.T = m.T := h.1
theorem sh_Rr.s {m m2 : sh_X} (h : sh_Rr m m2) : m2.s = m.s := h.2.1
theorem sh_Rr.I {m m2 : sh_X} (h : sh_Rr m m2) : ∀ x, x ≠ 66 → m2.I x = m.I x := h.2.2.1
theorem sh_Rr.J {m m2 : sh_X} (h : sh_Rr m m2) : ∀ x, x ≠ 66 → m2.J x = m.J x := h.2.2.2.1
theorem sh_Rr.F {m m2 : sh_X} (h : sh_Rr m m2) : ∀ f, f ≠ 42 → f ≠ 43 → f ≠ 44 → f ≠ 45 → m2.I 66 f = m.I 66 f := h.2.2.2.2
theorem sh_Rr.mk {m m2 : sh_X} (T : m2.T = m.T) (s : m2.s = m.s) (I : ∀ x, x ≠ 66 → m2.I x = m.I x) (J : ∀ x, x ≠ 66 → m2.J x = m.J x) (F : ∀ f, f ≠ 42 → f ≠ 43 → f ≠ 44 → f ≠ 45 → m2.I 66 f = m.I 66 f) : sh_Rr m m2 := ⟨T, s, I, J, F⟩
theorem sh_Rr.refl (m : sh_X) : sh_Rr m m := sh_Rr.mk rfl rfl (fun _ _ => rfl) (fun _ _ => rfl) (fun _ _ _ _ _ => rfl)
theorem sh_Rr.trans {m m2 m3 : sh_X} (h : sh_Rr m m2) (g : sh_Rr m2 m3) : sh_Rr m m3 :=
  sh_Rr.mk (g.T.trans h.T) (g.s.trans h.s) (fun x a => (g.I x a).trans (h.I x a)) (fun x a => (g.J x a).trans (h.J x a)) (fun f a b c d => (g.F f a b c d).trans (h.F f a b c d))
theorem sh_Rr.wi {m : sh_X} {f : Nat} {x : Int32} (hf : f = 42 ∨ f = 43 ∨ f = 44 ∨ f = 45) : sh_Rr m (m.T, sh_u2 m.I 66 f x, m.J, m.s) :=
  sh_Rr.mk rfl rfl (fun c hc => sh_u2_cell hc) (fun _ _ => rfl) (fun g a b c d => by simp only [sh_X.I]; rw [sh_u2_idx (by omega)])
theorem sh_Rr.wj {m : sh_X} {i : Nat} {x : Int64} : sh_Rr m (m.T, m.I, sh_u2 m.J 66 i x, m.s) :=
  sh_Rr.mk rfl rfl (fun _ _ => rfl) (fun c hc => sh_u2_cell hc) (fun _ _ _ _ _ => rfl)
theorem sh_Ft_bit : ∀ b : Bool, ∀ j : Fin 64, sh_b (if b = true then 1 else 0) j.1 = sh_ct (fun _ => b) 1 false j.1 := by decide +kernel
theorem sh_Ft_b {b : Bool} {a : Nat → Bool} (h : a 0 = b) : sh_Ft false 1 a (if b = true then 1 else 0) := by
  intro j hj
  rw [sh_Ft_bit b ⟨j, hj⟩]
  exact sh_ct_cong (Nat.le_refl 1) (fun i hi => by rw [show i = 0 by omega, h]) j
theorem sh_306 {b : Bool} {m : sh_X} {x y : Int32} {a : Nat → Bool} (ha : a 0 = b) : ∃ m2 r, sf_306 b ⟨m.T, sh_u2 (sh_u2 m.I 66 43 x) 66 44 y, m.J, m.s⟩ = some ((), m2) ∧ sh_Rr m m2 ∧ m2.I 66 43 = Int32.ofNat 0 ∧ m2.I 66 44 = Int32.ofNat 1 ∧ m2.I 66 45 = m.I 66 45 ∧ m2.I 66 42 = m.I 66 42 ∧ m2.J 66 46 = r ∧ sh_Ft false 1 a r := by
  have f : ∀ v : Int64, sh_Rr m (m.T, sh_u2 (sh_u2 (sh_u2 (sh_u2 m.I 66 43 x) 66 44 y) 66 43 0) 66 44 1, sh_u2 m.J 66 46 v, m.s) := fun v =>
    sh_Rr.mk rfl rfl (fun c hc => by show sh_u2 _ _ _ _ c = _; rw [sh_u2_cell hc, sh_u2_cell hc, sh_u2_cell hc, sh_u2_cell hc]) (fun c hc => sh_u2_cell hc) (fun g h1 h2 h3 h4 => by simp only [sh_X.I]; rw [sh_u2_idx h3, sh_u2_idx h2, sh_u2_idx h3, sh_u2_idx h2])
  have g : ∀ i, i ≠ 43 → i ≠ 44 → sh_u2 (sh_u2 (sh_u2 (sh_u2 m.I 66 43 x) 66 44 y) 66 43 0) 66 44 1 66 i = m.I 66 i := fun i h1 h2 => by
    rw [sh_u2_idx h2, sh_u2_idx h1, sh_u2_idx h2, sh_u2_idx h1]
  have e3 : sh_u2 (sh_u2 (sh_u2 (sh_u2 m.I 66 43 x) 66 44 y) 66 43 0) 66 44 1 66 43 = Int32.ofNat 0 := by rw [sh_u2_idx (by omega), sh_u2_same]; rfl
  have e4 : sh_u2 (sh_u2 (sh_u2 (sh_u2 m.I 66 43 x) 66 44 y) 66 43 0) 66 44 1 66 44 = Int32.ofNat 1 := by rw [sh_u2_same]; rfl
  unfold sf_306 sf_306_20
  cases b
  · rw [if_neg (by decide)]
    exact ⟨_, 0, rfl, f 0, e3, e4, g 45 (by omega) (by omega), g 42 (by omega) (by omega), by simp only [sh_X.J]; rw [sh_u2_same], sh_Ft_b (b := false) ha⟩
  · rw [if_pos rfl]
    exact ⟨_, 1, rfl, f 1, e3, e4, g 45 (by omega) (by omega), g 42 (by omega) (by omega), by simp only [sh_X.J]; rw [sh_u2_same], sh_Ft_b (b := true) ha⟩
/-- the signs but the shifts -/
def sh_sg (c : Int32) : Prop := c = 31868 ∨ c = 9766 ∨ c = 124 ∨ c = 94 ∨ c = 38 ∨ c = 15677 ∨ c = 8509 ∨ c = 60 ∨ c = 62 ∨ c = 15421 ∨ c = 15933 ∨ c = 43 ∨ c = 45 ∨ c = 42 ∨ c = 47 ∨ c = 37
/-- signs that bools may have -/
def sh_sb (c : Int32) : Prop := c = 31868 ∨ c = 9766 ∨ c = 124 ∨ c = 94 ∨ c = 38 ∨ c = 15677 ∨ c = 8509
/-- kind and bits of what a sign makes -/
def sh_k2 (c : Int32) (k : Nat) : Nat := if sh_tst c = true then 0 else k
def sh_n2 (c : Int32) (n : Nat) : Nat := if sh_tst c = true then 1 else n
/-- what the model's reckon leaves -/
def sh_Ro (m m2 : sh_X) (k n : Nat) (r : Int64) : Prop := sh_Rr m m2 ∧ m2.I 66 43 = Int32.ofNat k ∧ m2.I 66 44 = Int32.ofNat n ∧ m2.I 66 45 = m.I 66 45 ∧ m2.I 66 42 = m.I 66 42 ∧ m2.J 66 46 = r
theorem sh_Ro_mk {m : sh_X} {k n : Nat} {r : Int64} : sh_Ro m (m.T, sh_u2 (sh_u2 m.I 66 43 (Int32.ofNat k)) 66 44 (Int32.ofNat n), sh_u2 m.J 66 46 r, m.s) k n r := by
  refine ⟨sh_Rr.mk rfl rfl (fun c hc => ?_) (fun c hc => sh_u2_cell hc) (fun g h1 h2 h3 h4 => ?_), ?_, ?_, ?_, ?_, ?_⟩
  · show sh_u2 _ _ _ _ c = _; rw [sh_u2_cell hc, sh_u2_cell hc]
  · simp only [sh_X.I]; rw [sh_u2_idx h3, sh_u2_idx h2]
  · simp only [sh_X.I]; rw [sh_u2_idx (by omega), sh_u2_same]
  · simp only [sh_X.I]; rw [sh_u2_same]
  · simp only [sh_X.I]; rw [sh_u2_idx (by omega), sh_u2_idx (by omega)]
  · simp only [sh_X.I]; rw [sh_u2_idx (by omega), sh_u2_idx (by omega)]
  · simp only [sh_X.J]; rw [sh_u2_same]
theorem sh_Ft_k0 {k n : Nat} (hk : sh_kd k n) {c : Nat → Bool} {x : Int64} (h : ∀ j, j < n → sh_b x j = c j) : sh_Ft (decide (k = 2)) n c (sf_288 (if Int32.ofNat k = 0 then 1 else Int32.ofNat k) (Int32.ofNat n) x) := by
  have k2 := hk.k2
  by_cases h0 : k = 0
  · subst h0
    rw [if_pos (show Int32.ofNat 0 = 0 from rfl)]
    exact sh_fitp hk.n1 hk.n2 1 h
  · rw [if_neg (show ¬ Int32.ofNat k = 0 from fun q => h0 ((sh_kI k2 (c := 0) (by omega)).mp q))]
    have := sh_fitp hk.n1 hk.n2 (Int32.ofNat k) h
    rw [show decide (Int32.ofNat k = 2) = decide (k = 2) from decide_eq_decide.mpr (sh_kI k2 (c := 2) (by omega))] at this
    exact this
theorem sh_Ft_k {k n : Nat} (hk : sh_kd k n) {c : Nat → Bool} {x : Int64} (h : ∀ j, j < n → sh_b x j = c j) : sh_Ft (decide (k = 2)) n c (sf_288 (Int32.ofNat k) (Int32.ofNat n) x) := by
  have := sh_fitp hk.n1 hk.n2 (Int32.ofNat k) h
  rw [show decide (Int32.ofNat k = 2) = decide (k = 2) from decide_eq_decide.mpr (sh_kI hk.k2 (c := 2) (by omega))] at this
  exact this
/-- reckon of the model, for all signs but the shifts -/
theorem sh_305 {c : Int32} {k n : Nat} (hc : sh_sg c) (hk : sh_kd k n) (h0 : k = 0 → sh_sb c) {a b : Nat → Bool} {v w : Int64} (ha : sh_Ft (decide (k = 2)) n a v) (hb : sh_Ft (decide (k = 2)) n b w) {m : sh_X} :
    ∃ m2 r, sf_305 c (Int32.ofNat k) (Int32.ofNat n) v w m = some ((), m2) ∧ sh_Ro m m2 (sh_k2 c k) (sh_n2 c n) r ∧ sh_Ft (decide (sh_k2 c k = 2)) (sh_n2 c n) (sh_rk c (decide (k = 2)) n a b) r := by
  have n1 := hk.n1
  have n2 := hk.n2
  have pick : ∀ y : Int64, (if Int32.ofNat k = 0 then (some ((), (m.T, sh_u2 (sh_u2 m.I 66 43 (Int32.ofNat k)) 66 44 (Int32.ofNat n), sh_u2 m.J 66 46 (sf_288 1 (Int32.ofNat n) y), m.s)) : Option (Unit × sh_X)) else some ((), (m.T, sh_u2 (sh_u2 m.I 66 43 (Int32.ofNat k)) 66 44 (Int32.ofNat n), sh_u2 m.J 66 46 (sf_288 (Int32.ofNat k) (Int32.ofNat n) y), m.s))) = some ((), (m.T, sh_u2 (sh_u2 m.I 66 43 (Int32.ofNat k)) 66 44 (Int32.ofNat n), sh_u2 m.J 66 46 (sf_288 (if Int32.ofNat k = 0 then 1 else Int32.ofNat k) (Int32.ofNat n) y), m.s)) := by
    intro y
    by_cases hz : Int32.ofNat k = 0
    · rw [if_pos hz, if_pos hz]
    · rw [if_neg hz, if_neg hz]
  have tst : ∀ t : Bool, sh_tst c = true → sh_rk c (decide (k = 2)) n a b 0 = t → sf_305 c (Int32.ofNat k) (Int32.ofNat n) v w m = (sh_bn (sf_306 t ⟨m.T, sh_u2 (sh_u2 m.I 66 43 (Int32.ofNat k)) 66 44 (Int32.ofNat n), m.J, m.s⟩) fun _ m17 => some ((), m17)) →
      ∃ m2 r, sf_305 c (Int32.ofNat k) (Int32.ofNat n) v w m = some ((), m2) ∧ sh_Ro m m2 (sh_k2 c k) (sh_n2 c n) r ∧ sh_Ft (decide (sh_k2 c k = 2)) (sh_n2 c n) (sh_rk c (decide (k = 2)) n a b) r := by
    intro t ht hr he
    obtain ⟨m2, r, e1, e2, e3, e4, e5, e6, e7, e8⟩ := sh_306 (m := m) (x := Int32.ofNat k) (y := Int32.ofNat n) hr
    refine ⟨m2, r, by rw [he, e1]; rfl, ?_⟩
    rw [show sh_k2 c k = 0 from if_pos ht, show sh_n2 c n = 1 from if_pos ht]
    exact ⟨⟨e2, e3, e4, e5, e6, e7⟩, e8⟩
  have ns : ∀ {c : Int32}, ¬ sh_tst c = true → sh_k2 c k = k ∧ sh_n2 c n = n := fun h => ⟨if_neg h, if_neg h⟩
  have num : ¬ sh_sb c → k = 1 ∨ k = 2 := fun q => by
    have := hk
    unfold sh_kd at this
    rcases this with ⟨z, _⟩ | ⟨z, _⟩
    · exact absurd (h0 z) q
    · exact z
  rcases hc with rfl | rfl | rfl | rfl | rfl | rfl | rfl | rfl | rfl | rfl | rfl | rfl | rfl | rfl | rfl | rfl
  · rw [(ns (by decide)).1, (ns (by decide)).2]
    unfold sf_305
    (repeat rw [if_neg (by decide)])
    rw [if_pos (by decide)]
    refine ⟨_, _, pick (v ||| w), sh_Ro_mk, sh_Ft_k0 hk (fun j hj => ?_)⟩
    rw [sh_or_b, ha.low n2 hj, hb.low n2 hj]
    rfl
  · rw [(ns (by decide)).1, (ns (by decide)).2]
    unfold sf_305
    rw [if_pos (by decide)]
    refine ⟨_, _, pick (v &&& w), sh_Ro_mk, sh_Ft_k0 hk (fun j hj => ?_)⟩
    rw [sh_and_b, ha.low n2 hj, hb.low n2 hj]
    rfl
  · rw [(ns (by decide)).1, (ns (by decide)).2]
    unfold sf_305
    (repeat rw [if_neg (by decide)])
    rw [if_pos (by decide)]
    refine ⟨_, _, pick (v ||| w), sh_Ro_mk, sh_Ft_k0 hk (fun j hj => ?_)⟩
    rw [sh_or_b, ha.low n2 hj, hb.low n2 hj]
    rfl
  · rw [(ns (by decide)).1, (ns (by decide)).2]
    unfold sf_305
    (repeat rw [if_neg (by decide)])
    rw [if_pos (by decide)]
    refine ⟨_, _, pick (v ^^^ w), sh_Ro_mk, sh_Ft_k0 hk (fun j hj => ?_)⟩
    rw [sh_xor_b, ha.low n2 hj, hb.low n2 hj]
    rfl
  · rw [(ns (by decide)).1, (ns (by decide)).2]
    unfold sf_305
    rw [if_pos (by decide)]
    refine ⟨_, _, pick (v &&& w), sh_Ro_mk, sh_Ft_k0 hk (fun j hj => ?_)⟩
    rw [sh_and_b, ha.low n2 hj, hb.low n2 hj]
    rfl
  · refine tst (decide (v = w)) (by decide) ?_ ?_
    · show (!sh_df n a b) = _
      rw [sh_df_iff n1 n2 ha hb]
      simp
    · unfold sf_305
      (repeat rw [if_neg (by decide)])
      rw [if_pos (by decide)]
      by_cases h : v = w
      · rw [if_pos h, decide_eq_true h]; rfl
      · rw [if_neg h, decide_eq_false h]; rfl
  · refine tst (decide (¬ v = w)) (by decide) ?_ ?_
    · show sh_df n a b = _
      rw [sh_df_iff n1 n2 ha hb]
    · unfold sf_305
      (repeat rw [if_neg (by decide)])
      rw [if_pos (by decide)]
      by_cases h : v = w
      · rw [if_pos h, decide_eq_false (by simp [h])]; rfl
      · rw [if_neg h, decide_eq_true h]; rfl
  · refine tst (sf_307 (Int32.ofNat k) v w) (by decide) (sh_307 hk ha hb).symm ?_
    unfold sf_305
    (repeat rw [if_neg (by decide)])
    rw [if_pos (by decide)]
  · refine tst (sf_307 (Int32.ofNat k) w v) (by decide) (sh_307 hk hb ha).symm ?_
    unfold sf_305
    (repeat rw [if_neg (by decide)])
    rw [if_pos (by decide)]
  · refine tst (!sf_307 (Int32.ofNat k) w v) (by decide) (congrArg Bool.not (sh_307 hk hb ha).symm) ?_
    unfold sf_305
    (repeat rw [if_neg (by decide)])
    rw [if_pos (by decide)]
    cases sf_307 (Int32.ofNat k) w v
    · rw [if_neg (by decide)]; rfl
    · rw [if_pos rfl]; rfl
  · refine tst (!sf_307 (Int32.ofNat k) v w) (by decide) (congrArg Bool.not (sh_307 hk ha hb).symm) ?_
    unfold sf_305
    (repeat rw [if_neg (by decide)])
    rw [if_pos (by decide)]
    cases sf_307 (Int32.ofNat k) v w
    · rw [if_neg (by decide)]; rfl
    · rw [if_pos rfl]; rfl
  · rw [(ns (by decide)).1, (ns (by decide)).2]
    unfold sf_305
    (repeat rw [if_neg (by decide)])
    rw [if_pos (by decide)]
    exact ⟨_, _, rfl, sh_Ro_mk, sh_Ft_k hk (fun j hj => sh_add_b n2 (fun i hi => ha.low n2 hi) (fun i hi => hb.low n2 hi) hj)⟩
  · rw [(ns (by decide)).1, (ns (by decide)).2]
    unfold sf_305
    (repeat rw [if_neg (by decide)])
    rw [if_pos (by decide)]
    exact ⟨_, _, rfl, sh_Ro_mk, sh_Ft_k hk (fun j hj => sh_sub_b n2 (fun i hi => ha.low n2 hi) (fun i hi => hb.low n2 hi) hj)⟩
  · rw [(ns (by decide)).1, (ns (by decide)).2]
    unfold sf_305
    (repeat rw [if_neg (by decide)])
    rw [if_pos (by decide)]
    exact ⟨_, _, rfl, sh_Ro_mk, sh_Ft_k hk (fun j hj => sh_mul_b n2 (fun i hi => ha.low n2 hi) (fun i hi => hb.low n2 hi) hj)⟩
  · have kk := num (by unfold sh_sb; decide)
    rw [(ns (by decide)).1, (ns (by decide)).2]
    unfold sf_305
    (repeat rw [if_neg (by decide)])
    rw [if_pos (by decide)]
    obtain ⟨q, q1, q2⟩ := sh_quot kk n1 n2 ha hb (m := ⟨m.T, sh_u2 (sh_u2 m.I 66 43 (Int32.ofNat k)) 66 44 (Int32.ofNat n), m.J, m.s⟩)
    rw [q1, sh_bc_some]
    exact ⟨_, _, rfl, sh_Ro_mk, sh_Ft_k hk (fun j hj => q2 j hj)⟩
  · have kk := num (by unfold sh_sb; decide)
    rw [(ns (by decide)).1, (ns (by decide)).2]
    unfold sf_305
    (repeat rw [if_neg (by decide)])
    by_cases hw : w = 0
    · subst hw
      rw [if_pos rfl]
      exact ⟨_, _, rfl, sh_Ro_mk, sh_Ft_k hk (fun j hj => sh_rest0 kk n1 n2 ha hb hj)⟩
    · rw [if_neg hw]
      obtain ⟨q, q1, q2⟩ := sh_rest kk n1 n2 ha hb hw (m := ⟨m.T, sh_u2 (sh_u2 m.I 66 43 (Int32.ofNat k)) 66 44 (Int32.ofNat n), m.J, m.s⟩)
      rw [q1, sh_bc_some]
      exact ⟨_, _, rfl, sh_Ro_mk, sh_Ft_k hk (fun j hj => q2 j hj)⟩
