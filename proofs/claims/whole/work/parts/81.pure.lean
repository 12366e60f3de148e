/-! PARSERS: small steps of the model; types -/
section
variable {N : Nat} {K : Nat → Int32} {P V : Nat → Nat}
theorem sh_Pm.N4 {p g : Nat} {m : sh_X} (h : sh_Pm N K P V p g m) : N ≤ 4000 := h.wq.1
theorem sh_mok {p g : Nat} {m : sh_X} (h : sh_Pm N K P V p g m) : sh_okb (m.I 66 21) 4002 = true ∧ Int32.toNatClampNeg (m.I 66 21) = p ∧ m.I 69 p = Int32.ofNat (P p) := by
  have := h.N4
  have := h.pN
  refine ⟨by rw [h.at_]; exact (sh_okn (by omega)).mpr (by omega), by rw [h.at_]; exact sh_nIc (by omega), h.wq.at h.pN⟩
theorem sh_Mx.mft {m : sh_X} {k x : Int32} (g : Nat) : sh_Mx g m (sh_mft k x m) := by
  refine sh_Mx.mk rfl rfl rfl ?_ ?_ ?_
  · intro c h1 _
    simp only [sh_mft, sh_X.I, sh_u2_cell h1]
  · intro j h6 h7 _ _ _ _
    simp only [sh_mft, sh_X.I, sh_u2_idx h7, sh_u2_idx h6]
  · intro y _ x h1 h2
    simp only [sh_mft, sh_X.I, sh_u2_cell (show x ≠ 66 by omega)]
theorem sh_mft_67 {m : sh_X} {k x : Int32} : (sh_mft k x m).I 66 6 = k ∧ (sh_mft k x m).I 66 7 = x := by
  simp [sh_mft, sh_X.I, sh_u2]
theorem sh_Pm.bad {p g : Nat} {m : sh_X} (h : sh_Pm N K P V p g m) : sh_bdm P p m (sh_mft 2 (m.I 69 p) m) := ⟨sh_Mx.mft 0, sh_mft_67.1, by rw [sh_mft_67.2]; exact (sh_mok h).2.2⟩
/-- one word on -/
theorem sh_madv {p g : Nat} {m : sh_X} (h : sh_Pm N K P V p g m) (hp : p < N) : sh_Pm N K P V (p + 1) g (m.T, sh_u2 m.I 66 21 (m.I 66 21 + 1), m.J, m.s) ∧ ∀ a, sh_Mf a m (m.T, sh_u2 m.I 66 21 (m.I 66 21 + 1), m.J, m.s) := by
  refine ⟨sh_Pm.mk (h.wq.same ?_ ?_ ?_ ?_) ?_ (by omega) ?_, fun a => sh_Mf.mk rfl rfl rfl (by simp [sh_X.I, sh_u2]) ?_ ?_ ?_⟩
  · simp only [sh_X.I, sh_u2_cell (show (67 : Nat) ≠ 66 by omega)]
  · simp only [sh_X.I, sh_u2_cell (show (68 : Nat) ≠ 66 by omega)]
  · simp only [sh_X.I, sh_u2_cell (show (69 : Nat) ≠ 66 by omega)]
  · simp only [sh_X.I, sh_u2_cell (show (70 : Nat) ≠ 66 by omega)]
  · simp only [sh_X.I, sh_u2_same]
    rw [show m.2.1 66 21 = _ from h.at_, sh_nI1]
  · simp only [sh_X.I, sh_u2_idx (show (20 : Nat) ≠ 21 by omega)]
    exact h.am
  · intro x h1 _
    simp only [sh_X.I, sh_u2_cell h1]
  · intro j _ _ _ h21 _ _
    simp only [sh_X.I, sh_u2_idx h21]
  · intro y _ x h1 h2
    simp only [sh_X.I, sh_u2_cell (show x ≠ 66 by omega)]
/-- need -/
theorem sh_262t {p g : Nat} {m : sh_X} {k : Int32} (h : sh_Pm N K P V p g m) (hx : k = 0 ∨ k = 2 ∨ 33 ≤ k.toInt) (hk : K p = k) (hp : p < N) : ∃ m2, sf_262 k m = some (true, m2) ∧ sh_Pm N K P V (p + 1) g m2 ∧ ∀ a, sh_Mf a m m2 := by
  obtain ⟨h1, h2, h3⟩ := sh_mok h
  refine ⟨_, ?_, sh_madv h hp⟩
  unfold sf_262
  rw [if_pos h1, h2, if_pos ((h.wq.tk h.pN hx).mpr hk)]
theorem sh_262f {p g : Nat} {m : sh_X} {k : Int32} (h : sh_Pm N K P V p g m) (hx : k = 0 ∨ k = 2 ∨ 33 ≤ k.toInt) (hk : ¬ K p = k) : sf_262 k m = some (false, sh_mft 2 (m.I 69 p) m) := by
  obtain ⟨h1, h2, h3⟩ := sh_mok h
  unfold sf_262
  rw [if_pos h1, h2, if_neg (fun q => hk ((h.wq.tk h.pN hx).mp q)), if_pos h1, sh_252]
  rfl
/-- name -/
theorem sh_258t {p g : Nat} {m : sh_X} (h : sh_Pm N K P V p g m) (hk : K p = 1) (hp : p < N) : ∃ m2, sf_258 m = some (true, m2) ∧ sh_Pm N K P V (p + 1) g m2 ∧ ∀ a, sh_Mf a m m2 := by
  refine ⟨_, ?_, sh_madv h hp⟩
  unfold sf_258
  rw [h.at_, h.wq.nm h.pN, sh_bc_some, decide_eq_true hk, if_pos rfl]
theorem sh_258f {p g : Nat} {m : sh_X} (h : sh_Pm N K P V p g m) (hk : ¬ K p = 1) : sf_258 m = some (false, sh_mft 2 (m.I 69 p) m) := by
  obtain ⟨h1, h2, h3⟩ := sh_mok h
  unfold sf_258
  rw [show sf_259 (m.I 66 21) m = some (decide (K p = 1)) by rw [h.at_]; exact h.wq.nm h.pN, sh_bc_some, decide_eq_false hk, if_neg (by simp), if_pos h1, h2, sh_252]
  rfl
/-- needWord: j is the word's place among the reserved ones -/
theorem sh_277t {p g j : Nat} {m : sh_X} (h : sh_Pm N K P V p g m) (hj : j < 12) (hk : K p = Int32.ofNat (4 + j)) (hp : p < N) : ∃ m2, sf_277 (sh_rsl.getD j 0) m = some (true, m2) ∧ sh_Pm N K P V (p + 1) g m2 ∧ ∀ a, sh_Mf a m m2 := by
  refine ⟨_, ?_, sh_madv h hp⟩
  unfold sf_277
  rw [h.at_, h.wq.wd h.pN hj, sh_bc_some, decide_eq_true hk, if_pos rfl]
theorem sh_277f {p g j : Nat} {m : sh_X} (h : sh_Pm N K P V p g m) (hj : j < 12) (hk : ¬ K p = Int32.ofNat (4 + j)) : sf_277 (sh_rsl.getD j 0) m = some (false, sh_mft 2 (m.I 69 p) m) := by
  obtain ⟨h1, h2, h3⟩ := sh_mok h
  unfold sf_277
  rw [show sf_256 (m.I 66 21) (sh_rsl.getD j 0) m = some (decide (K p = Int32.ofNat (4 + j))) by rw [h.at_]; exact h.wq.wd h.pN hj, sh_bc_some, decide_eq_false hk, if_neg (by simp), if_pos h1, h2, sh_252]
  rfl
/-- bad -/
theorem sh_268 {p g : Nat} {m : sh_X} (h : sh_Pm N K P V p g m) : sf_268 m = some (-1, sh_mft 2 (m.I 69 p) m) := by
  obtain ⟨h1, h2, h3⟩ := sh_mok h
  unfold sf_268
  rw [if_pos h1, h2, sh_252]
  rfl
/-- a part is made -/
theorem sh_266 {p g : Nat} {m : sh_X} {k t a b : Int32} (h : sh_Pm N K P V p g m) (hg : g < 9000) : ∃ m2, sf_266 k t a b m = some (Int32.ofNat g, m2) ∧ sh_Pm N K P V p (g + 1) m2 ∧ sh_Mf g m m2 ∧ m2.I 72 g = k ∧ m2.I 73 g = t ∧ m2.I 74 g = a ∧ m2.I 75 g = b ∧ m2.I 76 g = -1 ∧ m2.I 77 g = -1 ∧ m2.I 78 g = t := by
  have hok : sh_okb (m.I 66 20) 9000 = true := by rw [h.am]; exact (sh_okn (by omega)).mpr hg
  have hcl : Int32.toNatClampNeg (m.I 66 20) = g := by rw [h.am]; exact sh_nIc (by omega)
  refine ⟨⟨m.T, sh_u2 (sh_u2 (sh_u2 (sh_u2 (sh_u2 (sh_u2 (sh_u2 (sh_u2 m.I 72 g k) 73 g t) 74 g a) 75 g b) 76 g (-1)) 77 g (-1)) 78 g t) 66 20 (m.I 66 20 + 1), m.J, m.s⟩, ?_, ?_, ?_, ?_⟩
  · unfold sf_266
    simp only [if_pos hok]
    rw [hcl]
    show some (m.I 66 20 + 1 - 1, _) = _
    rw [h.am, Int32.add_sub_cancel]
  · refine sh_Pm.mk (h.wq.same ?_ ?_ ?_ ?_) ?_ h.pN ?_
    · funext z; simp [sh_X.I, sh_u2]
    · funext z; simp [sh_X.I, sh_u2]
    · funext z; simp [sh_X.I, sh_u2]
    · funext z; simp [sh_X.I, sh_u2]
    · simp [sh_X.I, sh_u2]; exact h.at_
    · simp only [sh_X.I, sh_u2_same]
      rw [show m.2.1 66 20 = _ from h.am, sh_nI1]
  · refine sh_Mf.mk rfl rfl rfl (by simp [sh_X.I, sh_u2]) ?_ ?_ ?_
    · intro x h1 h2
      simp only [sh_X.I, sh_u2_cell h1, sh_u2_cell (show x ≠ 72 by omega), sh_u2_cell (show x ≠ 73 by omega), sh_u2_cell (show x ≠ 74 by omega), sh_u2_cell (show x ≠ 75 by omega), sh_u2_cell (show x ≠ 76 by omega), sh_u2_cell (show x ≠ 77 by omega), sh_u2_cell (show x ≠ 78 by omega)]
    · intro j _ _ h20 _ _ _
      simp [sh_X.I, sh_u2, h20]
    · intro y hy x h1 h2
      have hne : y ≠ g := by omega
      simp only [sh_X.I]
      rw [sh_u2_cell (show x ≠ 66 by omega)]
      simp only [sh_u2, hne, if_false, ite_self]
  · simp [sh_X.I, sh_u2]
/-- an entry of a part is set -/
theorem sh_pset {p g e x : Nat} {m : sh_X} {v : Int32} (h : sh_Pm N K P V p g m) (hx : 72 ≤ x ∧ x ≤ 78) : sh_Pm N K P V p g (m.T, sh_u2 m.I x e v, m.J, m.s) ∧ sh_Mf e m (m.T, sh_u2 m.I x e v, m.J, m.s) := by
  refine ⟨sh_Pm.mk (h.wq.same ?_ ?_ ?_ ?_) ?_ h.pN ?_, sh_Mf.mk rfl rfl rfl (by simp only [sh_X.I, sh_u2_cell (show (66 : Nat) ≠ x by omega)]) ?_ ?_ ?_⟩
  · simp only [sh_X.I, sh_u2_cell (show (67 : Nat) ≠ x by omega)]
  · simp only [sh_X.I, sh_u2_cell (show (68 : Nat) ≠ x by omega)]
  · simp only [sh_X.I, sh_u2_cell (show (69 : Nat) ≠ x by omega)]
  · simp only [sh_X.I, sh_u2_cell (show (70 : Nat) ≠ x by omega)]
  · simp only [sh_X.I, sh_u2_cell (show (66 : Nat) ≠ x by omega)]
    exact h.at_
  · simp only [sh_X.I, sh_u2_cell (show (66 : Nat) ≠ x by omega)]
    exact h.am
  · intro z h1 h2
    simp only [sh_X.I, sh_u2_cell (show z ≠ x by omega)]
  · intro j _ _ _ _ _ _
    simp only [sh_X.I, sh_u2_cell (show (66 : Nat) ≠ x by omega)]
  · intro y hy z h1 h2
    simp only [sh_X.I]
    by_cases hz : z = x
    · subst hz; rw [sh_u2_idx (by omega)]
    · rw [sh_u2_cell hz]
/-- type: both read it, or both fail at the same word -/
theorem sh_type {p c w g : Nat} {mc mm : sh_X} (hc : sp_Pc N K P V p c w mc) (hm : sh_Pm N K P V p g mm) (hT : sh_Txt N K P V) :
    (∃ z mcf mmf, z ≤ N ∧ sf_52 mc = some (none, mcf) ∧ sf_263 mm = some (false, mmf) ∧ sh_bdc P z mc mcf ∧ sh_bdm P z mm mmf) ∨
    (∃ mc2 mm2 p2, sf_52 mc = some (some (), mc2) ∧ sf_263 mm = some (true, mm2) ∧ sp_Pc N K P V p2 c w mc2 ∧ sh_Pm N K P V p2 g mm2 ∧ (∀ a b, sh_Cf a b mc mc2) ∧ (∀ a, sh_Mf a mm mm2) ∧ p < p2 ∧ K p = 3 ∧ mm2.I 66 38 = Int32.ofNat p ∧
      ((¬ K (p + 1) = 91 ∧ p2 = p + 1 ∧ mm2.I 66 39 = -1) ∨ (K (p + 1) = 91 ∧ K (p + 2) = 2 ∧ p2 = p + 4 ∧ mm2.I 66 39 = Int32.ofNat (p + 2)))) := by
  have n4 := hc.N4
  have pN := hc.pN
  obtain ⟨k1, k2, k3⟩ := sh_mok hm
  obtain ⟨x, x1, x2⟩ := hm.wq.ty pN
  by_cases h3 : K p = 3
  · have hp : p < N := by
      rcases Nat.lt_or_ge p N with h | h
      · exact h
      · have : p = N := by omega
        rw [this, hT.KN] at h3
        exact absurd h3 (by decide)
    obtain ⟨mc2, c1, c2, c3⟩ := sh_48t hc h3 hp
    have hx : ¬ x < 0 := fun q => (x2.mp q) h3
    have e1 : mm.I 66 21 + 1 = Int32.ofNat (p + 1) := by rw [hm.at_, sh_nI1]
    have e2 : Int32.ofNat (p + 1) + 1 = Int32.ofNat (p + 2) := sh_nI1
    have ok1 : sh_okb (Int32.ofNat (p + 1)) 4002 = true := (sh_okn (by omega)).mpr (by omega)
    have ok2 : sh_okb (Int32.ofNat (p + 2)) 4002 = true := (sh_okn (by omega)).mpr (by omega)
    have hI : sf_261 (mm.I 66 21) mm = some x := by rw [hm.at_]; exact x1
    by_cases h91 : K (p + 1) = 91
    · have hp1 : p + 1 < N := by
        rcases Nat.lt_or_ge (p + 1) N with h | h
        · exact h
        · have : p + 1 = N := by omega
          rw [this, hT.KN] at h91
          exact absurd h91 (by decide)
      obtain ⟨mc3, c4, c5, c6⟩ := sh_48t c2 h91 hp1
      have m91 : mm.I 68 (p + 1) = 91 := (hm.wq.tk (by omega) (Or.inr (Or.inr (by decide)))).mpr h91
      by_cases h2 : K (p + 2) = 2
      · have hp2 : p + 2 < N := by
          rcases Nat.lt_or_ge (p + 2) N with h | h
          · exact h
          · have : p + 2 = N := by omega
            rw [this, hT.KN] at h2
            exact absurd h2 (by decide)
        obtain ⟨mc4, c7, c8, c9⟩ := sh_48t c5 h2 hp2
        have m2 : mm.I 68 (p + 2) = 2 := (hm.wq.tk (by omega) (Or.inr (Or.inl rfl))).mpr h2
        -- the model's memory before the last need
        have hM : ∃ mq, sf_263 mm = sh_bn (sf_262 93 mq) (fun r m => some (r, m)) ∧ sh_Pm N K P V (p + 3) g mq ∧ (∀ a, sh_Mf a mm mq) ∧ mq.I 66 38 = Int32.ofNat p ∧ mq.I 66 39 = Int32.ofNat (p + 2) := by
          refine ⟨⟨mm.T, sh_u2 (sh_u2 (sh_u2 (sh_u2 (sh_u2 (sh_u2 mm.I 66 38 (Int32.ofNat p)) 66 39 (-1)) 66 21 (Int32.ofNat (p + 1))) 66 21 (Int32.ofNat (p + 2))) 66 39 (Int32.ofNat (p + 2))) 66 21 (Int32.ofNat (p + 3)), mm.J, mm.s⟩, ?_, ?_, ?_, ?_, ?_⟩
          · unfold sf_263
            rw [hI, sh_bc_some, if_neg hx, e1, if_pos ok1, sh_nIc (by omega), if_pos m91, e2, if_pos ok2, sh_nIc (by omega), if_pos m2, sh_nI1, hm.at_]
          · refine sh_Pm.mk (hm.wq.same ?_ ?_ ?_ ?_) ?_ (by omega) ?_
            · funext z; simp [sh_X.I, sh_u2]
            · funext z; simp [sh_X.I, sh_u2]
            · funext z; simp [sh_X.I, sh_u2]
            · funext z; simp [sh_X.I, sh_u2]
            · simp only [sh_X.I, sh_u2_same]
            · simp [sh_X.I, sh_u2]; exact hm.am
          · intro a
            refine sh_Mf.mk rfl rfl rfl (by simp [sh_X.I, sh_u2]) ?_ ?_ ?_
            · intro z h1 h2
              simp only [sh_X.I, sh_u2_cell h1]
            · intro j _ _ _ h21 h38 h39
              simp [sh_X.I, sh_u2, h21, h38, h39]
            · intro y hy z h1 h2
              simp only [sh_X.I, sh_u2_cell (show z ≠ 66 by omega)]
          · simp [sh_X.I, sh_u2]
          · simp [sh_X.I, sh_u2]
        obtain ⟨mq, q1, q2, q3, q4, q5⟩ := hM
        by_cases h93 : K (p + 3) = 93
        · have hp3 : p + 3 < N := by
            rcases Nat.lt_or_ge (p + 3) N with h | h
            · exact h
            · have : p + 3 = N := by omega
              rw [this, hT.KN] at h93
              exact absurd h93 (by decide)
          obtain ⟨mc5, d1, d2, d3⟩ := sh_48t c8 h93 hp3
          obtain ⟨mm5, r1, r2, r3⟩ := sh_262t q2 (Or.inr (Or.inr (by decide))) h93 hp3
          refine Or.inr ⟨mc5, mm5, p + 4, ?_, ?_, d2, r2, ?_, ?_, by omega, h3, ?_, Or.inr ⟨h91, h2, rfl, ?_⟩⟩
          · unfold sf_52
            rw [c1]
            show sh_bc (sf_45 mc2) _ = _
            rw [sh_45 c2, sh_bc_some, if_pos h91, c4]
            show sh_bt (sf_48 2 mc3) _ _ = _
            rw [c7]
            show sh_bt (sf_48 93 mc4) _ _ = _
            rw [d1]
            rfl
          · rw [q1, r1]; rfl
          · intro a b
            exact (((c3 a b).trans (c6 a b) (Nat.le_refl _) (Nat.le_refl _)).trans (c9 a b) (Nat.le_refl _) (Nat.le_refl _)).trans (d3 a b) (Nat.le_refl _) (Nat.le_refl _)
          · intro a
            exact (q3 a).trans (r3 a) (Nat.le_refl _)
          · rw [← q4]
            have := r1
            obtain ⟨s1, s2, s3⟩ := sh_mok q2
            unfold sf_262 at this
            rw [if_pos s1, s2, if_pos ((q2.wq.tk (by omega) (Or.inr (Or.inr (by decide)))).mpr h93)] at this
            cases this
            simp [sh_X.I, sh_u2]
          · rw [← q5]
            have := r1
            obtain ⟨s1, s2, s3⟩ := sh_mok q2
            unfold sf_262 at this
            rw [if_pos s1, s2, if_pos ((q2.wq.tk (by omega) (Or.inr (Or.inr (by decide)))).mpr h93)] at this
            cases this
            simp [sh_X.I, sh_u2]
        · refine Or.inl ⟨p + 3, sh_flt 2 (Int32.ofNat (P (p + 3))) mc4, sh_mft 2 (mq.I 69 (p + 3)) mq, by omega, ?_, ?_, ?_, ?_⟩
          · unfold sf_52
            rw [c1]
            show sh_bc (sf_45 mc2) _ = _
            rw [sh_45 c2, sh_bc_some, if_pos h91, c4]
            show sh_bt (sf_48 2 mc3) _ _ = _
            rw [c7]
            show sh_bt (sf_48 93 mc4) _ _ = _
            rw [sh_48f c8 h93]
            rfl
          · rw [q1, sh_262f q2 (Or.inr (Or.inr (by decide))) h93]; rfl
          · exact (c8.bad.of (c9 0 0)).of (((c3 0 0).trans (c6 0 0) (Nat.le_refl _) (Nat.le_refl _)))
          · exact q2.bad.of (q3 0)
      · refine Or.inl ⟨p + 2, sh_flt 2 (Int32.ofNat (P (p + 2))) mc3, ⟨mm.T, sh_u2 (sh_u2 (sh_u2 (sh_u2 (sh_u2 (sh_u2 mm.I 66 38 (Int32.ofNat p)) 66 39 (-1)) 66 21 (Int32.ofNat (p + 1))) 66 21 (Int32.ofNat (p + 2))) 66 6 2) 66 7 (Int32.ofNat (P (p + 2))), mm.J, mm.s⟩, by omega, ?_, ?_, ?_, ?_⟩
        · unfold sf_52
          rw [c1]
          show sh_bc (sf_45 mc2) _ = _
          rw [sh_45 c2, sh_bc_some, if_pos h91, c4]
          show sh_bt (sf_48 2 mc3) _ _ = _
          rw [sh_48f c5 h2]
          rfl
        · unfold sf_263
          rw [hI, sh_bc_some, if_neg hx, e1, if_pos ok1, sh_nIc (by omega), if_pos m91, e2, if_pos ok2, sh_nIc (by omega), if_neg (fun q => h2 ((hm.wq.tk (by omega) (Or.inr (Or.inl rfl))).mp q)), if_pos ok2, sh_252, hm.wq.at (by omega), hm.at_]
          rfl
        · exact (c5.bad.of (c6 0 0)).of (c3 0 0)
        · refine ⟨sh_Mx.mk rfl rfl rfl ?_ ?_ ?_, ?_, ?_⟩
          · intro z h1 h2
            simp only [sh_X.I, sh_u2_cell h1]
          · intro j h6 h7 _ h21 h38 h39
            simp [sh_X.I, sh_u2, h21, h38, h39, h6, h7]
          · intro y hy z h1 h2
            simp only [sh_X.I, sh_u2_cell (show z ≠ 66 by omega)]
          · simp [sh_X.I, sh_u2]
          · simp [sh_X.I, sh_u2]
    · refine Or.inr ⟨mc2, ⟨mm.T, sh_u2 (sh_u2 (sh_u2 mm.I 66 38 (Int32.ofNat p)) 66 39 (-1)) 66 21 (Int32.ofNat (p + 1)), mm.J, mm.s⟩, p + 1, ?_, ?_, c2, ?_, c3, ?_, by omega, h3, ?_, Or.inl ⟨h91, rfl, ?_⟩⟩
      · unfold sf_52
        rw [c1]
        show sh_bc (sf_45 mc2) _ = _
        rw [sh_45 c2, sh_bc_some, if_neg h91]
      · unfold sf_263
        rw [hI, sh_bc_some, if_neg hx, e1, if_pos ok1, sh_nIc (by omega), if_neg (fun q => h91 ((hm.wq.tk (by omega) (Or.inr (Or.inr (by decide)))).mp q)), hm.at_]
      · refine sh_Pm.mk (hm.wq.same ?_ ?_ ?_ ?_) ?_ (by omega) ?_
        · funext z; simp [sh_X.I, sh_u2]
        · funext z; simp [sh_X.I, sh_u2]
        · funext z; simp [sh_X.I, sh_u2]
        · funext z; simp [sh_X.I, sh_u2]
        · simp only [sh_X.I, sh_u2_same]
        · simp [sh_X.I, sh_u2]; exact hm.am
      · intro a
        refine sh_Mf.mk rfl rfl rfl (by simp [sh_X.I, sh_u2]) ?_ ?_ ?_
        · intro z h1 h2
          simp only [sh_X.I, sh_u2_cell h1]
        · intro j _ _ _ h21 h38 h39
          simp [sh_X.I, sh_u2, h21, h38, h39]
        · intro y hy z h1 h2
          simp only [sh_X.I, sh_u2_cell (show z ≠ 66 by omega)]
      · simp [sh_X.I, sh_u2]
      · simp [sh_X.I, sh_u2]
  · refine Or.inl ⟨p, sh_flt 2 (Int32.ofNat (P p)) mc, sh_mft 2 (mm.I 69 p) mm, pN, ?_, ?_, hc.bad, hm.bad⟩
    · unfold sf_52
      rw [sh_48f hc h3]
      rfl
    · unfold sf_263
      rw [show sf_261 (mm.I 66 21) mm = some x by rw [hm.at_]; exact x1, sh_bc_some, if_pos (x2.mpr h3), if_pos k1, k2, sh_252]
      rfl
end
