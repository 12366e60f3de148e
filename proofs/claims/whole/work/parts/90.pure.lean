/-! PARSERS: operands, and the signs that wait -/
section
variable {N : Nat} {K : Nat → Int32} {P V : Nat → Nat}
/-- how strong a sign binds -/
noncomputable def sp_lv (k : Int32) : Nat := (sf_69 k).toInt.toNat
theorem sh_lv_eq (k : Int32) : sf_69 k = Int32.ofNat (sp_lv k) ∧ sp_lv k ≤ 10 := by
  unfold sp_lv sf_69
  repeat' split
  all_goals decide
theorem sh_lv_mm {p g : Nat} {m : sh_X} (h : sh_Pm N K P V p g m) : sf_274 (m.I 68 p) = Int32.ofNat (sp_lv (K p)) := by
  rw [← (sh_lv_eq (K p)).1]
  have t : ∀ x : Int32, 33 ≤ x.toInt → (m.I 68 p = x ↔ K p = x) := fun x hx => h.wq.tk h.pN (Or.inr (Or.inr hx))
  unfold sf_274 sf_69
  simp only [t 37 (by decide), t 42 (by decide), t 47 (by decide), t 38 (by decide), t 43 (by decide), t 45 (by decide), t 60 (by decide), t 62 (by decide), t 15421 (by decide), t 15933 (by decide), t 94 (by decide), t 124 (by decide), t 8509 (by decide), t 15677 (by decide), t 9766 (by decide), t 15420 (by decide), t 15934 (by decide), t 31868 (by decide)]
theorem sh_pos0 {n : Nat} (h : 0 < n) (h2 : n < 2147483648) : (0 : Int32) < Int32.ofNat n := (sh_nIlt (a := 0) (by omega) h2).mpr h
theorem sh_HO41 : sh_HO N K P V 41 := by
  intro u v hu hv p c w g mc mm hb hw
  obtain ⟨u0, rfl⟩ : ∃ x, u = x + 1 := ⟨u - 1, by omega⟩
  obtain ⟨v0, rfl⟩ : ∃ x, v = x + 1 := ⟨v - 1, by omega⟩
  refine Or.inl ⟨p, _, _, hb.pc.pN, ?_, ?_, hb.pc.bad, hb.pm.bad⟩
  · show sf_59 (sq_44 u0) (Int32.ofNat 41) mc = _
    unfold sf_59
    rw [if_pos (by decide), sh_49 hb.pc]
    rfl
  · show sf_270 (sq_240 v0) (Int32.ofNat 41) mm = _
    unfold sf_270
    rw [if_pos (by decide), sh_268 hb.pm]
    rfl
theorem sh_d40 {d : Nat} (h : d ≤ 40) : ¬ (40 : Int32) < Int32.ofNat d := fun q => absurd ((sh_nIlt (a := 40) (by omega) (by omega)).mp q) (by omega)
theorem sh_HOd {d : Nat} (hT : sh_Txt N K P V) (hd : d ≤ 40) (hX : sh_HX N K P V (d + 1)) (hO1 : sh_HO N K P V (d + 1)) : sh_HO N K P V d := by
  intro u v hu hv p c w g mc mm hb hw
  obtain ⟨u0, rfl⟩ : ∃ x, u = x + 3 := ⟨u - 3, by omega⟩
  obtain ⟨v0, rfl⟩ : ∃ x, v = x + 4 := ⟨v - 4, by omega⟩
  have n4 := hb.pc.N4
  have pN := hb.pc.pN
  have bc := hb.bc
  have bg := hb.bg
  show sh_Ep N K P V d p c w g mc mm (sf_59 (sq_44 (u0 + 2)) (Int32.ofNat d) mc) (sf_270 (sq_240 (v0 + 3)) (Int32.ofNat d) mm)
  obtain ⟨k1, k2, k3⟩ := sh_mok hb.pm
  have t : ∀ x : Int32, 33 ≤ x.toInt → (mm.I 68 p = x ↔ K p = x) := fun x hx => hb.pm.wq.tk pN (Or.inr (Or.inr hx))
  unfold sf_59 sf_59_10 sf_270
  rw [if_neg (sh_d40 hd), if_neg (sh_d40 hd), sh_45 hb.pc, sh_bc_some, if_pos k1, k2, if_pos k1, if_pos k1]
  simp only [t 45 (by decide), t 33 (by decide), t 126 (by decide)]
  by_cases hu1 : K p = 45 ∨ K p = 126 ∨ K p = 33
  · have hp : p < N := hT.lt pN (by rcases hu1 with h | h | h <;> (rw [h]; decide))
    have h60 : sf_60 (K p) = sh_ua (K p) ∧ ¬ sf_60 (K p) = -1 := by
      rcases hu1 with h | h | h <;> (rw [h]; decide)
    rw [if_neg h60.2, h60.1]
    have mF := (sh_madv hb.pm hp).2
    have cF := (sh_adv hb.pc hp).2
    have hb1 := hb.adv hp
    have em : (if K p = 45 then sf_270_59 (sq_240 (v0 + 3)) (Int32.ofNat d) mm else if K p = 33 then sf_270_59 (sq_240 (v0 + 3)) (Int32.ofNat d) mm else if K p = 126 then sf_270_59 (sq_240 (v0 + 3)) (Int32.ofNat d) mm else sh_bn ((sq_240 (v0 + 3)).f271 (Int32.ofNat d) mm) fun r2 m12 => some (r2, m12)) = sf_270_59 (sq_240 (v0 + 3)) (Int32.ofNat d) mm := by
      rcases hu1 with h | h | h
      · rw [if_pos h]
      · rw [if_neg (by rw [h]; decide), if_neg (by rw [h]; decide), if_pos h]
      · rw [if_neg (by rw [h]; decide), if_pos h]
    rw [em]
    unfold sf_270_59
    rw [sh_nI1]
    rcases hO1 (u0 + 2) (v0 + 3) (by omega) (by omega) (p + 1) c w g _ _ hb1 (by omega) with ⟨z, mcf, mmf, z1, z2, z3, z4, z5⟩ | ⟨mc2, mm2, p2, c2, g2, e, ht, z1, z2, hO⟩
    · refine Or.inl ⟨z, mcf, mmf, z1, by rw [z2]; rfl, by rw [z3, sh_bn_some, if_pos (by decide)], z4.of (cF 0 0), z5.of (mF 0)⟩
    · have re := sh_R_e hO.r
      have lg := hO.lg
      have lc := hO.lc
      have lp := hO.lp
      have cc := hO.cc
      have p2N := hO.pc.pN
      obtain ⟨m5, a1, a2, a3, a4, a5, a6⟩ := sh_56 (a := sh_ua (K p)) (x := mc.I 39 4) (y := 0) hO.pc (by omega)
      obtain ⟨n5, e1, e2, e3, e4, e5, e6, e7, e8, e9, e10⟩ := sh_266 (k := 9) (t := mm.I 66 21) (a := Int32.ofNat e) (b := -1) hO.pm (by omega)
      refine Or.inr ⟨m5, n5, p2, c2 + 1, g2 + 1, g2, ht + 1, ?_, ?_, sh_Ok.mk a2 e2 ((cF c w).trans (hO.cf.trans (a3 w) cc (Nat.le_refl _)) (Nat.le_refl _) (Nat.le_refl _)) ((mF g).trans (hO.mf.trans e3 (by omega)) (Nat.le_refl _)) (by omega) (by omega) (by omega) (by omega) ?_ (by rw [e10]; exact hb.pm.at_) e9⟩
      · rw [z1]
        show sh_bn (sf_56 _ _ _ mc2) _ = _
        rw [a1]
        rfl
      · rw [z2, sh_bn_some, if_neg (sh_nn (by omega)), e1]
        rfl
      · unfold sp_R
        refine ⟨⟨by omega, by omega, hd, by omega, p2N⟩, p, by rw [e5]; exact hb.pm.at_, by omega, by omega, Or.inr (Or.inl ⟨e, g, g2, ⟨by omega, by omega, Or.inl (by omega)⟩, e6, Or.inl ⟨e4, hu1, ?_, ?_⟩, ?_⟩)⟩
        · rw [show c2 + 1 - 1 = c2 by omega]; exact a4
        · rw [show c2 + 1 - 1 = c2 by omega]; exact a5.trans hb.pc.at_
        · rw [show c2 + 1 - 1 = c2 by omega]
          refine sh_R_mono ht ht g g2 g g2 (d + 1) (d + 1) e c c2 (p + 1) p2 (p + 1) p2 hO.r (Nat.le_refl _) (Nat.le_refl _) (Nat.le_refl _) (Nat.le_refl _) (Nat.le_refl _) (Nat.le_refl _) p2N ?_ ?_ ?_
          · intro x x1 x2
            exact ⟨e3.pt x x2 72 (by omega) (by omega), e3.pt x x2 73 (by omega) (by omega), e3.pt x x2 74 (by omega) (by omega), e3.pt x x2 75 (by omega) (by omega)⟩
          · intro x x1 x2 x3
            exact ⟨e3.pt x x2 77 (by omega) (by omega), e3.pt x x2 78 (by omega) (by omega)⟩
          · intro y y1 y2
            exact (a3 w).cd y y2
  · have h45 : ¬ K p = 45 := fun q => hu1 (Or.inl q)
    have h126 : ¬ K p = 126 := fun q => hu1 (Or.inr (Or.inl q))
    have h33 : ¬ K p = 33 := fun q => hu1 (Or.inr (Or.inr q))
    have h60 : sf_60 (K p) = -1 := by unfold sf_60; rw [if_neg h45, if_neg h126, if_neg h33]
    rw [if_pos h60, if_neg h45, if_neg h33, if_neg h126]
    have hid : ∀ q : Option (Int32 × sh_X), (sh_bn q fun r m => some (r, m)) = q := by
      intro q
      rcases q with _ | ⟨r, m⟩ <;> rfl
    rw [hid]
    show sh_Ep N K P V d p c w g mc mm (sh_bt (sf_61 (sq_44 (u0 + 1)) (Int32.ofNat d) mc) (fun m => (none, m)) fun _ m13 => sf_59_65 (sq_44 (u0 + 2)) (Int32.ofNat d) (Int32.ofNat 0) m13) (sf_271 (sq_240 (v0 + 2)) (Int32.ofNat d) mm)
    unfold sf_271
    show sh_Ep N K P V d p c w g mc mm _ (sh_bn (sf_272 (sq_240 (v0 + 1)) (Int32.ofNat d) mm) fun r1 m11 => sf_271_6 (sq_240 (v0 + 2)) (Int32.ofNat d) r1 m11)
    rcases sh_prim hT hX hb hd hw (show 5 * (40 - d) + 2 ≤ u0 by omega) (show 16 * (40 - d) + 13 ≤ v0 by omega) with ⟨z, mcf, mmf, z1, z2, z3, z4, z5⟩ | ⟨mc2, mm2, p2, c2, g2, e, ht, z1, z2, hO⟩
    · refine Or.inl ⟨z, mcf, mmf, z1, by rw [z2]; rfl, ?_, z4, z5⟩
      rw [z3, sh_bn_some]
      unfold sf_271_6
      refine sh_wend ?_
      show sf_271_6s (sq_240 (v0 + 2)) (Int32.ofNat d) (-1) mmf = _
      unfold sf_271_6s
      rw [if_pos (by decide)]
    · rw [z1, z2]
      show sh_Ep N K P V d p c w g mc mm (sf_59_65 (sq_44 (u0 + 1 + 1)) (Int32.ofNat d) (Int32.ofNat 0) mc2) _
      rw [sh_bn_some]
      have := hO.lp
      exact sh_pidx hT hX hb hd hw (by omega) (by omega) N p2 c2 g2 e ht 0 mc2 mm2 (by omega) hO (by omega)
/-- settleSigns: the signs from w on are put into the code -/
theorem sh_70 {p w0 l : Nat} (hl : l ≤ 10) : ∀ (n c w : Nat) (m : sh_X), sp_Pc N K P V p c (w + n) m → w0 ≤ w → w + n ≤ 512 → c + n < 6000 →
    (∀ y, w ≤ y → y < w + n → ∃ q, q ≤ N ∧ m.I 40 y = Int32.ofNat q ∧ l ≤ sp_lv (K q)) →
    (w = w0 ∨ ∃ q, q ≤ N ∧ m.I 40 (w - 1) = Int32.ofNat q ∧ sp_lv (K q) < l) →
    ∃ m2, sf_70_5 (Int32.ofNat w0) (Int32.ofNat l) (Int32.ofNat (w + n)) m = some ((), m2) ∧ sp_Pc N K P V p (c + n) w m2 ∧ (∀ b, sh_Cf c b m m2) ∧ m2.I 40 = m.I 40 ∧ ∀ k, k < n → m2.I 36 (c + k) = 25 ∧ m2.I 37 (c + k) = m.I 40 (w + n - 1 - k) := by
  intro n
  induction n with
  | zero =>
    intro c w m h hw h5 hc hU hW
    have n4 := h.N4
    refine ⟨m, ?_, h, fun b => sh_Cf.refl c b m, rfl, fun k hk => absurd hk (by omega)⟩
    unfold sf_70_5
    refine sh_wend ?_
    show sf_70_5s (Int32.ofNat w0) (Int32.ofNat l) (Int32.ofNat (w + 0)) m = _
    rw [Nat.add_zero] at *
    unfold sf_70_5s
    rcases hW with hW | ⟨q, q1, q2, q3⟩
    · rw [if_neg (fun r => absurd ((sh_nIlt (by omega) (by omega)).mp r) (by omega))]
    · by_cases hlt : w0 < w
      · rw [if_pos ((sh_nIlt (by omega) (by omega)).mpr hlt), if_pos (sh_pos0 (by omega) (by omega)), show (1 : Int32) = Int32.ofNat 1 from rfl, sh_nIsub (by omega), if_pos ((sh_okn (by omega)).mpr (by omega)), sh_nIc (by omega), q2, sh_46 h.wc n4 q1, sh_bc_some, (sh_lv_eq (K q)).1, if_pos ((sh_nIlt (by omega) (by omega)).mpr q3)]
      · rw [if_neg (fun r => absurd ((sh_nIlt (by omega) (by omega)).mp r) (by omega))]
  | succ n ih =>
    intro c w m h hw h5 hc hU hW
    have n4 := h.N4
    obtain ⟨q, q1, q2, q3⟩ := hU (w + n) (by omega) (by omega)
    obtain ⟨m1, a1, a2, a3, a4, a5, a6⟩ := sh_56 (a := 25) (x := Int32.ofNat q) (y := 0) h (by omega)
    have h40 : m1.I 40 = m.I 40 := by
      funext y
      exact (a3 (y + 1)).wt y (by omega)
    -- the waits go down by one
    have hP : sp_Pc N K P V p (c + 1) (w + n) (m1.T, sh_u2 m1.I 39 3 (Int32.ofNat (w + n)), m1.J, m1.s) ∧ ∀ a b, sh_Cf a b m1 (m1.T, sh_u2 m1.I 39 3 (Int32.ofNat (w + n)), m1.J, m1.s) := by
      refine ⟨sp_Pc.mk (a2.wc.same ?_ ?_ ?_ rfl) ?_ a2.pN a2.N4 ?_ ?_ a2.tl, fun a b => sh_Cf.mk rfl rfl rfl ?_ ?_ ?_ ?_⟩
      · simp only [sh_X.I, sh_u2_cell (show (2 : Nat) ≠ 39 by omega)]
      · simp only [sh_X.I, sh_u2_cell (show (3 : Nat) ≠ 39 by omega)]
      · simp only [sh_X.I, sh_u2_cell (show (4 : Nat) ≠ 39 by omega)]
      · simp only [sh_X.I, sh_u2_idx (show (4 : Nat) ≠ 3 by omega)]
        exact a2.at_
      · simp only [sh_X.I, sh_u2_cell (show (28 : Nat) ≠ 39 by omega)]
        exact a2.am
      · simp only [sh_X.I, sh_u2_same]
      · intro x _ _ _ _ h39 _
        simp only [sh_X.I, sh_u2_cell h39]
      · intro j _
        simp only [sh_X.I, sh_u2_cell (show (28 : Nat) ≠ 39 by omega)]
      · intro y _
        simp only [sh_X.I, sh_u2_cell (show (36 : Nat) ≠ 39 by omega), sh_u2_cell (show (37 : Nat) ≠ 39 by omega), sh_u2_cell (show (38 : Nat) ≠ 39 by omega)]
        exact ⟨trivial, trivial, trivial⟩
      · intro y _
        simp only [sh_X.I, sh_u2_cell (show (40 : Nat) ≠ 39 by omega)]
    obtain ⟨hP1, hP2⟩ := hP
    have h40' : sh_X.I (m1.T, sh_u2 m1.I 39 3 (Int32.ofNat (w + n)), m1.J, m1.s) 40 = m.I 40 := by
      simp only [sh_X.I, sh_u2_cell (show (40 : Nat) ≠ 39 by omega)]
      exact h40
    obtain ⟨m2, b1, b2, b3, b4, b5⟩ := ih (c + 1) w _ hP1 hw (by omega) (by omega) (fun y y1 y2 => by rw [h40']; exact hU y y1 (by omega)) (by rw [h40']; exact hW)
    refine ⟨m2, ?_, by rw [show c + (n + 1) = c + 1 + n by omega]; exact b2, fun b => (a3 b).trans ((hP2 (c + 1) b).trans (b3 b) (Nat.le_refl _) (Nat.le_refl _)) (by omega) (Nat.le_refl _), b4.trans h40', ?_⟩
    · rw [← b1]
      unfold sf_70_5
      refine sh_wstep ?_
      show sf_70_5s (Int32.ofNat w0) (Int32.ofNat l) (Int32.ofNat (w + (n + 1))) m = _
      unfold sf_70_5s
      rw [if_pos ((sh_nIlt (by omega) (by omega)).mpr (by omega)), if_pos (sh_pos0 (by omega) (by omega)), show (1 : Int32) = Int32.ofNat 1 from rfl, sh_nIsub (by omega), show w + (n + 1) - 1 = w + n by omega, if_pos ((sh_okn (by omega)).mpr (by omega)), sh_nIc (by omega), q2, sh_46 h.wc n4 q1, sh_bc_some, (sh_lv_eq (K q)).1, if_neg (fun r => absurd ((sh_nIlt (by have := (sh_lv_eq (K q)).2; omega) (by omega)).mp r) (by omega)), a1, sh_bn_some, show -(Int32.ofNat 1) = (-1 : Int32) from rfl, sh_nIm1 (by omega), show w + (n + 1) - 1 = w + n by omega]
    · intro k hk
      by_cases hk0 : k = 0
      · subst hk0
        have z1 := (b3 0).cd c (by omega)
        have z2 := (hP2 (c + 1) 0).cd c (by omega)
        rw [Nat.add_zero, show w + (n + 1) - 1 - 0 = w + n by omega, q2]
        exact ⟨z1.1.trans (z2.1.trans a4), z1.2.1.trans (z2.2.1.trans a5)⟩
      · have := b5 (k - 1) (by omega)
        rw [h40', show c + 1 + (k - 1) = c + k by omega, show w + n - 1 - (k - 1) = w + (n + 1) - 1 - k by omega] at this
        exact this
end
