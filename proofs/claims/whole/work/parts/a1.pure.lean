/-! PARSERS: statements of every depth -/
section
variable {N : Nat} {K : Nat → Int32} {P V : Nat → Nat}
theorem sh_mdis {p g v : Nat} {dd x y : Int32} {mm : sh_X} (h : sh_Pm N K P V p g mm) : sf_264_4s (sq_242 v) dd x y mm = if sf_54 (K p) = true then sf_264_71 (sq_242 v) dd x y mm else some (.inr (x, mm)) := by
  have w := fun j (hj : j < 12) => h.wq.wd (i := p) h.pN hj
  unfold sf_264_4s
  rw [h.at_, show sf_256 (Int32.ofNat p) 16 mm = some (decide (K p = 12)) from w 8 (by omega), sh_bc_some, show sf_256 (Int32.ofNat p) 14 mm = some (decide (K p = 10)) from w 6 (by omega), sh_bc_some, show sf_256 (Int32.ofNat p) 13 mm = some (decide (K p = 9)) from w 5 (by omega), sh_bc_some, show sf_256 (Int32.ofNat p) 17 mm = some (decide (K p = 13)) from w 9 (by omega), sh_bc_some, h.wq.nm h.pN, sh_bc_some]
  simp only [decide_eq_true_eq]
  by_cases h54 : sf_54 (K p) = true
  · rw [if_pos h54]
    rcases (sh_54 _).mp h54 with h | h | h | h | h
    · rw [if_pos h]
    · rw [if_neg (by rw [h]; decide), if_neg (by rw [h]; decide), if_neg (by rw [h]; decide), if_neg (by rw [h]; decide), if_pos h]
    · rw [if_neg (by rw [h]; decide), if_pos h]
    · rw [if_neg (by rw [h]; decide), if_neg (by rw [h]; decide), if_pos h]
    · rw [if_neg (by rw [h]; decide), if_neg (by rw [h]; decide), if_neg (by rw [h]; decide), if_pos h]
  · rw [if_neg h54]
    have hn := fun q => h54 ((sh_54 (K p)).mpr q)
    rw [if_neg (fun q => hn (Or.inl q)), if_neg (fun q => hn (Or.inr (Or.inr (Or.inl q)))), if_neg (fun q => hn (Or.inr (Or.inr (Or.inr (Or.inl q))))), if_neg (fun q => hn (Or.inr (Or.inr (Or.inr (Or.inr q))))), if_neg (fun q => hn (Or.inr (Or.inl q)))]
theorem sh_HS41 (hT : sh_Txt N K P V) : sh_HS N K P V 41 := by
  intro u v hu hv p c g mc mm hb
  obtain ⟨u0, rfl⟩ : ∃ x, u = x + 2 := ⟨u - 2, by omega⟩
  obtain ⟨v0, rfl⟩ : ∃ x, v = x + 1 := ⟨v - 1, by omega⟩
  have n4 := hb.pc.N4
  have pN := hb.pc.pN
  have bg := hb.bg
  show sh_Tp N K P V 41 p c g mc mm (sf_53 (sq_48 (u0 + 1)) (Int32.ofNat 41) mc) (sf_264 (sq_242 v0) (Int32.ofNat 41) mm)
  unfold sf_53 sf_264
  by_cases h54 : sf_54 (K p) = true
  · left
    obtain ⟨o1, o2, o3⟩ := sh_mok hb.pm
    refine ⟨p, _, _, pN, ?_, ?_, hb.pc.bad, hb.pm.bad⟩
    · unfold sf_53_2
      refine sh_wend ?_
      show sf_53_2s (sq_48 (u0 + 1)) (Int32.ofNat 41) 0 mc = _
      unfold sf_53_2s
      rw [if_pos (by decide), sh_45 hb.pc, sh_bc_some, if_pos h54]
      show sh_bt (sf_55 (sq_48 u0) (Int32.ofNat 41) mc) _ _ = _
      unfold sf_55
      rw [if_pos (by decide), sh_49 hb.pc]
      rfl
    · unfold sf_264_4
      refine sh_wend ?_
      show sf_264_4s (sq_242 v0) (Int32.ofNat 41) (-1) (-1) mm = _
      rw [sh_mdis hb.pm, if_pos h54]
      unfold sf_264_71
      rw [if_pos (by decide), if_pos o1, o2, sh_252]
      rfl
  · right
    refine ⟨mc, mm, p, c, g, 0, -1, ?_, ?_, sp_To.mk hb.pc hb.pm (sh_Cf.refl _ _ _) (sh_Mf.refl _ _) (Nat.le_refl _) (Nat.le_refl _) (Nat.le_refl _) (Nat.le_refl _) (Nat.le_refl _) ?_ (by decide) h54⟩
    · unfold sf_53_2
      refine sh_wend ?_
      show sf_53_2s (sq_48 (u0 + 1)) (Int32.ofNat 41) 0 mc = _
      unfold sf_53_2s
      rw [if_pos (by decide), sh_45 hb.pc, sh_bc_some, if_neg h54]
    · unfold sf_264_4
      refine sh_wend ?_
      show sf_264_4s (sq_242 v0) (Int32.ofNat 41) (-1) (-1) mm = _
      rw [sh_mdis hb.pm, if_neg h54]
    · exact ⟨0, fun _ => 0, fun _ => c, fun _ => p, fun _ => g, fun _ => rfl, fun q => absurd q (by omega), rfl, rfl, Nat.le_refl _, Nat.le_refl _, Nat.le_refl _, Nat.le_refl _, fun k hk => absurd hk (by omega)⟩
theorem sh_HSd {d : Nat} (hT : sh_Txt N K P V) (hd : d ≤ 40) (hS : sh_HS N K P V (d + 1)) : sh_HS N K P V d := by
  intro u v hu hv p c g mc mm hb
  obtain ⟨u0, rfl⟩ : ∃ x, u = x + 4 := ⟨u - 4, by omega⟩
  obtain ⟨v0, rfl⟩ : ∃ x, v = x + 3 := ⟨v - 3, by omega⟩
  have n4 := hb.pc.N4
  have bc := hb.bc
  have bg := hb.bg
  show sh_Tp N K P V d p c g mc mm (sf_53 (sq_48 (u0 + 3)) (Int32.ofNat d) mc) (sf_264 (sq_242 (v0 + 2)) (Int32.ofNat d) mm)
  unfold sf_53 sf_264
  have hstart : sh_Si N K P V 0 d 0 (fun _ => 0) (fun _ => c) (fun _ => p) (fun _ => g) mc mm mc mm p c g := sh_Si.mk hb.pc hb.pm (sh_Cf.refl _ _ _) (sh_Mf.refl _ _) (fun k hk => absurd hk (by omega)) rfl rfl rfl (by omega) (by omega) (by omega) (by omega) (by omega)
  have hl := sh_slist (u := u0) (v := v0) hT (by omega) (fun _ => hS) (by omega) (by omega) N p c g 0 0 _ _ _ _ mc mm (by omega) hstart rfl rfl rfl
  rcases hl with ⟨z, mcf, mmf, z1, z2, z3, z4, z5⟩ | ⟨n, ht, r, b, s, a, mc2, mm2, p2, c2, g2, z1, z2, hI, z3, z4, z5, z6⟩
  · exact Or.inl ⟨z, mcf, mmf, z1, z2, z3, z4, z5⟩
  · have hup := sh_Sl_up hI.sq n (Nat.le_refl _)
    have lc := hI.lc
    have lg := hI.lg
    have bk := hI.bk
    have ak := hI.ak
    have sk := hI.sk
    have cf := hI.cf
    have mf := hI.mf
    have pN := hI.pc.pN
    rw [z3] at cf
    rw [z5] at mf
    refine Or.inr ⟨mc2, mm2, p2, c2, g2, ht, sh_hd n r, z1, z2, sp_To.mk hI.pc hI.pm cf mf (by omega) (by omega) (by omega) (by omega) (by omega) ?_ ?_ z6⟩
    · refine ⟨n, r, b, s, a, fun q => by unfold sh_hd; rw [if_pos q], fun q => by unfold sh_hd; rw [if_neg (by omega)], z3, bk, by omega, by omega, by omega, by omega, hI.sq⟩
    · unfold sh_hd
      by_cases hn : n = 0
      · rw [if_pos hn]; decide
      · rw [if_neg hn]
        obtain ⟨_, _, y3, y4, _⟩ := hI.sq 0 (by omega)
        have y4 : r 0 < a 1 := y4
        have q1 := sh_Sl_up hI.sq 1 (by omega)
        intro q
        have q2 := sh_Ieq.mp q
        rw [sh_nI (by omega)] at q2
        have q3 : ((r 0 : Nat) : Int) = -2 := q2
        omega
theorem sh_HSA (hT : sh_Txt N K P V) : ∀ k d, d + k = 41 → sh_HS N K P V d := by
  intro k
  induction k with
  | zero =>
    intro d h
    have : d = 41 := by omega
    subst this
    exact sh_HS41 hT
  | succ k ih =>
    intro d h
    exact sh_HSd hT (by omega) (ih (d + 1) (by omega))
/-- statements, as the FNs and the program call them -/
theorem sh_pstm {d p c g : Nat} {mc mm : sh_X} (hT : sh_Txt N K P V) (hd : d ≤ 1) (hb : sh_Qb N K P V p c g mc mm) : sh_Tp N K P V d p c g mc mm ((sq_48 sh_dp).f53 (Int32.ofNat d) mc) ((sq_242 sh_dp).f264 (Int32.ofNat d) mm) :=
  sh_HSA hT (41 - d) d (by omega) sh_dp sh_dp (by unfold sh_dp; omega) (by unfold sh_dp; omega) p c g mc mm hb
end
