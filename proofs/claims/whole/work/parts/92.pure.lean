/-! PARSERS: expressions of every depth -/
section
variable {N : Nat} {K : Nat → Int32} {P V : Nat → Nat}
theorem sh_HBd {d w0 u : Nat} (hT : sh_Txt N K P V) (hd : d ≤ 40) (hw0 : w0 ≤ 10 * d) (hO : sh_HO N K P V d) (hu : 5 * (41 - d) + 1 ≤ u) : ∀ k least, least + k = 11 → 1 ≤ least → sh_HB N K P V (sq_44 u) d w0 least := by
  intro k
  induction k using Nat.strongRecOn with
  | _ k ih =>
    intro least hk h1 v p c w g n mc mm hv hb hww hwl hn hW
    obtain ⟨v0, rfl⟩ : ∃ x, v = x + 1 := ⟨v - 1, by omega⟩
    show (∃ z mcf mmf, _ ∧ _ ∧ sf_269 (sq_240 v0) (Int32.ofNat least) (Int32.ofNat d) mm = _ ∧ _) ∨ (∃ mc2 mm2 p2 c2 w2 g2 e ht n2, _ ∧ sf_269 (sq_240 v0) (Int32.ofNat least) (Int32.ofNat d) mm = _ ∧ _)
    unfold sf_269
    rcases hO u v0 hu (by omega) p c w g mc mm hb (by omega) with ⟨z, mcf, mmf, z1, z2, z3, z4, z5⟩ | ⟨mc2, mm2, p2, c2, g2, e, ht, z1, z2, hE⟩
    · left
      refine ⟨z, mcf, mmf, z1, by rw [z2]; rfl, ?_, z4, z5⟩
      rw [z3, sh_bn_some]
      unfold sf_269_6
      refine sh_wend ?_
      show sf_269_6s (sq_240 v0) (Int32.ofNat least) (Int32.ofNat d) (-1) mmf = _
      unfold sf_269_6s
      rw [if_pos (by decide)]
    · rw [z1, z2, sh_bn_some]
      show (∃ z mcf mmf, _ ∧ sf_58_12 (sq_44 u) (Int32.ofNat d) (Int32.ofNat w0) (Int32.ofNat n) mc2 = _ ∧ _) ∨ (∃ mc3 mm2 p2 c2 w2 g2 e ht n2, sf_58_12 (sq_44 u) (Int32.ofNat d) (Int32.ofNat w0) (Int32.ofNat n) mc2 = _ ∧ _)
      have lp := hE.lp
      exact sh_pbl hT hb h1 (by omega) hd hw0 hww hwl (by omega) hW (fun l l1 l2 => ih (11 - l) (by omega) l (by omega) (by omega)) N mc2 mm2 p2 c2 w g2 e ht n (by omega) (by omega) (hE.bk (by omega))
theorem sh_HX41 : sh_HX N K P V 41 := by
  intro u v hu hv p c w g mc mm hb hw
  obtain ⟨u0, rfl⟩ : ∃ x, u = x + 2 := ⟨u - 2, by omega⟩
  obtain ⟨v0, rfl⟩ : ∃ x, v = x + 1 := ⟨v - 1, by omega⟩
  refine Or.inl ⟨p, _, _, hb.pc.pN, ?_, ?_, hb.pc.bad, hb.pm.bad⟩
  · show sf_58 (sq_44 (u0 + 1)) (Int32.ofNat 41) mc = _
    unfold sf_58
    show sh_bt (sf_59 (sq_44 u0) (Int32.ofNat 41) mc) _ _ = _
    unfold sf_59
    rw [if_pos (by decide), sh_49 hb.pc]
    rfl
  · show sf_267 (sq_240 v0) (Int32.ofNat 41) mm = _
    unfold sf_267
    rw [if_pos (by decide), sh_268 hb.pm]
    rfl
theorem sh_HXd {d : Nat} (hT : sh_Txt N K P V) (hd : d ≤ 40) (hO : sh_HO N K P V d) : sh_HX N K P V d := by
  intro u v hu hv p c w g mc mm hb hw
  obtain ⟨u0, rfl⟩ : ∃ x, u = x + 1 := ⟨u - 1, by omega⟩
  obtain ⟨v0, rfl⟩ : ∃ x, v = x + 1 := ⟨v - 1, by omega⟩
  have n4 := hb.pc.N4
  have bc := hb.bc
  have bg := hb.bg
  show sh_Ep N K P V d p c w g mc mm (sf_58 (sq_44 u0) (Int32.ofNat d) mc) (sf_267 (sq_240 v0) (Int32.ofNat d) mm)
  have hid : ∀ q : Option (Int32 × sh_X), (sh_bn q fun r m => some (r, m)) = q := by
    intro q
    rcases q with _ | ⟨r, m⟩ <;> rfl
  unfold sf_58 sf_267
  rw [if_neg (sh_d40 hd), hid, hb.pc.ws]
  have hB := sh_HBd (w0 := w) (u := u0) hT hd (by omega) hO (by omega) 10 1 (by omega) (by omega) v0 p c w g 0 mc mm (by omega) hb (Nat.le_refl _) (by omega) (by omega) (Or.inl rfl)
  rcases hB with ⟨z, mcf, mmf, z1, z2, z3, z4, z5⟩ | ⟨mc2, mm2, p2, c2, w2, g2, e, ht, n2, z1, z2, hB, z4, z5⟩
  · exact Or.inl ⟨z, mcf, mmf, z1, z2, z3, z4, z5⟩
  · have lp := hB.lp
    have lc := hB.lc
    have cc := hB.cc
    have lg := hB.lg
    have wb := hB.wb
    have ww := hB.ww
    have p2N := hB.pc.pN
    obtain ⟨s2, q1, q2, q3, q4, q5⟩ := sh_70 (p := p2) (w0 := w) (l := 0) (by omega) (w2 - w) c2 w mc2 (by rw [show w + (w2 - w) = w2 by omega]; exact hB.pc) (Nat.le_refl _) (by omega) (by omega)
      (fun y y1 y2 => by
        obtain ⟨q, a1, a2, a3, a4⟩ := hB.uu y y1 (by omega)
        exact ⟨q, a1, a2, by omega⟩)
      (Or.inl rfl)
    rw [show w + (w2 - w) = w2 by omega] at q1
    have hR1 : sp_R N K V mm2.I s2.I ht g g2 d e c (c2 + (w2 - w)) p p2 := by
      refine hB.r s2.I (fun y y1 y2 => (q3 0).cd y y2) (fun k hk => ?_)
      have := q5 k hk
      rw [show w + (w2 - w) - 1 - k = w2 - 1 - k by omega] at this
      exact this
    refine Or.inr ⟨s2, mm2, p2, c2 + (w2 - w), g2, e, ht, ?_, z2, sh_Ok.mk q2 hB.pm (hB.cf.trans (q3 w) cc (Nat.le_refl _)) hB.mf lp (by omega) (by omega) lg hR1 hB.fi hB.nx⟩
    refine Eq.trans z1 ?_
    unfold sf_58_12
    refine sh_wend ?_
    show sf_58_12s (sq_44 u0) (Int32.ofNat d) (Int32.ofNat w) (Int32.ofNat n2) mc2 = _
    have h99 : sh_up (α := Int32 × sh_X) (sf_58_99 (sq_44 u0) (Int32.ofNat w) mc2) = some (.inr (some (), s2)) := by
      unfold sf_58_99 sf_70
      rw [hB.pc.ws, show sf_70_5 (Int32.ofNat w) 0 (Int32.ofNat w2) mc2 = some ((), s2) from q1]
      rfl
    unfold sf_58_12s
    rw [h99]
    split
    · rw [sh_45 hB.pc, sh_bc_some, (sh_lv_eq (K p2)).1, show sp_lv (K p2) = 0 by omega, if_neg (by decide)]
    · rfl
/-- expressions of every depth -/
theorem sh_HXO (hT : sh_Txt N K P V) : ∀ k d, d + k = 41 → sh_HX N K P V d ∧ sh_HO N K P V d := by
  intro k
  induction k with
  | zero =>
    intro d h
    have : d = 41 := by omega
    subst this
    exact ⟨sh_HX41, sh_HO41⟩
  | succ k ih =>
    intro d h
    obtain ⟨a, b⟩ := ih (d + 1) (by omega)
    have hO := sh_HOd hT (by omega) a b
    exact ⟨sh_HXd hT (by omega) hO, hO⟩
theorem sh_pexpu {d p c g u : Nat} {mc mm : sh_X} (hT : sh_Txt N K P V) (hd : d ≤ 41) (hu : 300 ≤ u) (hb : sh_Pb N K P V p c 0 g mc mm) : sh_Ep N K P V d p c 0 g mc mm ((sq_44 u).f58 (Int32.ofNat d) mc) ((sq_240 sh_dp).f267 (Int32.ofNat d) mm) :=
  (sh_HXO hT (41 - d) d (by omega)).1 u sh_dp (by omega) (by unfold sh_dp; omega) p c 0 g mc mm hb (by omega)
/-- expression, as the statements call it -/
theorem sh_pexp {d p c g : Nat} {mc mm : sh_X} (hT : sh_Txt N K P V) (hd : d ≤ 41) (hb : sh_Pb N K P V p c 0 g mc mm) : sh_Ep N K P V d p c 0 g mc mm ((sq_44 sh_dp).f58 (Int32.ofNat d) mc) ((sq_240 sh_dp).f267 (Int32.ofNat d) mm) :=
  (sh_HXO hT (41 - d) d (by omega)).1 sh_dp sh_dp (by unfold sh_dp; omega) (by unfold sh_dp; omega) p c 0 g mc mm hb (by omega)
end
