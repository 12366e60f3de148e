/-! HEADS: all of them -/
/-- the FNs' heads are good: their types stand in the entries 32 and 35, no two have one name -/
def sh_Hds (N : Nat) (K : Nat → Int32) (V : Nat → Nat) (A C : Nat → Nat → Int32) (F : Nat) : Prop := ∀ f, f < F → ∃ n nt rt t, sh_Hd0 N K A C f n nt rt t ∧ (∀ j, j < n → C 35 (8 * f + j) = Int32.ofNat (sh_tv K V (t j + 1)) ∧ sh_tw K V (t j + 1)) ∧ C 32 f = Int32.ofNat (sh_tv K V rt) ∧ sh_tw K V rt ∧ ∀ g, g < f → ¬ V (Int32.toNatClampNeg (A 79 g)) = V nt
section
variable {N : Nat} {K : Nat → Int32} {P V : Nat → Nat}
theorem sh_Hd0.cong {A C C' : Nat → Nat → Int32} {f n nt rt : Nat} {t : Nat → Nat} (h : sh_Hd0 N K A C f n nt rt t) (hC : ∀ x, x ≠ 32 → x ≠ 35 → C' x = C x) : sh_Hd0 N K A C' f n nt rt t :=
  sh_Hd0.mk h.a79 (by rw [hC 29 (by omega) (by omega)]; exact h.c29) h.k1 h.nN h.a80 (by rw [hC 33 (by omega) (by omega)]; exact h.c33) h.n8 (h.pr.mono (fun _ _ => ⟨rfl, rfl, rfl⟩) (fun k _ => by rw [hC 34 (by omega) (by omega)])) h.tN (by rw [hC 31 (by omega) (by omega)]; exact h.c31) h.ty h.rN
theorem sh_heads {F : Nat} {mc0 mm : sh_X} (hT : sh_Txt N K P V) (hF : F < 256) (hE : sh_We N K P V mm) (hw0 : sh_Wc N K P V mc0) (h12 : mc0.I 28 12 = Int32.ofNat F) (h31 : mm.I 66 31 = Int32.ofNat F) (hH0 : ∀ f, f < F → ∃ n nt rt t, sh_Hd0 N K mm.I mc0.I f n nt rt t) (hl : mc0.T.length < 1000000) :
    ∀ (d f : Nat) (mc : sh_X), f + d = F → sh_Hc mc0 mc → sh_Hds N K V mm.I mc.I f →
    (∃ (q : Int32) (z : Nat) (m1 : sh_X), z ≤ N ∧ sf_82_2 (Int32.ofNat f) mc = some (none, sh_flt q (Int32.ofNat (P z)) m1) ∧ sh_Hc mc0 m1 ∧ sf_278_2 (Int32.ofNat f) mm = some (false, sh_mft q (Int32.ofNat (P z)) mm)) ∨
    (∃ mc2, sf_82_2 (Int32.ofNat f) mc = some (some (), mc2) ∧ sh_Hc mc0 mc2 ∧ sh_Hds N K V mm.I mc2.I F ∧ sf_278_2 (Int32.ofNat f) mm = some (true, mm)) := by
  have n4 := hT.N4
  have a79 : ∀ g, g < F → mm.I 79 g = Int32.ofNat (Int32.toNatClampNeg (mm.I 79 g)) ∧ K (Int32.toNatClampNeg (mm.I 79 g)) = 1 ∧ Int32.toNatClampNeg (mm.I 79 g) ≤ N ∧ mc0.I 29 g = Int32.ofNat (Int32.toNatClampNeg (mm.I 79 g)) := by
    intro g hg
    obtain ⟨n, nt, rt, t, h⟩ := hH0 g hg
    have e : Int32.toNatClampNeg (mm.I 79 g) = nt := by rw [h.a79]; exact sh_nIc (by have := h.nN; omega)
    rw [e]
    exact ⟨h.a79, h.k1, h.nN, h.c29⟩
  intro d
  induction d with
  | zero =>
    intro f mc hf hH hD
    have hfF : f = F := by omega
    subst hfF
    right
    refine ⟨mc, ?_, hH, hD, ?_⟩
    · unfold sf_82_2
      refine sh_wend ?_
      show sf_82_2s (Int32.ofNat f) mc = _
      unfold sf_82_2s
      rw [hH.I 28 (by omega) (by omega), h12, if_neg (fun q => absurd ((sh_nIlt (by omega) (by omega)).mp q) (by omega))]
    · unfold sf_278_2
      refine sh_wend ?_
      show sf_278_2s (Int32.ofNat f) mm = _
      unfold sf_278_2s
      rw [h31, if_neg (fun q => absurd ((sh_nIlt (by omega) (by omega)).mp q) (by omega))]
  | succ d ih =>
    intro f mc hf hH hD
    have hfF : f < F := by omega
    obtain ⟨n, nt, rt, t, h0⟩ := hH0 f hfF
    have hw := hH.wc hw0
    have hlm : mc.T.length < 1000000 := by rw [hH.T]; exact hl
    have okf : ∀ n, 256 ≤ n → sh_okb (Int32.ofNat f) n = true := fun n hn => (sh_okn (by omega)).mpr (by omega)
    have clf : Int32.toNatClampNeg (Int32.ofNat f) = f := sh_nIc (by omega)
    have c29 : mc.I 29 f = Int32.ofNat nt := by rw [hH.I 29 (by omega) (by omega)]; exact h0.c29
    have vn := hT.V1 nt h0.nN h0.k1
    have nN := h0.nN
    -- a FN of this name before?
    have h84 := sh_84 (m := mc) (v := V nt) (F := f) (nt := fun g => Int32.toNatClampNeg (mm.I 79 g)) hT hw (by omega) (fun g hg => by
      obtain ⟨x1, x2, x3, x4⟩ := a79 g (by omega)
      rw [hH.I 29 (by omega) (by omega)]
      exact ⟨x4, x2, x3⟩) vn
    have hml : (∃ g, g < f ∧ V (Int32.toNatClampNeg (mm.I 79 g)) = V nt ∧ (∀ j, j < g → ¬ V (Int32.toNatClampNeg (mm.I 79 j)) = V nt) ∧ sf_278_12 (Int32.ofNat f) (Int32.ofNat 0) mm = some (.inr (false, sh_mft 3 (Int32.ofNat (P nt)) mm))) ∨ ((∀ g, g < f → ¬ V (Int32.toNatClampNeg (mm.I 79 g)) = V nt) ∧ sf_278_12 (Int32.ofNat f) (Int32.ofNat 0) mm = sf_278_61 (Int32.ofNat f) (Int32.ofNat 0) mm) := by
      unfold sf_278_12
      refine sh_wfS (ρ := (Int32 × sh_X) ⊕ (Bool × sh_X)) (f := fun q : Int32 × sh_X => sf_278_12s (Int32.ofNat f) q.1 q.2) (S := fun i => (Int32.ofNat i, mm)) (Q := fun g => V (Int32.toNatClampNeg (mm.I 79 g)) = V nt) (n := f) (a := fun _ => some (.inr (false, sh_mft 3 (Int32.ofNat (P nt)) mm))) (b := sf_278_61 (Int32.ofNat f) (Int32.ofNat 0) mm) ?_ ?_ ?_
      · intro i hi hq
        obtain ⟨x1, x2, x3, x4⟩ := a79 i (by omega)
        show sf_278_12s _ (Int32.ofNat i) mm = _
        unfold sf_278_12s
        rw [if_pos ((sh_nIlt (by omega) (by omega)).mpr hi), if_pos ((sh_okn (by omega)).mpr (by omega)), if_pos (okf 600 (by omega)), sh_nIc (by omega), clf, h0.a79, x1, hE.sm x3 nN x2 h0.k1, sh_bc_some, decide_eq_false hq, if_neg (by simp), sh_nI1]
      · intro i hi hq
        obtain ⟨x1, x2, x3, x4⟩ := a79 i (by omega)
        show sf_278_12s _ (Int32.ofNat i) mm = _
        unfold sf_278_12s
        rw [if_pos ((sh_nIlt (by omega) (by omega)).mpr hi), if_pos ((sh_okn (by omega)).mpr (by omega)), if_pos (okf 600 (by omega)), sh_nIc (by omega), clf, h0.a79, x1, hE.sm x3 nN x2 h0.k1, sh_bc_some, decide_eq_true hq, if_pos rfl, if_pos (okf 600 (by omega)), if_pos ((sh_okn (by omega)).mpr (by omega)), sh_nIc (by omega), hE.at nN, sh_252]
        rfl
      · show sf_278_12s _ (Int32.ofNat f) mm = _
        unfold sf_278_12s
        rw [if_neg (fun q => absurd ((sh_nIlt (by omega) (by omega)).mp q) (by omega))]
        rfl
    have eml : sf_278_2s (Int32.ofNat f) mm = sf_278_12 (Int32.ofNat f) (Int32.ofNat 0) mm := by
      unfold sf_278_2s
      rw [h31, if_pos ((sh_nIlt (by omega) (by omega)).mpr hfF)]
      rfl
    have ecl : ∀ r, sf_84 (Int32.ofNat (V nt)) (Int32.ofNat f) mc = some r → sf_82_2s (Int32.ofNat f) mc = if r = (-1) then sf_82_56 (Int32.ofNat f) mc else sh_bt (sf_50 3 (mc.I 29 f) mc) (fun m => .inr ((none, m))) fun _ m13 => sf_82_56 (Int32.ofNat f) m13 := by
      intro r hr
      unfold sf_82_2s
      rw [hH.I 28 (by omega) (by omega), h12, if_pos ((sh_nIlt (by omega) (by omega)).mpr hfF), if_pos (show Int32.ofNat f < 256 from (sh_nIlt (b := 256) (by omega) (by omega)).mpr (by omega)), if_pos (okf 256 (by omega)), clf, c29, sh_83 hT hw nN h0.k1, sh_bc_some, hr, sh_bc_some]
    rcases h84 with ⟨g, g1, g2, g3, g4⟩ | ⟨hno, g4⟩
    · rcases hml with ⟨g', j1, j2, j3, hml⟩ | ⟨hno, _⟩
      · left
        refine ⟨3, nt, mc, nN, ?_, hH, ?_⟩
        · unfold sf_82_2
          refine sh_wend ?_
          show sf_82_2s _ mc = _
          rw [ecl _ g4, if_neg (fun q => by
            have q2 := sh_Ieq.mp q
            rw [sh_nI (by omega)] at q2
            have q3 : ((g : Nat) : Int) = -1 := q2
            omega), c29, sh_50 hw n4 nN hlm]
          rfl
        · unfold sf_278_2
          refine sh_wend ?_
          show sf_278_2s _ mm = _
          rw [eml]; exact hml
      · exact absurd g2 (hno g g1)
    · rcases hml with ⟨g', j1, j2, _⟩ | ⟨_, hml⟩
      · exact absurd j2 (hno g' j1)
      · have ecl2 : sf_82_2s (Int32.ofNat f) mc = sh_bt (sf_85_2 (Int32.ofNat f * 8) (Int32.ofNat n) (Int32.ofNat (8 * f + 0)) mc) (fun m => .inr ((none, m))) fun _ m11 => sh_bt (sf_86 (m11.I 31 f) m11) (fun m => .inr ((none, m))) fun r2 m12 => some (.inl (Int32.ofNat (f + 1), (m12.T, sh_u2 m12.I 32 f r2, m12.J, m12.s))) := by
          rw [ecl _ g4, if_pos rfl]
          unfold sf_82_56 sf_85
          rw [if_pos (okf 256 (by omega)), clf, hH.I 33 (by omega) (by omega), h0.c33, sh_nI1]
          simp only [if_pos (okf 256 (by omega))]
          have e8 : Int32.ofNat f * 8 = Int32.ofNat (8 * f + 0) := by rw [show (8 : Int32) = Int32.ofNat 8 from rfl, sh_nImul, Nat.mul_comm]; rfl
          rw [← e8]
        have hp := sh_par (mc0 := mc) (n := n) (nt := nt) (rt := rt) (t := t) hT (by omega) hE (h0.cong (fun x h1 h2 => hH.I x h1 h2)) hlm n 0 mc (by omega) (sh_Hc.refl mc) hw (fun j hj => absurd hj (by omega)) (fun _ _ => rfl) rfl
        rcases hp with ⟨q, z, m1, q1, q2, q3, q4⟩ | ⟨mc2, q1, q2, q3, q4, q5, q6⟩
        · left
          refine ⟨q, z, m1, q1, ?_, hH.trans q3, ?_⟩
          · unfold sf_82_2
            refine sh_wend ?_
            show sf_82_2s _ mc = _
            rw [ecl2, q2]
            rfl
          · unfold sf_278_2
            refine sh_wend ?_
            show sf_278_2s _ mm = _
            rw [eml, hml]; exact q4
        · have hH2 := hH.trans q2
          have hw2 := hH2.wc hw0
          have c31 : mc2.I 31 f = Int32.ofNat rt := by rw [hH2.I 31 (by omega) (by omega)]; exact h0.c31
          have hl2 : mc2.T.length < 1000000 := by rw [hH2.T]; exact hl
          have rN := h0.rN
          rcases sh_86 hT hw2 rN h0.ty.1 (fun q => by rcases h0.ty.2.2 with ⟨x1, _⟩ | ⟨_, x2, _⟩; exact absurd q x1; exact x2) hl2 with ⟨w1, w2⟩ | ⟨w1, w2⟩
          · rcases sh_280 hT hE rN h0.ty with ⟨x1, x2⟩ | ⟨x1, _⟩
            · have stc : sf_82_2 (Int32.ofNat f) mc = sf_82_2 (Int32.ofNat (f + 1)) (mc2.T, sh_u2 mc2.I 32 f (Int32.ofNat (sh_tv K V rt)), mc2.J, mc2.s) := by
                unfold sf_82_2
                refine sh_wstep ?_
                show sf_82_2s _ mc = _
                rw [ecl2, q1]
                show sh_bt (sf_86 (mc2.I 31 f) mc2) _ _ = _
                rw [c31, w2]
                rfl
              have stm : sf_278_2 (Int32.ofNat f) mm = sf_278_2 (Int32.ofNat (f + 1)) mm := by
                unfold sf_278_2
                refine sh_wstep ?_
                show sf_278_2s _ mm = _
                rw [eml, hml, q6, x2, sh_bn_some, if_pos rfl]
              rw [stc, stm]
              have hH3 := hH2.trans (sh_Hc.wr (m := mc2) (x := 32) (i := f) (v := Int32.ofNat (sh_tv K V rt)) (Or.inl rfl))
              refine ih (f + 1) _ (by omega) hH3 ?_
              intro f' hf'
              by_cases he : f' = f
              · subst he
                refine ⟨n, nt, rt, t, h0.cong (fun x h1 h2 => hH3.I x h1 h2), ?_, ?_, w1, hno⟩
                · intro j hj
                  show sh_u2 mc2.I 32 f' (Int32.ofNat (sh_tv K V rt)) 35 (8 * f' + j) = _ ∧ _
                  rw [sh_u2_cell (by omega)]
                  exact q3 j hj
                · show sh_u2 mc2.I 32 f' (Int32.ofNat (sh_tv K V rt)) 32 f' = _
                  rw [sh_u2_same]
              · obtain ⟨n', nt', rt', t', d1, d2, d3, d4, d5⟩ := hD f' (by omega)
                refine ⟨n', nt', rt', t', d1.cong (fun x h1 h2 => (((sh_Hc.wr (m := mc2) (x := 32) (i := f) (v := Int32.ofNat (sh_tv K V rt)) (Or.inl rfl)).I x h1 h2).trans (q2.I x h1 h2))), ?_, ?_, d4, d5⟩
                · intro j hj
                  show sh_u2 mc2.I 32 f (Int32.ofNat (sh_tv K V rt)) 35 (8 * f' + j) = _ ∧ _
                  have n8 := d1.n8
                  rw [sh_u2_cell (by omega), q4 _ (by omega)]
                  exact d2 j hj
                · show sh_u2 mc2.I 32 f (Int32.ofNat (sh_tv K V rt)) 32 f' = _
                  rw [sh_u2_idx he, q5]
                  exact d3
            · exact absurd w1 x1
          · rcases sh_280 hT hE rN h0.ty with ⟨x1, _⟩ | ⟨_, x2⟩
            · exact absurd x1 w1
            · left
              refine ⟨4, rt + 2, mc2, by omega, ?_, hH2, ?_⟩
              · unfold sf_82_2
                refine sh_wend ?_
                show sf_82_2s _ mc = _
                rw [ecl2, q1]
                show sh_bt (sf_86 (mc2.I 31 f) mc2) _ _ = _
                rw [c31, w2]
                rfl
              · unfold sf_278_2
                refine sh_wend ?_
                show sf_278_2s _ mm = _
                rw [eml, hml, q6, x2, sh_bn_some, if_neg (by simp)]
end
