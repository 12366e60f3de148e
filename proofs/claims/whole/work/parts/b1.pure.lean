/-! HEADS: parameters, and all FNs -/
section
variable {N : Nat} {K : Nat → Int32} {P V : Nat → Nat}
theorem sh_wfS {σ ρ : Type} {f : σ → Option (σ ⊕ ρ)} (S : Nat → σ) {Q : Nat → Prop} {n : Nat} {a : Nat → Option ρ} {b : Option ρ} (hs : ∀ i, i < n → ¬ Q i → f (S i) = some (.inl (S (i + 1)))) (hf : ∀ i, i < n → Q i → f (S i) = sh_up (a i)) (he : f (S n) = sh_up b) : (∃ i, i < n ∧ Q i ∧ (∀ j, j < i → ¬ Q j) ∧ sh_while f (S 0) = a i) ∨ ((∀ i, i < n → ¬ Q i) ∧ sh_while f (S 0) = b) := by
  have key : ∀ d k, k + d = n → (∀ j, j < k → ¬ Q j) → (∃ i, i < n ∧ Q i ∧ (∀ j, j < i → ¬ Q j) ∧ sh_while f (S k) = a i) ∨ ((∀ i, i < n → ¬ Q i) ∧ sh_while f (S k) = b) := by
    intro d
    induction d with
    | zero =>
      intro k hk hn
      have : k = n := by omega
      subst this
      exact Or.inr ⟨hn, sh_wup he⟩
    | succ d ih =>
      intro k hk hn
      by_cases hq : Q k
      · exact Or.inl ⟨k, by omega, hq, hn, sh_wup (hf k (by omega) hq)⟩
      · rw [sh_wstep (hs k (by omega) hq)]
        exact ih (k + 1) (by omega) (fun j hj => by
          by_cases hjk : j = k
          · rw [hjk]; exact hq
          · exact hn j (by omega))
  exact key n 0 (by omega) (fun j hj => absurd hj (by omega))
/-- the parameters from k on -/
theorem sh_par {f n nt rt : Nat} {t : Nat → Nat} {mc0 mm : sh_X} (hT : sh_Txt N K P V) (hf : f < 256) (hE : sh_We N K P V mm) (h0 : sh_Hd0 N K mm.I mc0.I f n nt rt t) (hl : mc0.T.length < 1000000) :
    ∀ (d k : Nat) (mc : sh_X), k + d = n → sh_Hc mc0 mc → sh_Wc N K P V mc → (∀ j, j < k → mc.I 35 (8 * f + j) = Int32.ofNat (sh_tv K V (t j + 1)) ∧ sh_tw K V (t j + 1)) → (∀ y, ¬ (8 * f ≤ y ∧ y < 8 * f + 8) → mc.I 35 y = mc0.I 35 y) → mc.I 32 = mc0.I 32 →
    (∃ (q : Int32) (z : Nat) (m1 : sh_X), z ≤ N ∧ sf_85_2 (Int32.ofNat f * 8) (Int32.ofNat n) (Int32.ofNat (8 * f + k)) mc = some (none, sh_flt q (Int32.ofNat (P z)) m1) ∧ sh_Hc mc0 m1 ∧ sf_278_61 (Int32.ofNat f) (Int32.ofNat k) mm = some (.inr (false, sh_mft q (Int32.ofNat (P z)) mm))) ∨
    (∃ mc2, sf_85_2 (Int32.ofNat f * 8) (Int32.ofNat n) (Int32.ofNat (8 * f + k)) mc = some (some (), mc2) ∧ sh_Hc mc0 mc2 ∧ (∀ j, j < n → mc2.I 35 (8 * f + j) = Int32.ofNat (sh_tv K V (t j + 1)) ∧ sh_tw K V (t j + 1)) ∧ (∀ y, ¬ (8 * f ≤ y ∧ y < 8 * f + 8) → mc2.I 35 y = mc0.I 35 y) ∧ mc2.I 32 = mc0.I 32 ∧ sf_278_61 (Int32.ofNat f) (Int32.ofNat k) mm = sh_bn (sf_280 (mm.I 85 f) mm) fun r1 m11 => if r1 = true then some (.inl (Int32.ofNat (f + 1), m11)) else some (.inr (false, m11))) := by
  have n4 := hT.N4
  have n8 := h0.n8
  have e8 : Int32.ofNat f * 8 = Int32.ofNat (8 * f) := by rw [show (8 : Int32) = Int32.ofNat 8 from rfl, sh_nImul, Nat.mul_comm]
  have e8n : Int32.ofNat f * 8 + Int32.ofNat n = Int32.ofNat (8 * f + n) := by rw [e8, sh_nIadd]
  have okf : sh_okb (Int32.ofNat f) 600 = true := (sh_okn (by omega)).mpr (by omega)
  have clf : Int32.toNatClampNeg (Int32.ofNat f) = f := sh_nIc (by omega)
  intro d
  induction d with
  | zero =>
    intro k mc hk hH hw h35 h35o h32
    have hkn : k = n := by omega
    subst hkn
    right
    refine ⟨mc, ?_, hH, h35, h35o, h32, ?_⟩
    · unfold sf_85_2
      refine sh_wend ?_
      show sf_85_2s (Int32.ofNat f * 8) (Int32.ofNat k) (Int32.ofNat (8 * f + k)) mc = _
      unfold sf_85_2s
      rw [e8n, if_neg (fun q => absurd ((sh_nIlt (by omega) (by omega)).mp q) (by omega))]
    · unfold sf_278_61
      rw [sh_while_eq]
      have hst : sf_278_61s (Int32.ofNat f) (Int32.ofNat k) mm = sh_bn (sf_280 (mm.I 85 f) mm) fun r1 m11 => if r1 = true then some (.inr (.inl (Int32.ofNat (f + 1), m11))) else some (.inr (.inr ((false, m11)))) := by
        unfold sf_278_61s
        rw [if_pos okf, clf, h0.a80, if_neg (fun q => absurd ((sh_nIlt (by omega) (by omega)).mp q) (by omega)), if_pos okf, sh_nI1]
      simp only [hst]
      rcases sf_280 (mm.I 85 f) mm with _ | ⟨r, m⟩
      · rfl
      · rw [sh_bn_some, sh_bn_some]
        split
        · rename_i h; split at h <;> cases h
        · rename_i h; split at h <;> cases h
        · rename_i h; split at h <;> cases h
          · rename_i h2; rw [if_pos h2]
          · rename_i h2; rw [if_neg h2]
  | succ d ih =>
    intro k mc hk hH hw h35 h35o h32
    have hkn : k < n := by omega
    obtain ⟨p1, p2, p3, p4, p5⟩ := h0.pr k hkn
    have tkN := h0.tN k hkn
    have hlm : mc.T.length < 1000000 := by rw [hH.T]; exact hl
    have c34 : ∀ j, j < n → mc.I 34 (8 * f + j) = Int32.ofNat (t j) ∧ K (t j) = 1 ∧ t j + 3 ≤ N := by
      intro j hj
      obtain ⟨q1, q2, q3, q4, q5⟩ := h0.pr j hj
      rw [hH.I 34 (by omega) (by omega)]
      exact ⟨q4, q2, h0.tN j hj⟩
    have vk := hT.V1 (t k) (by omega) p2
    -- the class's search for a name before
    have hcl : (∃ i, i < k ∧ V (t i) = V (t k) ∧ (∀ j, j < i → ¬ V (t j) = V (t k)) ∧ sf_85_35 (Int32.ofNat f * 8) (Int32.ofNat n) (Int32.ofNat (8 * f + k)) (Int32.ofNat (t k)) (Int32.ofNat (8 * f)) mc = some (.inr (none, sh_flt 3 (Int32.ofNat (P (t k))) mc))) ∨ ((∀ i, i < k → ¬ V (t i) = V (t k)) ∧ sf_85_35 (Int32.ofNat f * 8) (Int32.ofNat n) (Int32.ofNat (8 * f + k)) (Int32.ofNat (t k)) (Int32.ofNat (8 * f)) mc = sh_bt (sf_86 (Int32.ofNat (t k + 1)) mc) (fun m => .inr ((none, m))) fun r4 m14 => some (.inl (Int32.ofNat (8 * f + (k + 1)), (m14.T, sh_u2 m14.I 35 (8 * f + k) r4, m14.J, m14.s)))) := by
      unfold sf_85_35
      refine sh_wfS (ρ := (Int32 × sh_X) ⊕ (Option Unit × sh_X)) (f := fun q : Int32 × sh_X => sf_85_35s (Int32.ofNat f * 8) (Int32.ofNat n) (Int32.ofNat (8 * f + k)) (Int32.ofNat (t k)) q.1 q.2) (S := fun i => (Int32.ofNat (8 * f + i), mc)) (Q := fun i => V (t i) = V (t k)) (n := k) (a := fun _ => some (.inr (none, sh_flt 3 (Int32.ofNat (P (t k))) mc))) (b := sh_bt (sf_86 (Int32.ofNat (t k + 1)) mc) (fun m => .inr ((none, m))) fun r4 m14 => some (.inl (Int32.ofNat (8 * f + (k + 1)), (m14.T, sh_u2 m14.I 35 (8 * f + k) r4, m14.J, m14.s)))) ?_ ?_ ?_
      · intro i hi hq
        obtain ⟨c1, c2, c3⟩ := c34 i (by omega)
        have vi := hT.V1 (t i) (by omega) c2
        show sf_85_35s _ _ _ _ (Int32.ofNat (8 * f + i)) mc = _
        unfold sf_85_35s sf_85_80
        rw [if_pos ((sh_nIlt (by omega) (by omega)).mpr (by omega)), if_pos ((sh_okn (by omega)).mpr (by omega)), sh_nIc (by omega), c1, sh_83 hT hw (by omega) c2, sh_bc_some, sh_83 hT hw (by omega) p2, sh_bc_some, if_neg (fun q => hq ((sh_nIeq (by omega) (by omega)).mp q)), sh_nI1]
        rfl
      · intro i hi hq
        obtain ⟨c1, c2, c3⟩ := c34 i (by omega)
        show sf_85_35s _ _ _ _ (Int32.ofNat (8 * f + i)) mc = _
        unfold sf_85_35s
        rw [if_pos ((sh_nIlt (by omega) (by omega)).mpr (by omega)), if_pos ((sh_okn (by omega)).mpr (by omega)), sh_nIc (by omega), c1, sh_83 hT hw (by omega) c2, sh_bc_some, sh_83 hT hw (by omega) p2, sh_bc_some, if_pos (by rw [hq]), sh_50 hw n4 (by omega) hlm]
        rfl
      · show sf_85_35s _ _ _ _ (Int32.ofNat (8 * f + k)) mc = _
        unfold sf_85_35s
        rw [if_neg (fun q => absurd ((sh_nIlt (by omega) (by omega)).mp q) (by omega)), sh_nI1]
        simp only [if_pos ((sh_okn (n := 8 * f + k) (k := 2048) (by omega)).mpr (by omega)), sh_nIc (show 8 * f + k < 2147483648 by omega)]
        rw [sh_nI1]
        rcases sf_86 (Int32.ofNat (t k + 1)) mc with _ | ⟨_ | r, m⟩ <;> rfl
    have ecl : sf_85_2s (Int32.ofNat f * 8) (Int32.ofNat n) (Int32.ofNat (8 * f + k)) mc = sf_85_35 (Int32.ofNat f * 8) (Int32.ofNat n) (Int32.ofNat (8 * f + k)) (Int32.ofNat (t k)) (Int32.ofNat (8 * f)) mc := by
      unfold sf_85_2s
      rw [e8n, if_pos ((sh_nIlt (by omega) (by omega)).mpr (by omega)), if_pos (show Int32.ofNat (8 * f + k) < 2048 from (sh_nIlt (b := 2048) (by omega) (by omega)).mpr (by omega)), if_pos ((sh_okn (by omega)).mpr (by omega)), sh_nIc (by omega), (c34 k hkn).1, e8]
    -- the model's search
    have a81 : ∀ j, j < n → mm.I 81 (8 * f + j) = Int32.ofNat (t j) ∧ K (t j) = 1 ∧ t j + 3 ≤ N := by
      intro j hj
      obtain ⟨q1, q2, q3, q4, q5⟩ := h0.pr j hj
      exact ⟨q3, q2, h0.tN j hj⟩
    have hml : (∃ i, i < k ∧ V (t i) = V (t k) ∧ (∀ j, j < i → ¬ V (t j) = V (t k)) ∧ sf_278_73 (Int32.ofNat f) (Int32.ofNat k) (Int32.ofNat 0) mm = some (.inr (.inr (false, sh_mft 3 (Int32.ofNat (P (t k))) mm)))) ∨ ((∀ i, i < k → ¬ V (t i) = V (t k)) ∧ sf_278_73 (Int32.ofNat f) (Int32.ofNat k) (Int32.ofNat 0) mm = sh_bn (sf_280 (mm.I 83 (8 * f + k)) mm) fun r3 m13 => if r3 = true then some (.inl (Int32.ofNat (k + 1), m13)) else some (.inr (.inr ((false, m13))))) := by
      unfold sf_278_73
      refine sh_wfS (ρ := (Int32 × sh_X) ⊕ ((Int32 × sh_X) ⊕ (Bool × sh_X))) (f := fun q : Int32 × sh_X => sf_278_73s (Int32.ofNat f) (Int32.ofNat k) q.1 q.2) (S := fun i => (Int32.ofNat i, mm)) (Q := fun i => V (t i) = V (t k)) (n := k) (a := fun _ => some (.inr (.inr (false, sh_mft 3 (Int32.ofNat (P (t k))) mm)))) (b := sh_bn (sf_280 (mm.I 83 (8 * f + k)) mm) fun r3 m13 => if r3 = true then some (.inl (Int32.ofNat (k + 1), m13)) else some (.inr (.inr ((false, m13))))) ?_ ?_ ?_
      · intro i hi hq
        obtain ⟨c1, c2, c3⟩ := a81 i (by omega)
        obtain ⟨d1, d2, d3⟩ := a81 k hkn
        show sf_278_73s _ _ (Int32.ofNat i) mm = _
        unfold sf_278_73s
        rw [if_pos ((sh_nIlt (by omega) (by omega)).mpr hi), sh_8n, sh_8n, if_pos ((sh_okn (by omega)).mpr (by omega)), if_pos ((sh_okn (by omega)).mpr (by omega)), sh_nIc (by omega), sh_nIc (by omega), c1, d1, hE.sm (by omega) (by omega) c2 d2, sh_bc_some, decide_eq_false hq, if_neg (by simp), sh_nI1]
      · intro i hi hq
        obtain ⟨c1, c2, c3⟩ := a81 i (by omega)
        obtain ⟨d1, d2, d3⟩ := a81 k hkn
        show sf_278_73s _ _ (Int32.ofNat i) mm = _
        unfold sf_278_73s
        rw [if_pos ((sh_nIlt (by omega) (by omega)).mpr hi), sh_8n, sh_8n, if_pos ((sh_okn (by omega)).mpr (by omega)), if_pos ((sh_okn (by omega)).mpr (by omega)), sh_nIc (by omega), sh_nIc (by omega), c1, d1, hE.sm (by omega) (by omega) c2 d2, sh_bc_some, decide_eq_true hq, if_pos rfl, if_pos ((sh_okn (by omega)).mpr (by omega)), if_pos ((sh_okn (by omega)).mpr (by omega)), sh_nIc (by omega), hE.at (by omega), sh_252]
        rfl
      · show sf_278_73s _ _ (Int32.ofNat k) mm = _
        unfold sf_278_73s
        rw [if_neg (fun q => absurd ((sh_nIlt (by omega) (by omega)).mp q) (by omega)), sh_8n, if_pos ((sh_okn (by omega)).mpr (by omega)), sh_nIc (by omega), sh_nI1]
        rcases sf_280 (mm.I 83 (8 * f + k)) mm with _ | ⟨r, m⟩
        · rfl
        · rw [sh_bn_some, sh_bn_some]
          cases r <;> rfl
    have eml : sf_278_61s (Int32.ofNat f) (Int32.ofNat k) mm = sf_278_73 (Int32.ofNat f) (Int32.ofNat k) (Int32.ofNat 0) mm := by
      unfold sf_278_61s
      rw [if_pos okf, clf, h0.a80, if_pos ((sh_nIlt (by omega) (by omega)).mpr hkn)]
      rfl
    rcases hcl with ⟨i, i1, i2, i3, hcl⟩ | ⟨hno, hcl⟩
    · -- a name twice
      rcases hml with ⟨j, j1, j2, j3, hml⟩ | ⟨hno, _⟩
      · left
        refine ⟨3, t k, mc, by omega, ?_, hH, ?_⟩
        · unfold sf_85_2
          refine sh_wend ?_
          show sf_85_2s _ _ _ mc = _
          rw [ecl]; exact hcl
        · unfold sf_278_61
          refine sh_wend ?_
          show sf_278_61s _ _ mm = _
          rw [eml]; exact hml
      · exact absurd i2 (hno i i1)
    · rcases hml with ⟨j, j1, j2, _⟩ | ⟨_, hml⟩
      · exact absurd j2 (hno j j1)
      · rcases sh_86 hT hw (show t k + 1 + 2 ≤ N by omega) p5.1 (fun q => by rcases p5.2.2 with ⟨x1, _⟩ | ⟨_, x2, _⟩; exact absurd q x1; exact x2) hlm with ⟨w1, w2⟩ | ⟨w1, w2⟩
        · rcases sh_280 hT hE (show t k + 1 + 2 ≤ N by omega) p5 with ⟨x1, x2⟩ | ⟨x1, _⟩
          · -- the next one
            have stc : sf_85_2 (Int32.ofNat f * 8) (Int32.ofNat n) (Int32.ofNat (8 * f + k)) mc = sf_85_2 (Int32.ofNat f * 8) (Int32.ofNat n) (Int32.ofNat (8 * f + (k + 1))) (mc.T, sh_u2 mc.I 35 (8 * f + k) (Int32.ofNat (sh_tv K V (t k + 1))), mc.J, mc.s) := by
              unfold sf_85_2
              refine sh_wstep ?_
              show sf_85_2s _ _ _ mc = _
              rw [ecl, hcl, w2]
              rfl
            have stm : sf_278_61 (Int32.ofNat f) (Int32.ofNat k) mm = sf_278_61 (Int32.ofNat f) (Int32.ofNat (k + 1)) mm := by
              unfold sf_278_61
              refine sh_wstep ?_
              show sf_278_61s _ _ mm = _
              rw [eml, hml, x2, sh_bn_some, if_pos rfl]
            rw [stc, stm]
            have hH2 := hH.trans (sh_Hc.wr (m := mc) (x := 35) (i := 8 * f + k) (v := Int32.ofNat (sh_tv K V (t k + 1))) (Or.inr rfl))
            refine ih (k + 1) _ (by omega) hH2 ((sh_Hc.wr (Or.inr rfl)).wc hw) ?_ ?_ ?_
            · intro j hj
              show sh_u2 mc.I 35 (8 * f + k) (Int32.ofNat (sh_tv K V (t k + 1))) 35 (8 * f + j) = _ ∧ _
              by_cases hjk : j = k
              · subst hjk
                rw [sh_u2_same]
                exact ⟨rfl, w1⟩
              · rw [sh_u2_idx (by omega)]
                exact h35 j (by omega)
            · intro y hy
              show sh_u2 mc.I 35 (8 * f + k) (Int32.ofNat (sh_tv K V (t k + 1))) 35 y = _
              rw [sh_u2_idx (by omega)]
              exact h35o y hy
            · show sh_u2 mc.I 35 (8 * f + k) (Int32.ofNat (sh_tv K V (t k + 1))) 32 = _
              rw [sh_u2_cell (by omega)]
              exact h32
          · exact absurd w1 x1
        · rcases sh_280 hT hE (show t k + 1 + 2 ≤ N by omega) p5 with ⟨x1, _⟩ | ⟨_, x2⟩
          · exact absurd x1 w1
          · left
            refine ⟨4, t k + 1 + 2, mc, by omega, ?_, hH, ?_⟩
            · unfold sf_85_2
              refine sh_wend ?_
              show sf_85_2s _ _ _ mc = _
              rw [ecl, hcl, w2]
              rfl
            · unfold sf_278_61
              refine sh_wend ?_
              show sf_278_61s _ _ mm = _
              rw [eml, hml, x2, sh_bn_some, if_neg (by simp)]
end
