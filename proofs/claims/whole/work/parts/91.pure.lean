/-! PARSERS: signs, the model's recursion and the waiting signs of the other side -/
/-- once the waiting signs are in the code, it is the expression e -/
def sh_Pd (N : Nat) (K : Nat → Int32) (V : Nat → Nat) (A : Nat → Nat → Int32) (mc : sh_X) (ht g g2 d e c c2 w w2 p p2 : Nat) : Prop := ∀ C', (∀ y, c ≤ y → y < c2 → C' 36 y = mc.I 36 y ∧ C' 37 y = mc.I 37 y ∧ C' 38 y = mc.I 38 y) → (∀ k, k < w2 - w → C' 36 (c2 + k) = 25 ∧ C' 37 (c2 + k) = mc.I 40 (w2 - 1 - k)) → sp_R N K V A C' ht g g2 d e c (c2 + (w2 - w)) p p2
def sh_Bk (N : Nat) (K : Nat → Int32) (P V : Nat → Nat) (least d w0 p c w g : Nat) (mc mm mc2 mm2 : sh_X) (p2 c2 w2 g2 e ht : Nat) : Prop := (sp_Pc N K P V p2 c2 w2 mc2) ∧ (sh_Pm N K P V p2 g2 mm2) ∧ (sh_Cf c w mc mc2) ∧ (sh_Mf g mm mm2) ∧ (p < p2) ∧ (3 * (c2 + (w2 - w)) + 4 * p + 1 ≤ 3 * c + 4 * p2) ∧ (c ≤ c2) ∧ (g2 + p ≤ g + p2) ∧ (w ≤ w2) ∧ (w2 ≤ w0 + 10) ∧ (sh_Pd N K V mm2.I mc2 ht g g2 d e c c2 w w2 p p2) ∧ (mm2.I 78 e = Int32.ofNat p) ∧ (mm2.I 77 e = -1) ∧ (g ≤ e ∧ e < g2) ∧ (∀ y, w ≤ y → y < w2 → ∃ q, q ≤ N ∧ mc2.I 40 y = Int32.ofNat q ∧ least ≤ sp_lv (K q) ∧ sp_lv (K p2) ≤ sp_lv (K q))
theorem sh_Bk.pc {N : Nat} {K : Nat → Int32} {P V : Nat → Nat} {least d w0 p c w g : Nat} {mc mm mc2 mm2 : sh_X} {p2 c2 w2 g2 e ht : Nat} (h : sh_Bk N K P V least d w0 p c w g mc mm mc2 mm2 p2 c2 w2 g2 e ht) : sp_Pc N K P V p2 c2 w2 mc2 := h.1
theorem sh_Bk.pm {N : Nat} {K : Nat → Int32} {P V : Nat → Nat} {least d w0 p c w g : Nat} {mc mm mc2 mm2 : sh_X} {p2 c2 w2 g2 e ht : Nat} (h : sh_Bk N K P V least d w0 p c w g mc mm mc2 mm2 p2 c2 w2 g2 e ht) : sh_Pm N K P V p2 g2 mm2 := h.2.1
theorem sh_Bk.cf {N : Nat} {K : Nat → Int32} {P V : Nat → Nat} {least d w0 p c w g : Nat} {mc mm mc2 mm2 : sh_X} {p2 c2 w2 g2 e ht : Nat} (h : sh_Bk N K P V least d w0 p c w g mc mm mc2 mm2 p2 c2 w2 g2 e ht) : sh_Cf c w mc mc2 := h.2.2.1
theorem sh_Bk.mf {N : Nat} {K : Nat → Int32} {P V : Nat → Nat} {least d w0 p c w g : Nat} {mc mm mc2 mm2 : sh_X} {p2 c2 w2 g2 e ht : Nat} (h : sh_Bk N K P V least d w0 p c w g mc mm mc2 mm2 p2 c2 w2 g2 e ht) : sh_Mf g mm mm2 := h.2.2.2.1
theorem sh_Bk.lp {N : Nat} {K : Nat → Int32} {P V : Nat → Nat} {least d w0 p c w g : Nat} {mc mm mc2 mm2 : sh_X} {p2 c2 w2 g2 e ht : Nat} (h : sh_Bk N K P V least d w0 p c w g mc mm mc2 mm2 p2 c2 w2 g2 e ht) : p < p2 := h.2.2.2.2.1
theorem sh_Bk.lc {N : Nat} {K : Nat → Int32} {P V : Nat → Nat} {least d w0 p c w g : Nat} {mc mm mc2 mm2 : sh_X} {p2 c2 w2 g2 e ht : Nat} (h : sh_Bk N K P V least d w0 p c w g mc mm mc2 mm2 p2 c2 w2 g2 e ht) : 3 * (c2 + (w2 - w)) + 4 * p + 1 ≤ 3 * c + 4 * p2 := h.2.2.2.2.2.1
theorem sh_Bk.cc {N : Nat} {K : Nat → Int32} {P V : Nat → Nat} {least d w0 p c w g : Nat} {mc mm mc2 mm2 : sh_X} {p2 c2 w2 g2 e ht : Nat} (h : sh_Bk N K P V least d w0 p c w g mc mm mc2 mm2 p2 c2 w2 g2 e ht) : c ≤ c2 := h.2.2.2.2.2.2.1
theorem sh_Bk.lg {N : Nat} {K : Nat → Int32} {P V : Nat → Nat} {least d w0 p c w g : Nat} {mc mm mc2 mm2 : sh_X} {p2 c2 w2 g2 e ht : Nat} (h : sh_Bk N K P V least d w0 p c w g mc mm mc2 mm2 p2 c2 w2 g2 e ht) : g2 + p ≤ g + p2 := h.2.2.2.2.2.2.2.1
theorem sh_Bk.ww {N : Nat} {K : Nat → Int32} {P V : Nat → Nat} {least d w0 p c w g : Nat} {mc mm mc2 mm2 : sh_X} {p2 c2 w2 g2 e ht : Nat} (h : sh_Bk N K P V least d w0 p c w g mc mm mc2 mm2 p2 c2 w2 g2 e ht) : w ≤ w2 := h.2.2.2.2.2.2.2.2.1
theorem sh_Bk.wb {N : Nat} {K : Nat → Int32} {P V : Nat → Nat} {least d w0 p c w g : Nat} {mc mm mc2 mm2 : sh_X} {p2 c2 w2 g2 e ht : Nat} (h : sh_Bk N K P V least d w0 p c w g mc mm mc2 mm2 p2 c2 w2 g2 e ht) : w2 ≤ w0 + 10 := h.2.2.2.2.2.2.2.2.2.1
theorem sh_Bk.r {N : Nat} {K : Nat → Int32} {P V : Nat → Nat} {least d w0 p c w g : Nat} {mc mm mc2 mm2 : sh_X} {p2 c2 w2 g2 e ht : Nat} (h : sh_Bk N K P V least d w0 p c w g mc mm mc2 mm2 p2 c2 w2 g2 e ht) : sh_Pd N K V mm2.I mc2 ht g g2 d e c c2 w w2 p p2 := h.2.2.2.2.2.2.2.2.2.2.1
theorem sh_Bk.fi {N : Nat} {K : Nat → Int32} {P V : Nat → Nat} {least d w0 p c w g : Nat} {mc mm mc2 mm2 : sh_X} {p2 c2 w2 g2 e ht : Nat} (h : sh_Bk N K P V least d w0 p c w g mc mm mc2 mm2 p2 c2 w2 g2 e ht) : mm2.I 78 e = Int32.ofNat p := h.2.2.2.2.2.2.2.2.2.2.2.1
theorem sh_Bk.nx {N : Nat} {K : Nat → Int32} {P V : Nat → Nat} {least d w0 p c w g : Nat} {mc mm mc2 mm2 : sh_X} {p2 c2 w2 g2 e ht : Nat} (h : sh_Bk N K P V least d w0 p c w g mc mm mc2 mm2 p2 c2 w2 g2 e ht) : mm2.I 77 e = -1 := h.2.2.2.2.2.2.2.2.2.2.2.2.1
theorem sh_Bk.el {N : Nat} {K : Nat → Int32} {P V : Nat → Nat} {least d w0 p c w g : Nat} {mc mm mc2 mm2 : sh_X} {p2 c2 w2 g2 e ht : Nat} (h : sh_Bk N K P V least d w0 p c w g mc mm mc2 mm2 p2 c2 w2 g2 e ht) : g ≤ e ∧ e < g2 := h.2.2.2.2.2.2.2.2.2.2.2.2.2.1
theorem sh_Bk.uu {N : Nat} {K : Nat → Int32} {P V : Nat → Nat} {least d w0 p c w g : Nat} {mc mm mc2 mm2 : sh_X} {p2 c2 w2 g2 e ht : Nat} (h : sh_Bk N K P V least d w0 p c w g mc mm mc2 mm2 p2 c2 w2 g2 e ht) : ∀ y, w ≤ y → y < w2 → ∃ q, q ≤ N ∧ mc2.I 40 y = Int32.ofNat q ∧ least ≤ sp_lv (K q) ∧ sp_lv (K p2) ≤ sp_lv (K q) := h.2.2.2.2.2.2.2.2.2.2.2.2.2.2
theorem sh_Bk.mk {N : Nat} {K : Nat → Int32} {P V : Nat → Nat} {least d w0 p c w g : Nat} {mc mm mc2 mm2 : sh_X} {p2 c2 w2 g2 e ht : Nat} (pc : sp_Pc N K P V p2 c2 w2 mc2) (pm : sh_Pm N K P V p2 g2 mm2) (cf : sh_Cf c w mc mc2) (mf : sh_Mf g mm mm2) (lp : p < p2) (lc : 3 * (c2 + (w2 - w)) + 4 * p + 1 ≤ 3 * c + 4 * p2) (cc : c ≤ c2) (lg : g2 + p ≤ g + p2) (ww : w ≤ w2) (wb : w2 ≤ w0 + 10) (r : sh_Pd N K V mm2.I mc2 ht g g2 d e c c2 w w2 p p2) (fi : mm2.I 78 e = Int32.ofNat p) (nx : mm2.I 77 e = -1) (el : g ≤ e ∧ e < g2) (uu : ∀ y, w ≤ y → y < w2 → ∃ q, q ≤ N ∧ mc2.I 40 y = Int32.ofNat q ∧ least ≤ sp_lv (K q) ∧ sp_lv (K p2) ≤ sp_lv (K q)) : sh_Bk N K P V least d w0 p c w g mc mm mc2 mm2 p2 c2 w2 g2 e ht := ⟨pc, pm, cf, mf, lp, lc, cc, lg, ww, wb, r, fi, nx, el, uu⟩
section
variable {N : Nat} {K : Nat → Int32} {P V : Nat → Nat}
theorem sh_Ok.bk {least d w0 p c w g : Nat} {mc mm mc2 mm2 : sh_X} {p2 c2 g2 e ht : Nat} (h : sh_Ok N K P V d p c w g mc mm mc2 mm2 p2 c2 g2 e ht) (hw : w ≤ w0 + 10) : sh_Bk N K P V least d w0 p c w g mc mm mc2 mm2 p2 c2 w g2 e ht := by
  have re := sh_R_e h.r
  have lc := h.lc
  refine sh_Bk.mk h.pc h.pm h.cf h.mf h.lp (by omega) h.cc h.lg (Nat.le_refl _) hw ?_ h.fi h.nx ⟨re.1, re.2.1⟩ (fun y y1 y2 => absurd y2 (by omega))
  intro C' h1 h2
  rw [show c2 + (w - w) = c2 by omega]
  exact sh_R_mono ht ht g g2 g g2 d d e c c2 p p2 p p2 h.r (Nat.le_refl _) (Nat.le_refl _) (Nat.le_refl _) (Nat.le_refl _) (Nat.le_refl _) (Nat.le_refl _) h.pc.pN (fun _ _ _ => ⟨rfl, rfl, rfl, rfl⟩) (fun _ _ _ _ => ⟨rfl, rfl⟩) h1
theorem sh_wnone {σ ρ : Type} {f : σ → Option (σ ⊕ ρ)} {s : σ} (h : f s = none) : sh_while f s = none := by rw [sh_while_eq, h]
/-- the claim for the model's binary(least, d) -/
def sh_HB (N : Nat) (K : Nat → Int32) (P V : Nat → Nat) (Q : sh_Q44) (d w0 least : Nat) : Prop := ∀ v p c w g n mc mm, 16 * (41 - d) + 1 + (12 - least) ≤ v → sh_Pb N K P V p c w g mc mm → w0 ≤ w → w ≤ w0 + (least - 1) → n ≤ p → (w = w0 ∨ ∃ q, q ≤ N ∧ mc.I 40 (w - 1) = Int32.ofNat q ∧ sp_lv (K q) < least) →
  (∃ z mcf mmf, z ≤ N ∧ (sh_bt (Q.f59 (Int32.ofNat d) mc) (fun m => (none, m)) fun _ m => sf_58_12 Q (Int32.ofNat d) (Int32.ofNat w0) (Int32.ofNat n) m) = some (none, mcf) ∧ (sq_240 v).f269 (Int32.ofNat least) (Int32.ofNat d) mm = some (-1, mmf) ∧ sh_bdc P z mc mcf ∧ sh_bdm P z mm mmf) ∨
  (∃ mc2 mm2 p2 c2 w2 g2 e ht n2, (sh_bt (Q.f59 (Int32.ofNat d) mc) (fun m => (none, m)) fun _ m => sf_58_12 Q (Int32.ofNat d) (Int32.ofNat w0) (Int32.ofNat n) m) = sf_58_12 Q (Int32.ofNat d) (Int32.ofNat w0) (Int32.ofNat n2) mc2 ∧ (sq_240 v).f269 (Int32.ofNat least) (Int32.ofNat d) mm = some (Int32.ofNat e, mm2) ∧ sh_Bk N K P V least d w0 p c w g mc mm mc2 mm2 p2 c2 w2 g2 e ht ∧ sp_lv (K p2) < least ∧ n2 ≤ p2)
/-- the loop of binary -/
theorem sh_pbl {d w0 least u v p c w g : Nat} {mc mm : sh_X} (hT : sh_Txt N K P V) (hb : sh_Pb N K P V p c w g mc mm) (h1 : 1 ≤ least) (h11 : least ≤ 11) (hd : d ≤ 40) (hw0 : w0 ≤ 10 * d) (hww : w0 ≤ w) (hwl : w ≤ w0 + (least - 1)) (hv : 16 * (41 - d) + 1 + (11 - least) ≤ v) (hW : w = w0 ∨ ∃ q, q ≤ N ∧ mc.I 40 (w - 1) = Int32.ofNat q ∧ sp_lv (K q) < least)
    (hI : ∀ l, least < l → l ≤ 11 → sh_HB N K P V (sq_44 u) d w0 l) :
    ∀ (f : Nat) (mc1 mm1 : sh_X) (p1 c1 w1 g1 e ht n : Nat), N ≤ p1 + f → n ≤ p1 → sh_Bk N K P V least d w0 p c w g mc mm mc1 mm1 p1 c1 w1 g1 e ht →
    (∃ z mcf mmf, z ≤ N ∧ sf_58_12 (sq_44 u) (Int32.ofNat d) (Int32.ofNat w0) (Int32.ofNat n) mc1 = some (none, mcf) ∧ sf_269_6 (sq_240 v) (Int32.ofNat least) (Int32.ofNat d) (Int32.ofNat e) mm1 = some (-1, mmf) ∧ sh_bdc P z mc mcf ∧ sh_bdm P z mm mmf) ∨
    (∃ mc2 mm2 p2 c2 w2 g2 e2 ht2 n2, sf_58_12 (sq_44 u) (Int32.ofNat d) (Int32.ofNat w0) (Int32.ofNat n) mc1 = sf_58_12 (sq_44 u) (Int32.ofNat d) (Int32.ofNat w0) (Int32.ofNat n2) mc2 ∧ sf_269_6 (sq_240 v) (Int32.ofNat least) (Int32.ofNat d) (Int32.ofNat e) mm1 = some (Int32.ofNat e2, mm2) ∧ sh_Bk N K P V least d w0 p c w g mc mm mc2 mm2 p2 c2 w2 g2 e2 ht2 ∧ sp_lv (K p2) < least ∧ n2 ≤ p2) := by
  intro f
  induction f with
  | zero =>
    intro mc1 mm1 p1 c1 w1 g1 e ht n hf hn hB
    have n4 := hB.pc.N4
    have pN := hB.pc.pN
    obtain ⟨k1, k2, k3⟩ := sh_mok hB.pm
    have el := hB.el
    have lg := hB.lg
    have bg := hb.bg
    have hlv : sp_lv (K p1) < least := by
      rw [show p1 = N by omega, hT.KN]
      have : sp_lv 0 = 0 := by unfold sp_lv sf_69; decide
      omega
    right
    refine ⟨mc1, mm1, p1, c1, w1, g1, e, ht, n, rfl, ?_, hB, hlv, hn⟩
    unfold sf_269_6
    refine sh_wend ?_
    show sf_269_6s (sq_240 v) (Int32.ofNat least) (Int32.ofNat d) (Int32.ofNat e) mm1 = _
    unfold sf_269_6s
    rw [if_neg (sh_nn (by omega)), if_pos k1, k2, sh_lv_mm hB.pm, if_pos ((sh_nIlt (by omega) (by omega)).mpr hlv)]
  | succ f ih =>
    intro mc1 mm1 p1 c1 w1 g1 e ht n hf hn hB
    have n4 := hB.pc.N4
    have pN := hB.pc.pN
    obtain ⟨k1, k2, k3⟩ := sh_mok hB.pm
    have el := hB.el
    have lg := hB.lg
    have lc := hB.lc
    have lp := hB.lp
    have cc := hB.cc
    have wb := hB.wb
    have w1w := hB.ww
    have bg := hb.bg
    have bc := hb.bc
    have lv10 := (sh_lv_eq (K p1)).2
    by_cases hlv : sp_lv (K p1) < least
    · right
      refine ⟨mc1, mm1, p1, c1, w1, g1, e, ht, n, rfl, ?_, hB, hlv, hn⟩
      unfold sf_269_6
      refine sh_wend ?_
      show sf_269_6s (sq_240 v) (Int32.ofNat least) (Int32.ofNat d) (Int32.ofNat e) mm1 = _
      unfold sf_269_6s
      rw [if_neg (sh_nn (by omega)), if_pos k1, k2, sh_lv_mm hB.pm, if_pos ((sh_nIlt (by omega) (by omega)).mpr hlv)]
    · -- a sign that binds strongly enough
      have hp : p1 < N := hT.lt pN (by
        intro q
        rw [q] at hlv
        have : sp_lv 0 = 0 := by unfold sp_lv sf_69; decide
        omega)
      obtain ⟨s2, q1, q2, q3, q4, q5⟩ := sh_70 (p := p1) (w0 := w0) lv10 (w1 - w) c1 w mc1 (by rw [show w + (w1 - w) = w1 by omega]; exact hB.pc) hww (by omega) (by omega)
        (fun y y1 y2 => by
          obtain ⟨q, a1, a2, a3, a4⟩ := hB.uu y y1 (by omega)
          exact ⟨q, a1, a2, a4⟩)
        (by
          rcases hW with hW | ⟨q, a1, a2, a3⟩
          · exact Or.inl hW
          · by_cases hw00 : w = w0
            · exact Or.inl hw00
            · exact Or.inr ⟨q, a1, by rw [hB.cf.wt (w - 1) (by omega)]; exact a2, by omega⟩)
      rw [show w + (w1 - w) = w1 by omega] at q1
      have hs70 : sf_70 (Int32.ofNat w0) (Int32.ofNat (sp_lv (K p1))) mc1 = some ((), s2) := by
        unfold sf_70
        rw [hB.pc.ws]
        exact q1
      -- the expression stands in the code now
      have hR1 : sp_R N K V mm1.I s2.I ht g g1 d e c (c1 + (w1 - w)) p p1 := by
        refine hB.r s2.I (fun y y1 y2 => (q3 0).cd y y2) (fun k hk => ?_)
        have := q5 k hk
        rw [show w + (w1 - w) - 1 - k = w1 - 1 - k by omega] at this
        exact this
      -- the sign waits
      have hPs : sp_Pc N K P V (p1 + 1) (c1 + (w1 - w)) (w + 1) (s2.T, sh_u2 (sh_u2 (sh_u2 s2.I 40 w (s2.I 39 4)) 39 3 (s2.I 39 3 + 1)) 39 4 (s2.I 39 4 + 1), s2.J, s2.s) ∧ (∀ a, sh_Cf a w s2 (s2.T, sh_u2 (sh_u2 (sh_u2 s2.I 40 w (s2.I 39 4)) 39 3 (s2.I 39 3 + 1)) 39 4 (s2.I 39 4 + 1), s2.J, s2.s)) := by
        refine ⟨sp_Pc.mk (q2.wc.same ?_ ?_ ?_ rfl) ?_ (by omega) q2.N4 ?_ ?_ q2.tl, fun a => sh_Cf.mk rfl rfl rfl ?_ ?_ ?_ ?_⟩
        · simp [sh_X.I, sh_u2]
        · funext z; simp [sh_X.I, sh_u2]
        · funext z; simp [sh_X.I, sh_u2]
        · simp only [sh_X.I, sh_u2_same]
          rw [show s2.2.1 39 4 = _ from q2.at_, sh_nI1]
        · simp only [sh_X.I, sh_u2_cell (show (28 : Nat) ≠ 39 by omega), sh_u2_cell (show (28 : Nat) ≠ 40 by omega)]
          exact q2.am
        · simp only [sh_X.I, sh_u2_idx (show (3 : Nat) ≠ 4 by omega), sh_u2_same]
          rw [show s2.2.1 39 3 = _ from q2.ws, sh_nI1]
        · intro x _ _ _ _ x39 x40
          simp only [sh_X.I, sh_u2_cell x39, sh_u2_cell x40]
        · intro j _
          simp [sh_X.I, sh_u2]
        · intro y _
          simp [sh_X.I, sh_u2]
        · intro y hy
          simp [sh_X.I, sh_u2, show y ≠ w by omega]
      obtain ⟨hPs1, hPs2⟩ := hPs
      obtain ⟨s3, hs3⟩ : ∃ s3 : sh_X, s3 = (s2.T, sh_u2 (sh_u2 (sh_u2 s2.I 40 w (s2.I 39 4)) 39 3 (s2.I 39 3 + 1)) 39 4 (s2.I 39 4 + 1), s2.J, s2.s) := ⟨_, rfl⟩
      rw [← hs3] at hPs1 hPs2
      have hs3w : s3.I 40 w = Int32.ofNat p1 := by
        rw [hs3]
        simp [sh_X.I, sh_u2]
        exact q2.at_
      obtain ⟨mA, mF⟩ := sh_madv hB.pm hp
      have hb3 : sh_Pb N K P V (p1 + 1) (c1 + (w1 - w)) (w + 1) g1 s3 _ := sh_Pb.mk hPs1 mA (by omega) (by omega)
      have hin := hI (sp_lv (K p1) + 1) (by omega) (by omega) v (p1 + 1) (c1 + (w1 - w)) (w + 1) g1 (n + 1) s3 _ (by omega) hb3 (by omega) (by omega) (by omega) (Or.inr ⟨p1, by omega, by rw [show w + 1 - 1 = w by omega]; exact hs3w, by omega⟩)
      have stc : sf_58_12 (sq_44 u) (Int32.ofNat d) (Int32.ofNat w0) (Int32.ofNat n) mc1 = sh_bt ((sq_44 u).f59 (Int32.ofNat d) s3) (fun m => (none, m)) fun _ m => sf_58_12 (sq_44 u) (Int32.ofNat d) (Int32.ofNat w0) (Int32.ofNat (n + 1)) m := by
        have hst : sf_58_12s (sq_44 u) (Int32.ofNat d) (Int32.ofNat w0) (Int32.ofNat n) mc1 = sh_bt ((sq_44 u).f59 (Int32.ofNat d) s3) (fun m => .inr ((none, m))) fun _ m11 => some (.inl (Int32.ofNat (n + 1), m11)) := by
          unfold sf_58_12s
          rw [if_pos (sh_k4 (by omega)), sh_45 hB.pc, sh_bc_some, (sh_lv_eq (K p1)).1, if_pos (sh_pos0 (by omega) (by omega)), sh_bc_some, (sh_lv_eq (K p1)).1, hs70, sh_bn_some, if_pos (by rw [q2.ws]; exact (sh_nIlt (b := 512) (by omega) (by omega)).mpr (by omega))]
          unfold sf_58_55
          rw [if_pos (by rw [q2.ws]; exact (sh_okn (by omega)).mpr (by omega)), show Int32.toNatClampNeg (s2.I 39 3) = w by rw [q2.ws]; exact sh_nIc (by omega), ← hs3, sh_nI1]
        rcases hq : (sq_44 u).f59 (Int32.ofNat d) s3 with _ | ⟨_ | r, m⟩
        · unfold sf_58_12
          refine sh_wnone ?_
          show sf_58_12s (sq_44 u) (Int32.ofNat d) (Int32.ofNat w0) (Int32.ofNat n) mc1 = _
          rw [hst, hq]
          rfl
        · unfold sf_58_12
          refine sh_wend ?_
          show sf_58_12s (sq_44 u) (Int32.ofNat d) (Int32.ofNat w0) (Int32.ofNat n) mc1 = _
          rw [hst, hq]
          rfl
        · unfold sf_58_12
          refine sh_wstep ?_
          show sf_58_12s (sq_44 u) (Int32.ofNat d) (Int32.ofNat w0) (Int32.ofNat n) mc1 = _
          rw [hst, hq]
          rfl
      have stm : sf_269_6s (sq_240 v) (Int32.ofNat least) (Int32.ofNat d) (Int32.ofNat e) mm1 = sh_bn ((sq_240 v).f269 (Int32.ofNat (sp_lv (K p1) + 1)) (Int32.ofNat d) (mm1.T, sh_u2 mm1.I 66 21 (mm1.I 66 21 + 1), mm1.J, mm1.s)) fun r3 m13 =>
          if r3 < 0 then
            some (.inr (((-1), m13)))
          else
            sh_bn (sf_266 10 (mm1.I 66 21) (Int32.ofNat e) r3 m13) fun r4 m14 =>
            if sh_okb (Int32.ofNat e) 9000 = true then
              if sh_okb r4 9000 = true then
                some (.inl (r4, ⟨m14.T, sh_u2 m14.I 78 (Int32.toNatClampNeg r4) (m14.I 78 (Int32.toNatClampNeg (Int32.ofNat e))), m14.J, m14.s⟩))
              else none
            else none := by
        unfold sf_269_6s
        rw [if_neg (sh_nn (by omega)), if_pos k1, k2, sh_lv_mm hB.pm, if_neg (fun r => hlv ((sh_nIlt (by omega) (by omega)).mp r)), if_pos k1, sh_nI1]
      have cFs : sh_Cf c w mc s3 := hB.cf.trans ((q3 w).trans (hPs2 c1) (Nat.le_refl _) (Nat.le_refl _)) cc (Nat.le_refl _)
      rcases hin with ⟨z, mcf, mmf, z1, z2, z3, z4, z5⟩ | ⟨mc2, mm2, p2, c2, w2, g2, e2, ht2, n2, z1, z2, hB2, z4, z5⟩
      · left
        refine ⟨z, mcf, mmf, z1, by rw [stc]; exact z2, ?_, z4.of cFs, (z5.of (mF 0)).of hB.mf⟩
        unfold sf_269_6
        refine sh_wend ?_
        show sf_269_6s (sq_240 v) (Int32.ofNat least) (Int32.ofNat d) (Int32.ofNat e) mm1 = _
        rw [stm, z3, sh_bn_some, if_pos (by decide)]
      · have el2 := hB2.el
        have lg2 := hB2.lg
        have lc2 := hB2.lc
        have lp2 := hB2.lp
        have cc2 := hB2.cc
        have wb2 := hB2.wb
        have ww2 := hB2.ww
        have p2N := hB2.pc.pN
        obtain ⟨n5, e1, e2', e3, e4, e5, e6, e7, e8, e9, e10⟩ := sh_266 (k := 10) (t := mm1.I 66 21) (a := Int32.ofNat e) (b := Int32.ofNat e2) hB2.pm (by omega)
        obtain ⟨t1, t2⟩ := sh_pset (e := g2) (x := 78) (v := n5.I 78 e) e2' (by omega)
        have mold : ∀ y, y < g2 → ∀ x, 72 ≤ x → x ≤ 78 → sh_u2 n5.I 78 g2 (n5.I 78 e) x y = mm2.I x y := by
          intro y y1 x h1 h2
          have q : n5.I x y = mm2.I x y := e3.pt y y1 x h1 h2
          by_cases hx : x = 78
          · subst hx; rw [sh_u2_idx (by omega)]; exact q
          · rw [sh_u2_cell hx]; exact q
        have mold0 : ∀ y, y < g1 → ∀ x, 72 ≤ x → x ≤ 78 → sh_u2 n5.I 78 g2 (n5.I 78 e) x y = mm1.I x y := by
          intro y y1 x h1 h2
          rw [mold y (by omega) x h1 h2, hB2.mf.pt y y1 x h1 h2, (mF g1).pt y y1 x h1 h2]
        have mnew : ∀ x, 72 ≤ x → x ≤ 78 → x ≠ 78 → sh_u2 n5.I 78 g2 (n5.I 78 e) x g2 = n5.I x g2 := by
          intro x h1 h2 h3
          rw [sh_u2_cell h3]
        have h40w : mc2.I 40 w = Int32.ofNat p1 := (hB2.cf.wt w (by omega)).trans hs3w
        have hBn : sh_Bk N K P V least d w0 p c w g mc mm mc2 (n5.T, sh_u2 n5.I 78 g2 (n5.I 78 e), n5.J, n5.s) p2 c2 w2 (g2 + 1) g2 (ht + ht2 + 1) := by
          refine sh_Bk.mk hB2.pc t1 (cFs.trans (hB2.cf.less (Nat.le_refl _) (show w ≤ w + 1 by omega)) (by omega) (Nat.le_refl _)) ?_ (by omega) (by omega) (by omega) (by omega) (by omega) wb2 ?_ ?_ ?_ ⟨by omega, by omega⟩ ?_
          · exact hB.mf.trans (((mF g).trans (hB2.mf.less (show g ≤ g1 by omega)) (Nat.le_refl _)).trans ((e3.less (show g ≤ g2 by omega)).trans t2 (by omega)) (Nat.le_refl _)) (Nat.le_refl _)
          · intro C' h1 h2
            have ra := sh_R_e hR1
            have hsg := h2 (w2 - w - 1) (by omega)
            rw [show w2 - 1 - (w2 - w - 1) = w by omega, h40w] at hsg
            unfold sp_R
            refine ⟨⟨by omega, by omega, hd, by omega, p2N⟩, p1, ?_, by omega, by omega, Or.inr (Or.inr (Or.inl ⟨e, e2, g, g1, g1, g2, c1 + (w1 - w), ⟨by omega, by omega, by omega, by omega, by omega, by omega⟩, ?_, ?_, ?_, ?_, ?_, ?_, ?_, ?_⟩))⟩
            · exact ((mnew 73 (by omega) (by omega) (by omega)).trans e5).trans hB.pm.at_
            · exact (mnew 74 (by omega) (by omega) (by omega)).trans e6
            · exact (mnew 75 (by omega) (by omega) (by omega)).trans e7
            · exact (mnew 72 (by omega) (by omega) (by omega)).trans e4
            · rw [(sh_lv_eq (K p1)).1]; exact sh_pos0 (by omega) (by omega)
            · rw [show c2 + (w2 - w) - 1 = c2 + (w2 - w - 1) by omega]; exact hsg.1
            · rw [show c2 + (w2 - w) - 1 = c2 + (w2 - w - 1) by omega]; exact hsg.2
            · refine sh_R_mono ht (ht + ht2) g g1 g g1 d d e c (c1 + (w1 - w)) p p1 p p1 hR1 (by omega) (Nat.le_refl _) (Nat.le_refl _) (Nat.le_refl _) (Nat.le_refl _) (Nat.le_refl _) (by omega) ?_ ?_ ?_
              · intro x x1 x2
                exact ⟨mold0 x x2 72 (by omega) (by omega), mold0 x x2 73 (by omega) (by omega), mold0 x x2 74 (by omega) (by omega), mold0 x x2 75 (by omega) (by omega)⟩
              · intro x x1 x2 x3
                exact ⟨mold0 x x2 77 (by omega) (by omega), mold0 x x2 78 (by omega) (by omega)⟩
              · intro y y1 y2
                have a1 := h1 y y1 (by omega)
                have a2 := hB2.cf.cd y (by omega)
                have a3 := (hPs2 (c1 + (w1 - w))).cd y (by omega)
                exact ⟨a1.1.trans (a2.1.trans a3.1), a1.2.1.trans (a2.2.1.trans a3.2.1), a1.2.2.trans (a2.2.2.trans a3.2.2)⟩
            · rw [show c2 + (w2 - w) - 1 = c2 + (w2 - (w + 1)) by omega]
              have hr2 := hB2.r C' (fun y y1 y2 => h1 y (by omega) y2) (fun k hk => h2 k (by omega))
              refine sh_R_mono ht2 (ht + ht2) g1 g2 g1 g2 d d e2 (c1 + (w1 - w)) (c2 + (w2 - (w + 1))) (p1 + 1) p2 (p1 + 1) p2 hr2 (by omega) (Nat.le_refl _) (Nat.le_refl _) (Nat.le_refl _) (Nat.le_refl _) (Nat.le_refl _) p2N ?_ ?_ (fun _ _ _ => ⟨rfl, rfl, rfl⟩)
              · intro x x1 x2
                exact ⟨mold x x2 72 (by omega) (by omega), mold x x2 73 (by omega) (by omega), mold x x2 74 (by omega) (by omega), mold x x2 75 (by omega) (by omega)⟩
              · intro x x1 x2 x3
                exact ⟨mold x x2 77 (by omega) (by omega), mold x x2 78 (by omega) (by omega)⟩
          · show sh_u2 n5.I 78 g2 (n5.I 78 e) 78 g2 = _
            rw [sh_u2_same]
            have q := mold0 e el.2 78 (by omega) (by omega)
            rw [sh_u2_idx (by omega)] at q
            rw [q]
            exact hB.fi
          · exact (mnew 77 (by omega) (by omega) (by omega)).trans e9
          · intro y y1 y2
            by_cases hy : y = w
            · subst hy
              exact ⟨p1, by omega, h40w, by omega, by omega⟩
            · obtain ⟨q, a1, a2, a3, a4⟩ := hB2.uu y (by omega) y2
              exact ⟨q, a1, a2, by omega, by omega⟩
        have stm2 : sf_269_6 (sq_240 v) (Int32.ofNat least) (Int32.ofNat d) (Int32.ofNat e) mm1 = sf_269_6 (sq_240 v) (Int32.ofNat least) (Int32.ofNat d) (Int32.ofNat g2) (n5.T, sh_u2 n5.I 78 g2 (n5.I 78 e), n5.J, n5.s) := by
          unfold sf_269_6
          refine sh_wstep ?_
          show sf_269_6s (sq_240 v) (Int32.ofNat least) (Int32.ofNat d) (Int32.ofNat e) mm1 = _
          rw [stm, z2, sh_bn_some, if_neg (sh_nn (by omega)), e1, sh_bn_some, if_pos ((sh_okn (by omega)).mpr (by omega)), if_pos ((sh_okn (by omega)).mpr (by omega)), sh_nIc (by omega), sh_nIc (by omega)]
        rw [stc, z1, stm2]
        exact ih mc2 _ p2 c2 w2 (g2 + 1) g2 (ht + ht2 + 1) n2 (by omega) z5 hBn
end
