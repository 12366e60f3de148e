/-! EVALUATION: every statement -/
section
variable {N : Nat} {K : Nat → Int32} {P V : Nat → Nat} {A C : Nat → Nat → Int32} {p : Nat → Bool} {pf : Nat → Nat} {F c2 kn : Nat}
theorem sh_Sl_pq {S : Nat → Nat → Nat → Nat → Nat → Nat → Nat → Nat → Prop} {lo hi d i j p0 q0 : Nat} {x : Int32} (H : sh_Sl A S lo hi d x i j p0 q0) : p0 ≤ q0 ∧ i ≤ j := by
  obtain ⟨n, r, b, s, a, h1, h2, h3, h4, h5, h6, h7, h8, h9⟩ := H
  have up := sh_Sl_up h9 n (Nat.le_refl _)
  omega
theorem se_LBof {S : Nat → Nat → Nat → Nat → Nat → Nat → Nat → Nat → Prop} {lo hi d i j p0 q0 : Nat} {x : Int32} (hT : sh_Txt N K P V) (ih : ∀ lo hi d e i j p0 q0, S lo hi d e i j p0 q0 → hi ≤ 9000 → j ≤ c2 → se_SK N K P V A C p pf F c2 kn e i j d (P q0 - P p0)) (h40 : ∀ lo hi d e i j p0 q0, S lo hi d e i j p0 q0 → d ≤ 40) (H : sh_Sl A S lo hi d x i j p0 q0) (h9000 : hi ≤ 9000) (hj : j ≤ c2) (hq : q0 ≤ N) : se_LB N K P V A C p pf F c2 kn x i j d (P q0 - P p0) := by
  obtain ⟨n, r, b, s, a, h1, h2, h3, h4, h5, h6, h7, h8, h9⟩ := H
  have up := sh_Sl_up h9
  have upn := up n (Nat.le_refl _)
  refine ⟨n, r, b, s, fun k hk => ?_, ?_, h3, h4, fun h0 => ?_, ?_⟩
  · obtain ⟨g1, g2, g3, g4, g5, g6⟩ := h9 k hk
    have u1 := up k (by omega)
    have u2 := up (k + 1) (by omega)
    have m := hT.mono (show s k ≤ s (k + 1) by omega) (by omega)
    exact ⟨by omega, g5, by omega, ih _ _ _ _ _ _ _ _ g6 (by omega) (by omega)⟩
  · by_cases h0 : 0 < n
    · rw [if_pos h0]; exact h2 h0
    · rw [if_neg h0]; exact h1 (by omega)
  · exact h40 _ _ _ _ _ _ _ _ (h9 0 h0).2.2.2.2.2
  · have m1 := hT.mono (show p0 ≤ s 0 by omega) (by omega)
    have m2 := hT.mono (show s n ≤ q0 by omega) hq
    have m3 := hT.mono (show s 0 ≤ s n by omega) (by omega)
    omega
theorem se_stmt (hT : sh_Txt N K P V) (hH : sh_Hds N K V A C F) (hF : F < 256) (hC : C 28 12 = Int32.ofNat F) (hPm : ∀ f, f < kn → P (pf (f + 1)) ≤ P (pf kn)) (hFz : ∀ f, f < kn → se_Fz N K P V A C p pf F c2 f) :
    ∀ (h lo hi d e i j p0 q0 : Nat), sp_S N K V A C h lo hi d e i j p0 q0 → hi ≤ 9000 → j ≤ c2 → se_SK N K P V A C p pf F c2 kn e i j d (P q0 - P p0) := by
  intro h
  induction h with
  | zero => intro lo hi d e i j p0 q0 H _ _; exact absurd H (by simp [sp_S])
  | succ h ih =>
    intro lo hi d e i j p0 q0 H hhi hj
    unfold sp_S at H
    obtain ⟨⟨e1, e2, d40, ij, qN, pq⟩, h73, c0, w0, cs⟩ := H
    have ex := se_expr (p := p) (pf := pf) hT hH hF hC hPm hFz
    have mo := fun (a b : Nat) (h1 : a ≤ b) (h2 : b ≤ q0) => hT.mono h1 (show b ≤ N by omega)
    have m0 := mo p0 q0 (by omega) (by omega)
    have LBo := fun lo hi d x i j a b (H : sh_Sl A (sp_S N K V A C h) lo hi d x i j a b) (h9 : hi ≤ 9000) (hj : j ≤ c2) (hb : b ≤ N) => se_LBof (p := p) (pf := pf) (F := F) (c2 := c2) (kn := kn) hT ih (fun _ _ _ _ _ _ _ _ H => (sh_S_e H).2.2.1) H h9 hj hb
    intro un n bb sg dq gs u z q B M fr cl sp cw ifs cd inn tp li ac mc mm hPs
    rcases cs with ⟨h72, h75, k1, ca, wa, a, ht, h74, hR⟩ | ⟨h72, ca, wa, cb, wb, a, ht, h74, hR⟩ | ⟨h72, h75, k1, ca, wa, cb, wb, a, ht, h74, xb, h78, hR⟩ | ⟨h72, h76, k1, ca, wa, cb, wb, xb, cc, wc, a, b, ht, ht2, k, l, t, h74, h75, l1, l2, l3, l4, l5, l6, cd', wd, h78b, xc, h78, hR2, hR⟩ | ⟨h72, c9, a, ht, k, l, l2, f, g, t, t2, h74, h78, l1, l3, l4, l5, l6, l7, l8, l9, l10, ca, wa, hR, hS, hE⟩ | ⟨h72, h75, k1, h76, k3, k5, l1, ca, wa, xa, cb, wb, xb, l2, hS⟩
    · have re := sh_R_e hR
      have rp := se_Rpq hR
      have m1 := mo p0 (p0 + 3) (by omega) (by omega)
      have m2 := mo (p0 + 3) (q0 - 1) (by omega) (by omega)
      have m3 := mo (q0 - 1) q0 (by omega) (by omega)
      exact se_let (ex ht (e + 1) hi d a (i + 1) (j - 1) (p0 + 3) (q0 - 1) hR hhi (by omega)) hPs (by omega) hj (by omega) (by omega) h72 h73 h74 h75 k1 (by omega) (by omega) c0 w0 ca wa
    · have re := sh_R_e hR
      have rp := se_Rpq hR
      have m1 := mo p0 (p0 + 1) (by omega) (by omega)
      have m2 := mo (p0 + 1) (q0 - 1) (by omega) (by omega)
      have m3 := mo (q0 - 1) q0 (by omega) (by omega)
      exact se_out (ex ht (e + 1) hi d a (i + 2) (j - 1) (p0 + 1) (q0 - 1) hR hhi (by omega)) hPs hC hF (by omega) hj (by omega) (by omega) h72 h73 h74 (by omega) (by omega) c0 w0 ca wa cb wb
    · have re := sh_R_e hR
      have rp := se_Rpq hR
      have m1 := mo p0 (p0 + 2) (by omega) (by omega)
      have m2 := mo (p0 + 2) (q0 - 1) (by omega) (by omega)
      have m3 := mo (q0 - 1) q0 (by omega) (by omega)
      exact se_asg (ex ht (e + 1) hi d a (i + 2) (j - 1) (p0 + 2) (q0 - 1) hR hhi (by omega)) hPs (by omega) hj (by omega) (by omega) h72 h73 h74 h75 h78 k1 (by omega) (by omega) c0 w0 ca wa cb wb xb
    · have re := sh_R_e hR
      have re2 := sh_R_e hR2
      have rp := se_Rpq hR
      have rp2 := se_Rpq hR2
      have m1 := mo p0 (p0 + 2) (by omega) (by omega)
      have m2 := mo (p0 + 2) t (by omega) (by omega)
      have m3 := mo t (t + 2) (by omega) (by omega)
      have m4 := mo (t + 2) (q0 - 1) (by omega) (by omega)
      have m5 := mo (q0 - 1) q0 (by omega) (by omega)
      exact se_asi (ex ht2 (e + 1) l (d + 1) b (i + 3) k (p0 + 2) t hR2 (by omega) (by omega)) (ex ht l hi d a (k + 1) (j - 1) (t + 2) (q0 - 1) hR hhi (by omega)) hPs (by omega) (by omega) hj (by omega) (by omega) (by omega) (by omega) h72 h73 h74 h75 h76 h78b h78 k1 (by omega) (by omega) (by omega) (by omega) c0 w0 ca wa cb wb xb cd' wd cc wc xc
    · have re := sh_R_e hR
      have rp := se_Rpq hR
      have sp' := sh_Sl_pq hS
      have m1 := mo p0 (p0 + 1) (by omega) (by omega)
      have m2 := mo (p0 + 1) t (by omega) (by omega)
      have m3 := mo t (t + 1) (by omega) (by omega)
      have m4 := mo (t + 1) t2 (by omega) (by omega)
      have m5 := mo t2 (t2 + 1) (by omega) (by omega)
      have m6 := mo (t2 + 1) q0 (by omega) (by omega)
      refine se_if (lenT := P t2 - P (t + 1)) (lenE := P q0 - P (t2 + 1)) (k := k) (l := l) (ex ht (e + 1) f d a (i + 1) k (p0 + 1) t hR (by omega) (by omega)) (LBo _ _ _ _ _ _ _ _ hS (by omega) (by omega) (by omega)) ?_ hPs l1 l3 l4 ij hj (by omega) (by omega) h72 h73 h74 h78 (by omega) (by omega) (by omega) c0 w0 ca wa c9
      rcases hE with ⟨x1, x2⟩ | ⟨x1, x2, x3, x4⟩
      · exact Or.inl ⟨x1, x2⟩
      · exact Or.inr ⟨x2, x3, LBo _ _ _ _ _ _ _ _ x4 (by omega) (by omega) (by omega)⟩
    · have sp' := sh_Sl_pq hS
      have m1 := mo p0 (p0 + 7) (by omega) (by omega)
      have m2 := mo (p0 + 7) q0 (by omega) (by omega)
      exact se_for (lenB := P q0 - P (p0 + 7)) (LBo _ _ _ _ _ _ _ _ hS hhi (by omega) (by omega)) hPs l2 hj (by omega) h72 h73 h75 h76 k1 k3 k5 (by omega) (by omega) c0 w0 ca wa xa cb wb xb
end
