/-! EVALUATION: every expression -/
theorem se_69 {k : Int32} (h : 0 < sf_69 k) : sh_sg k ∨ (k = 15420 ∨ k = 15934) := by
  unfold sf_69 at h
  unfold sh_sg
  by_cases a1 : k = 37 ∨ k = 42 ∨ k = 47
  · rcases a1 with a | a | a <;> simp [a]
  · rw [if_neg a1] at h
    by_cases a2 : k = 38
    · simp [a2]
    · rw [if_neg a2] at h
      by_cases a3 : k = 43 ∨ k = 45
      · rcases a3 with a | a <;> simp [a]
      · rw [if_neg a3] at h
        by_cases a4 : k = 60 ∨ k = 62 ∨ k = 15421 ∨ k = 15933
        · rcases a4 with a | a | a | a <;> simp [a]
        · rw [if_neg a4] at h
          by_cases a5 : k = 94
          · simp [a5]
          · rw [if_neg a5] at h
            by_cases a6 : k = 124
            · simp [a6]
            · rw [if_neg a6] at h
              by_cases a7 : k = 8509 ∨ k = 15677
              · rcases a7 with a | a <;> simp [a]
              · rw [if_neg a7] at h
                by_cases a8 : k = 9766
                · simp [a8]
                · rw [if_neg a8] at h
                  by_cases a9 : k = 15420 ∨ k = 15934
                  · exact Or.inr a9
                  · rw [if_neg a9] at h
                    by_cases a10 : k = 31868
                    · simp [a10]
                    · rw [if_neg a10] at h
                      exact absurd h (by decide)
theorem se_mono {f : Nat → Nat} {n : Nat} (h : ∀ k, k < n → f k ≤ f (k + 1)) : ∀ k, k ≤ n → f 0 ≤ f k ∧ f k ≤ f n := by
  have a : ∀ k, k ≤ n → f 0 ≤ f k := by
    intro k
    induction k with
    | zero => intro _; exact Nat.le_refl _
    | succ k ih => intro hk; have := ih (by omega); have := h k (by omega); omega
  have b : ∀ d k, k + d = n → f k ≤ f n := by
    intro d
    induction d with
    | zero => intro k hk; rw [show k = n by omega]; exact Nat.le_refl _
    | succ d ih => intro k hk; have := ih (k + 1) (by omega); have := h k (by omega); omega
  exact fun k hk => ⟨a k hk, b (n - k) k (by omega)⟩
theorem se_Rpq {N : Nat} {K : Nat → Int32} {V : Nat → Nat} {A C : Nat → Nat → Int32} {h lo hi d e i j p q : Nat} (H : sp_R N K V A C h lo hi d e i j p q) : p < q := by
  cases h with
  | zero => exact absurd H (by simp [sp_R])
  | succ h =>
    unfold sp_R at H
    obtain ⟨_, t, _, h1, h2, _⟩ := H
    omega
section
variable {N : Nat} {K : Nat → Int32} {P V : Nat → Nat} {A C : Nat → Nat → Int32} {p : Nat → Bool} {pf : Nat → Nat} {F c2 kn : Nat}
theorem se_expr (hT : sh_Txt N K P V) (hH : sh_Hds N K V A C F) (hF : F < 256) (hC : C 28 12 = Int32.ofNat F) (hPm : ∀ f, f < kn → P (pf (f + 1)) ≤ P (pf kn)) (hFz : ∀ f, f < kn → se_Fz N K P V A C p pf F c2 f) :
    ∀ (ht lo hi d e i j p0 q0 : Nat), sp_R N K V A C ht lo hi d e i j p0 q0 → hi ≤ 9000 → j ≤ c2 → se_OK N K P V A C p pf F c2 kn e i j d (P q0 - P p0) := by
  have N4 := hT.N4
  intro ht
  induction ht with
  | zero => intro lo hi d e i j p0 q0 h _ _; exact absurd h (by unfold sp_R; exact fun w => w)
  | succ ht ih =>
    intro lo hi d e i j p0 q0 hR hhi hj
    have hR' := hR
    unfold sp_R at hR
    obtain ⟨⟨e1, e2, d40, ij, qN⟩, t, h73, pt, tq, cs⟩ := hR
    have mo := fun (a b : Nat) (h1 : a ≤ b) (h2 : b ≤ q0) => hT.mono h1 (show b ≤ N by omega)
    have m1 := mo p0 t pt (by omega)
    have m2 := mo t (t + 1) (by omega) (by omega)
    have m3 := mo (t + 1) q0 (by omega) (Nat.le_refl _)
    intro fm un n bb sg dq gs u z q B M fr cl sp cw ifs cd inn tp li ac mc mm h
    rcases cs with ⟨j1, c37, cs⟩ | ⟨a, l, uu, lim, h74, cs, sub⟩ | ⟨a, b0, l, uu, l2, u2, k, lim, h74, h75, h72, sgn, c36, c37, sub1, sub2⟩ | ⟨a, b0, l, uu, l2, u2, k, lim, h74, h75, h72, c28, w28, c29, w29, h78, c30, w30, ik, kj, sub1, sub2⟩ | ⟨n', r, b, s, l, uu, n1, h72, h74, b0, bn, c27, w27, x27, s0, sn, sub⟩ | ⟨n', r, b, s, l, uu, dc, h72, k1, dd, dc4, h75, h740, h74, c14, w14, x14, c15, w15, x15, b0, bn, c17, x17, s0, sn, ij2, sub⟩
    · -- a leaf
      subst j1
      rcases cs with ⟨h72, c36, kt⟩ | ⟨h72, c36, c38⟩ | ⟨h72, c36, c38⟩ | ⟨h72, c36, kt⟩
      · exact se_num h (by omega) h73 (by omega) kt h72 c36 c37
      · exact se_tru (b := true) h (by omega) h73 (by omega) h72 c36 c38
      · exact se_tru (b := false) h (by omega) h73 (by omega) h72 c36 c38
      · exact se_nam h (by omega) h73 (by omega) kt h72 c36 c37 (by omega)
    · -- one part
      have ok := ih l uu (d + 1) a i (j - 1) (t + 1) q0 sub (by omega) (by omega)
      have se := sh_R_e sub
      rcases cs with ⟨h72, kt, c36, c37⟩ | ⟨h72, kt, h75, c36, c37, c38, tq2⟩
      · rcases kt with kt | kt | kt
        · exact se_neg ok h h72 h73 (by omega) h74 (by omega) (by omega) (by omega) (by omega) hj kt (by rw [c36, kt]; decide) c37
        · exact se_flip ok h h72 h73 (by omega) h74 (by omega) (by omega) (by omega) (by omega) hj (Or.inl ⟨kt, by rw [c36, kt]; decide⟩) c37
        · exact se_flip ok h h72 h73 (by omega) h74 (by omega) (by omega) (by omega) (by omega) hj (Or.inr ⟨kt, by rw [c36, kt]; decide⟩) c37
      · exact se_conv ok h h72 h73 (by omega) kt h74 h75 (by omega) (by omega) (by omega) (by omega) hj c36 c37 c38
    · -- a sign between two
      have ra := sh_R_e sub1
      have rb := sh_R_e sub2
      have ok1 := ih l uu d a i k p0 t sub1 (by omega) (by omega)
      have ok2 := ih l2 u2 d b0 k (j - 1) (t + 1) q0 sub2 (by omega) (by omega)
      have m4 := mo p0 t pt (by omega)
      have p0t := se_Rpq sub1
      exact se_bin ok1 ok2 h h72 h73 (by omega) h74 (by omega) h75 (by omega) (by omega) (by omega) (by omega) hj (se_69 sgn) c36 c37
    · -- an element
      have ra := sh_R_e sub1
      have rb := sh_R_e sub2
      have ok1 := ih l uu d a i k p0 t sub1 (by omega) (by omega)
      have ok2 := ih l2 u2 (d + 1) b0 (k + 1) (j - 2) (t + 1) (q0 - 1) sub2 (by omega) (by omega)
      have pq1 := se_Rpq sub1
      have pq2 := se_Rpq sub2
      have m5 := mo (t + 1) (q0 - 1) (by omega) (by omega)
      have m6 := mo (q0 - 1) q0 (by omega) (Nat.le_refl _)
      exact se_idx ok1 ok2 h h72 h73 (by omega) h74 (by omega) h75 (by omega) h78 (by omega) (by omega) (by omega) (by omega) hj c28 w28 c29 (w29.trans h78) c30 w30
    · -- a row
      have bm := se_mono (f := b) (n := n') (fun k hk => (sub k hk).2.2.1)
      have sm := se_mono (f := s) (n := n') (fun k hk => by have := (sub k hk).2.1; omega)
      have rs := fun k (hk : k < n') => sh_R_e (sub k hk).2.2.2.2
      have rq := fun k (hk : k < n') => se_Rpq (sub k hk).2.2.2.2
      have okk : ∀ k, k < n' → se_OK N K P V A C p pf F c2 kn (r k) (b k) (b (k + 1)) (d + 1) (P (s (k + 1) - 1) - P (s k)) := fun k hk => ih (l k) (uu k) (d + 1) (r k) (b k) (b (k + 1)) (s k) (s (k + 1) - 1) (sub k hk).2.2.2.2 (by have := (sub k hk).1; omega) (by have := bm (k + 1) (by omega); omega)
      refine se_row (σ := fun k => P (s k) - P (s 0)) (lk := fun k => P (s (k + 1) - 1) - P (s k)) h n1 h72 h73 (by omega) h74 (by have := rs 0 (by omega); omega) (fun k hk => ?_) ?_ (fun k hk => ⟨by have := rs k hk; have := (sub k hk).1; omega, (sub k hk).2.2.2.1⟩) okk b0 bn (by omega) hj c27 w27 x27
      · have s1 := (sub k hk).2.1
        have s2 := sm k (by omega)
        have s3 := sm (k + 1) (by omega)
        have q0' := rq k hk
        have q1 := rs k hk
        have q2 := mo (s k) (s (k + 1) - 1) (by omega) (by omega)
        have q3 := mo (s (k + 1) - 1) (s (k + 1)) (by omega) (by omega)
        have q4 := mo (s 0) (s k) s2.1 (by omega)
        show P (s k) - P (s 0) + (P (s (k + 1) - 1) - P (s k)) + 1 ≤ P (s (k + 1)) - P (s 0) ∧ 1 ≤ P (s (k + 1) - 1) - P (s k)
        omega
      · have q1 := mo (s n') q0 sn (Nat.le_refl _)
        have q2 := mo (s 0) (s n') (sm 0 (by omega)).2 (by omega)
        show P (s n') - P (s 0) + 1 ≤ P q0 - P p0
        rw [s0] at q2 ⊢
        omega
    · -- a call
      have bm := se_mono (f := b) (n := n') (fun k hk => by have := (sub k hk).2.2.1; omega)
      have sm := se_mono (f := s) (n := n') (fun k hk => by have := (sub k hk).2.1; omega)
      have rs := fun k (hk : k < n') => sh_R_e (sub k hk).2.2.2.2.2.2.2.2
      have rq := fun k (hk : k < n') => se_Rpq (sub k hk).2.2.2.2.2.2.2.2
      have okk : ∀ k, k < n' → se_OK N K P V A C p pf F c2 kn (r k) (b k) (b (k + 1) - 1) (d + 1) (P (s (k + 1) - 1) - P (s k)) := fun k hk => ih (l k) (uu k) (d + 1) (r k) (b k) (b (k + 1) - 1) (s k) (s (k + 1) - 1) (sub k hk).2.2.2.2.2.2.2.2 (by have := (sub k hk).1; omega) (by have := bm (k + 1) (by omega); omega)
      have n4 : n' ≤ 4000 := by
        have : ∀ k, k ≤ n' → s 0 + k ≤ s k := by
          intro k
          induction k with
          | zero => intro _; omega
          | succ k ih => intro hk; have := ih (by omega); have := (sub k (by omega)).2.1; omega
        have := this n' (Nat.le_refl _)
        omega
      obtain ⟨g, rfl⟩ : ∃ g, dq = g + 3 := ⟨dq - 3, by have := h.bd.dq_; have := h.bd.cd2; have := h.bd.d40; have := h.bd.kF; omega⟩
      have h74' : A 74 e = if 0 < n' then Int32.ofNat (r 0) else -1 := by
        by_cases hn : 0 < n'
        · rw [if_pos hn]; exact h74 hn
        · rw [if_neg hn]; exact h740 (by omega)
      refine se_call (s := s) (σ := fun k => P (s k) - P (s 0)) (lk := fun k => P (s (k + 1) - 1) - P (s k)) h hH hF hC hPm hFz h72 h73 (by omega) k1 h75 ⟨dd, dc4⟩ h74' n4 (fun k hk => ?_) c14 w14 x14 c15 w15 x15 b0 bn ij2 hj c17 x17 (fun k hk => ?_) ?_ okk
      · obtain ⟨v1, v2, v3, v4, v5, v6, v7, v8, v9⟩ := sub k hk
        have q1 := rs k hk
        exact ⟨by omega, v4, v7, by have := sm k (by omega); omega, v3, by have := bm (k + 1) (by omega); omega, v5, v6.trans v7, v8⟩
      · have s1 := (sub k hk).2.1
        have s2 := sm k (by omega)
        have s3 := sm (k + 1) (by omega)
        have q0' := rq k hk
        have q1 := rs k hk
        have q2 := mo (s k) (s (k + 1) - 1) (by omega) (by omega)
        have q3 := mo (s (k + 1) - 1) (s (k + 1)) (by omega) (by omega)
        have q4 := mo (s 0) (s k) s2.1 (by omega)
        show P (s k) - P (s 0) + (P (s (k + 1) - 1) - P (s k)) + 1 ≤ P (s (k + 1)) - P (s 0) ∧ 1 ≤ P (s (k + 1) - 1) - P (s k)
        omega
      · have q1 := mo (s n') q0 sn (Nat.le_refl _)
        have q2 := mo (s 0) (s n') (sm 0 (by omega)).2 (by omega)
        have q3 := mo (t + 1) (t + 2) (by omega) (by have := sm 0 (by omega); omega)
        show P (s n') - P (s 0) + 1 ≤ P q0 - P p0
        rw [s0] at q2 ⊢
        omega
end
