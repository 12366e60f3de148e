/-! PROGRAMS: statements of the model and pieces of code -/
/-- a list of statements from x on, each as S says -/
def sh_Sl (A : Nat → Nat → Int32) (S : Nat → Nat → Nat → Nat → Nat → Nat → Nat → Nat → Prop) (lo hi d : Nat) (x : Int32) (i j p q : Nat) : Prop :=
  ∃ (n : Nat) (r b s a : Nat → Nat), (n = 0 → x = -1) ∧ (0 < n → x = Int32.ofNat (r 0)) ∧ b 0 = i ∧ b n = j ∧ lo ≤ a 0 ∧ a n ≤ hi ∧ p ≤ s 0 ∧ s n ≤ q ∧
    ∀ k, k < n → b k ≤ b (k + 1) ∧ s k < s (k + 1) ∧ a k ≤ r k ∧ r k < a (k + 1) ∧ A 77 (r k) = (if k + 1 < n then Int32.ofNat (r (k + 1)) else -1) ∧ S (a k) (a (k + 1)) d (r k) (b k) (b (k + 1)) (s k) (s (k + 1))
def sp_S (N : Nat) (K : Nat → Int32) (V : Nat → Nat) (A C : Nat → Nat → Int32) : Nat → Nat → Nat → Nat → Nat → Nat → Nat → Nat → Nat → Prop
  | 0, _, _, _, _, _, _, _, _ => False
  | h + 1, lo, hi, d, e, i, j, p, q => (lo ≤ e ∧ e < hi ∧ d ≤ 40 ∧ i + 1 < j ∧ q ≤ N ∧ p < q) ∧ A 73 e = Int32.ofNat p ∧ C 36 i = 0 ∧ C 37 i = Int32.ofNat p ∧ (
    (A 72 e = 20 ∧ A 75 e = Int32.ofNat (p + 1) ∧ K (p + 1) = 1 ∧ C 36 (j - 1) = 2 ∧ C 37 (j - 1) = Int32.ofNat (p + 1) ∧
      ∃ a ht, A 74 e = Int32.ofNat a ∧ sp_R N K V A C ht (e + 1) hi d a (i + 1) (j - 1) (p + 3) (q - 1)) ∨
    (A 72 e = 24 ∧ C 36 (i + 1) = 12 ∧ C 37 (i + 1) = Int32.ofNat p ∧ C 36 (j - 1) = 13 ∧ C 37 (j - 1) = Int32.ofNat p ∧
      ∃ a ht, A 74 e = Int32.ofNat a ∧ sp_R N K V A C ht (e + 1) hi d a (i + 2) (j - 1) (p + 1) (q - 1)) ∨
    (A 72 e = 21 ∧ A 75 e = -1 ∧ K p = 1 ∧ C 36 (i + 1) = 3 ∧ C 37 (i + 1) = Int32.ofNat p ∧ C 36 (j - 1) = 5 ∧ C 37 (j - 1) = Int32.ofNat p ∧
      ∃ a ht, A 74 e = Int32.ofNat a ∧ C 38 (j - 1) = Int32.ofNat (p + 2) ∧ A 78 a = Int32.ofNat (p + 2) ∧ sp_R N K V A C ht (e + 1) hi d a (i + 2) (j - 1) (p + 2) (q - 1)) ∨
    (A 72 e = 21 ∧ A 76 e = Int32.ofNat (p + 1) ∧ K p = 1 ∧ C 36 (i + 1) = 3 ∧ C 37 (i + 1) = Int32.ofNat p ∧ C 36 (i + 2) = 4 ∧ C 37 (i + 2) = Int32.ofNat (p + 1) ∧ C 38 (i + 2) = Int32.ofNat p ∧ C 36 (j - 1) = 6 ∧ C 37 (j - 1) = Int32.ofNat p ∧
      ∃ a b ht ht2 k l t, A 74 e = Int32.ofNat a ∧ A 75 e = Int32.ofNat b ∧ i + 3 ≤ k ∧ k + 1 ≤ j - 1 ∧ e + 1 ≤ l ∧ l ≤ hi ∧ p + 2 ≤ t ∧ t + 2 ≤ q - 1 ∧ C 36 k = 29 ∧ C 37 k = Int32.ofNat (p + 2) ∧ A 78 b = Int32.ofNat (p + 2) ∧ C 38 (j - 1) = Int32.ofNat (t + 2) ∧ A 78 a = Int32.ofNat (t + 2) ∧
        sp_R N K V A C ht2 (e + 1) l (d + 1) b (i + 3) k (p + 2) t ∧ sp_R N K V A C ht l hi d a (k + 1) (j - 1) (t + 2) (q - 1)) ∨
    (A 72 e = 22 ∧ C 36 (j - 1) = 9 ∧
      ∃ a ht k l l2 f g t t2, A 74 e = Int32.ofNat a ∧ A 78 a = Int32.ofNat (p + 1) ∧ i + 1 ≤ k ∧ k + 1 ≤ l ∧ l ≤ j - 1 ∧ e + 1 ≤ f ∧ f ≤ g ∧ g ≤ hi ∧ p + 1 ≤ t ∧ t + 1 ≤ t2 ∧ t2 + 1 ≤ q ∧ C 36 k = 7 ∧ C 37 k = Int32.ofNat (p + 1) ∧
        sp_R N K V A C ht (e + 1) f d a (i + 1) k (p + 1) t ∧ sh_Sl A (sp_S N K V A C h) f g (d + 1) (A 75 e) (k + 1) l (t + 1) t2 ∧
        ((l = j - 1 ∧ A 76 e = -1) ∨ (l2 = l + 1 ∧ l + 1 ≤ j - 1 ∧ C 36 l = 8 ∧ sh_Sl A (sp_S N K V A C h) g hi (d + 1) (A 76 e) (l + 1) (j - 1) (t2 + 1) q))) ∨
    (A 72 e = 23 ∧ A 75 e = Int32.ofNat (p + 1) ∧ K (p + 1) = 1 ∧ A 76 e = Int32.ofNat (p + 3) ∧ K (p + 3) = 2 ∧ K (p + 5) = 2 ∧ p + 6 ≤ q ∧ C 36 (i + 1) = 10 ∧ C 37 (i + 1) = Int32.ofNat (p + 1) ∧ C 38 (i + 1) = Int32.ofNat j ∧ C 36 (j - 1) = 11 ∧ C 37 (j - 1) = Int32.ofNat (p + 1) ∧ C 38 (j - 1) = Int32.ofNat (i + 1) ∧ i + 2 ≤ j - 1 ∧
      sh_Sl A (sp_S N K V A C h) (e + 1) hi (d + 1) (A 74 e) (i + 2) (j - 1) (p + 7) q))
section
variable {N : Nat} {K : Nat → Int32} {V : Nat → Nat}
theorem sh_S_e {A C : Nat → Nat → Int32} {h lo hi d e i j p q : Nat} (H : sp_S N K V A C h lo hi d e i j p q) : lo ≤ e ∧ e < hi ∧ d ≤ 40 ∧ i + 1 < j ∧ q ≤ N ∧ p < q := by
  cases h with
  | zero => exact absurd H (by simp [sp_S])
  | succ h => unfold sp_S at H; exact H.1
/-- the limits of a list of statements -/
theorem sh_Sl_up {A : Nat → Nat → Int32} {S : Nat → Nat → Nat → Nat → Nat → Nat → Nat → Nat → Prop} {d n : Nat} {r b s a : Nat → Nat} (H : ∀ k, k < n → b k ≤ b (k + 1) ∧ s k < s (k + 1) ∧ a k ≤ r k ∧ r k < a (k + 1) ∧ A 77 (r k) = (if k + 1 < n then Int32.ofNat (r (k + 1)) else -1) ∧ S (a k) (a (k + 1)) d (r k) (b k) (b (k + 1)) (s k) (s (k + 1))) : ∀ j, j ≤ n → b 0 ≤ b j ∧ b j ≤ b n ∧ s 0 ≤ s j ∧ s j ≤ s n ∧ a 0 ≤ a j ∧ a j ≤ a n := by
  have st : ∀ j, j < n → b j ≤ b (j + 1) ∧ s j ≤ s (j + 1) ∧ a j ≤ a (j + 1) := by
    intro j hj
    obtain ⟨h1, h2, h3, h4, h5, h6⟩ := H j hj
    omega
  have up : ∀ j, j ≤ n → b 0 ≤ b j ∧ s 0 ≤ s j ∧ a 0 ≤ a j := by
    intro j
    induction j with
    | zero => intro _; omega
    | succ j ihj => intro hj; have h1 := st j (by omega); have := ihj (by omega); omega
  have dn : ∀ j, j ≤ n → b (n - j) ≤ b n ∧ s (n - j) ≤ s n ∧ a (n - j) ≤ a n := by
    intro j
    induction j with
    | zero => intro _; rw [Nat.sub_zero]; omega
    | succ j ihj =>
      intro hj
      have h1 := st (n - (j + 1)) (by omega)
      rw [show n - (j + 1) + 1 = n - j by omega] at h1
      have := ihj (by omega)
      omega
  intro j hj
  have := dn (n - j) (by omega)
  rw [show n - (n - j) = j by omega] at this
  have := up j hj
  omega
theorem sh_Sl_mono {A A' : Nat → Nat → Int32} {S S' : Nat → Nat → Nat → Nat → Nat → Nat → Nat → Nat → Prop} {lo hi lo' hi' d : Nat} {x : Int32} {i j p q p' q' : Nat} (H : sh_Sl A S lo hi d x i j p q) (hlo : lo' ≤ lo) (hhi : hi ≤ hi') (hp : p' ≤ p) (hq : q ≤ q') (hA : ∀ y, lo ≤ y → y < hi → A' 77 y = A 77 y) (hS : ∀ l u e b c s t, lo ≤ l → u ≤ hi → i ≤ b → c ≤ j → t ≤ q → S l u d e b c s t → S' l u d e b c s t) : sh_Sl A' S' lo' hi' d x i j p' q' := by
  obtain ⟨n, r, b, s, a, h1, h2, h3, h4, h5, h6, h7, h8, h9⟩ := H
  have up := sh_Sl_up h9
  refine ⟨n, r, b, s, a, h1, h2, h3, h4, by omega, by omega, by omega, by omega, fun k hk => ?_⟩
  obtain ⟨g1, g2, g3, g4, g5, g6⟩ := h9 k hk
  have u1 := up k (by omega)
  have u2 := up (k + 1) (by omega)
  exact ⟨g1, g2, g3, g4, by rw [hA (r k) (by omega) (by omega)]; exact g5, hS _ _ _ _ _ _ _ (by omega) (by omega) (by omega) (by omega) (by omega) g6⟩
theorem sh_S_mono {A C A' C' : Nat → Nat → Int32} : ∀ (h h' lo hi lo' hi' d e i j p q : Nat), sp_S N K V A C h lo hi d e i j p q → h ≤ h' → lo' ≤ lo → hi ≤ hi' →
    (∀ x, lo ≤ x → x < hi → A' 72 x = A 72 x ∧ A' 73 x = A 73 x ∧ A' 74 x = A 74 x ∧ A' 75 x = A 75 x ∧ A' 76 x = A 76 x ∧ A' 78 x = A 78 x) →
    (∀ x, lo ≤ x → x < hi → x ≠ e → A' 77 x = A 77 x) →
    (∀ y, i ≤ y → y < j → C' 36 y = C 36 y ∧ C' 37 y = C 37 y ∧ C' 38 y = C 38 y) →
    sp_S N K V A' C' h' lo' hi' d e i j p q := by
  intro h
  induction h with
  | zero => intro h' lo hi lo' hi' d e i j p q H; exact absurd H (by simp [sp_S])
  | succ h ih =>
    intro h' lo hi lo' hi' d e i j p q H hh hlo hhi hA hB hC
    obtain ⟨h0, rfl⟩ : ∃ h0, h' = h0 + 1 := ⟨h' - 1, by omega⟩
    have hle : h ≤ h0 := by omega
    unfold sp_S at H ⊢
    obtain ⟨⟨g1, g2, g3, g4, g5, g6⟩, t1, t2, t3, H⟩ := H
    obtain ⟨a72, a73, a74, a75, a76, a78⟩ := hA e g1 g2
    obtain ⟨c1, c2, c3⟩ := hC i (by omega) (by omega)
    obtain ⟨c4, c5, c6⟩ := hC (i + 1) (by omega) (by omega)
    obtain ⟨c7, c8, c9⟩ := hC (j - 1) (by omega) (by omega)
    -- an expression within
    have mR : ∀ ht l u d2 a y z pp qq, e + 1 ≤ l → u ≤ hi → i ≤ y → z ≤ j → sp_R N K V A C ht l u d2 a y z pp qq → sp_R N K V A' C' ht l u d2 a y z pp qq := by
      intro ht l u d2 a y z pp qq l1 l2 y1 y2 hr
      refine sh_R_mono ht ht l u l u d2 d2 a y z pp qq pp qq hr (Nat.le_refl _) (Nat.le_refl _) (Nat.le_refl _) (Nat.le_refl _) (Nat.le_refl _) (Nat.le_refl _) (sh_R_e hr).2.2.2.2 ?_ ?_ ?_
      · intro x x1 x2
        have q := hA x (by omega) (by omega)
        exact ⟨q.1, q.2.1, q.2.2.1, q.2.2.2.1⟩
      · intro x x1 x2 x3
        have q := hA x (by omega) (by omega)
        exact ⟨hB x (by omega) (by omega) (by omega), q.2.2.2.2.2⟩
      · intro y' z1 z2
        exact hC y' (by omega) (by omega)
    have m78 : ∀ ht l u d2 a y z pp qq, e + 1 ≤ l → u ≤ hi → sp_R N K V A C ht l u d2 a y z pp qq → A' 78 a = A 78 a := by
      intro ht l u d2 a y z pp qq l1 l2 hr
      have re := sh_R_e hr
      exact (hA a (by omega) (by omega)).2.2.2.2.2
    -- statements within
    have mS : ∀ l u x y z pp qq, e + 1 ≤ l → u ≤ hi → i ≤ y → z ≤ j → sh_Sl A (sp_S N K V A C h) l u (d + 1) x y z pp qq → sh_Sl A' (sp_S N K V A' C' h0) l u (d + 1) x y z pp qq := by
      intro l u x y z pp qq l1 l2 y1 y2 hr
      refine sh_Sl_mono hr (Nat.le_refl _) (Nat.le_refl _) (Nat.le_refl _) (Nat.le_refl _) (fun x x1 x2 => hB x (by omega) (by omega) (by omega)) ?_
      intro l' u' e' b' c' s' t' z1 z2 z3 z4 z5 z6
      exact ih h0 l' u' l' u' (d + 1) e' b' c' s' t' z6 hle (Nat.le_refl _) (Nat.le_refl _) (fun x x1 x2 => hA x (by omega) (by omega)) (fun x x1 x2 _ => hB x (by omega) (by omega) (by omega)) (fun w w1 w2 => hC w (by omega) (by omega))
    -- limits may be wider
    have wR : ∀ ht l d2 a y z pp qq, sp_R N K V A' C' ht l hi d2 a y z pp qq → sp_R N K V A' C' ht l hi' d2 a y z pp qq := by
      intro ht l d2 a y z pp qq hr
      exact sh_R_mono ht ht l hi l hi' d2 d2 a y z pp qq pp qq hr (Nat.le_refl _) (Nat.le_refl _) hhi (Nat.le_refl _) (Nat.le_refl _) (Nat.le_refl _) (sh_R_e hr).2.2.2.2 (fun _ _ _ => ⟨rfl, rfl, rfl, rfl⟩) (fun _ _ _ _ => ⟨rfl, rfl⟩) (fun _ _ _ => ⟨rfl, rfl, rfl⟩)
    have wS : ∀ l x y z pp qq, sh_Sl A' (sp_S N K V A' C' h0) l hi (d + 1) x y z pp qq → sh_Sl A' (sp_S N K V A' C' h0) l hi' (d + 1) x y z pp qq := by
      intro l x y z pp qq hr
      exact sh_Sl_mono hr (Nat.le_refl _) hhi (Nat.le_refl _) (Nat.le_refl _) (fun _ _ _ => rfl) (fun _ _ _ _ _ _ _ _ _ _ _ _ q => q)
    refine ⟨⟨by omega, by omega, g3, g4, g5, g6⟩, by rw [a73]; exact t1, by rw [c1]; exact t2, by rw [c2]; exact t3, ?_⟩
    rw [a72, a74, a75, a76, c4, c5, c7, c8]
    rcases H with ⟨H1, H2, H3, H4, H5, a, ht, H6, H7⟩ | ⟨H1, H2, H3, H4, H5, a, ht, H6, H7⟩ | ⟨H1, H2, H3, H4, H5, H6, H7, a, ht, H8, H9, H10, H11⟩ | ⟨H1, H2, H3, H4, H5, H6, H7, H8, H9, H10, a, b, ht, ht2, k, l, t, X1, X2, X3, X4, X5, X6, X7, X8, X9, X10, X11, X12, X13, X14, X15⟩ | ⟨H1, H2, a, ht, k, l, l2, f, g, t, t2', X1, X2, X3, X4, X5, X6, X7, X8, X9, X10, X11, X12, X13, X14, X15, X16⟩ | ⟨H1, H2, H3, H4, H5, H6, H7, H8, H9, H10, H11, H12, H13, H14, H15⟩
    · exact Or.inl ⟨H1, H2, H3, H4, H5, a, ht, H6, wR _ _ _ _ _ _ _ _ (mR _ _ _ _ _ _ _ _ _ (by omega) (Nat.le_refl _) (by omega) (by omega) H7)⟩
    · exact Or.inr (Or.inl ⟨H1, H2, H3, H4, H5, a, ht, H6, wR _ _ _ _ _ _ _ _ (mR _ _ _ _ _ _ _ _ _ (by omega) (Nat.le_refl _) (by omega) (by omega) H7)⟩)
    · exact Or.inr (Or.inr (Or.inl ⟨H1, H2, H3, H4, H5, H6, H7, a, ht, H8, by rw [c9]; exact H9, by rw [m78 _ _ _ _ _ _ _ _ _ (by omega) (Nat.le_refl _) H11]; exact H10, wR _ _ _ _ _ _ _ _ (mR _ _ _ _ _ _ _ _ _ (by omega) (Nat.le_refl _) (by omega) (by omega) H11)⟩))
    · obtain ⟨d1, d2, d3⟩ := hC (i + 2) (by omega) (by omega)
      obtain ⟨e1, e2, e3⟩ := hC k (by omega) (by omega)
      exact Or.inr (Or.inr (Or.inr (Or.inl ⟨H1, H2, H3, H4, H5, by rw [d1]; exact H6, by rw [d2]; exact H7, by rw [d3]; exact H8, H9, H10, a, b, ht, ht2, k, l, t, X1, X2, X3, X4, X5, by omega, X7, X8, by rw [e1]; exact X9, by rw [e2]; exact X10, by rw [m78 _ _ _ _ _ _ _ _ _ (by omega) (by omega) X14]; exact X11, by rw [c9]; exact X12, by rw [m78 _ _ _ _ _ _ _ _ _ (by omega) (Nat.le_refl _) X15]; exact X13, mR _ _ _ _ _ _ _ _ _ (by omega) (by omega) (by omega) (by omega) X14, wR _ _ _ _ _ _ _ _ (mR _ _ _ _ _ _ _ _ _ (by omega) (Nat.le_refl _) (by omega) (by omega) X15)⟩)))
    · obtain ⟨e1, e2, e3⟩ := hC k (by omega) (by omega)
      refine Or.inr (Or.inr (Or.inr (Or.inr (Or.inl ⟨H1, H2, a, ht, k, l, l2, f, g, t, t2', X1, ?_, X3, X4, X5, X6, X7, by omega, X9, X10, X11, by rw [e1]; exact X12, by rw [e2]; exact X13, mR _ _ _ _ _ _ _ _ _ (by omega) (by omega) (by omega) (by omega) X14, mS _ _ _ _ _ _ _ (by omega) (by omega) (by omega) (by omega) X15, ?_⟩))))
      · rw [m78 _ _ _ _ _ _ _ _ _ (by omega) (by omega) X14]; exact X2
      · rcases X16 with X16 | ⟨Y1, Y2, Y3, Y4⟩
        · exact Or.inl X16
        · refine Or.inr ⟨Y1, Y2, ?_, ?_⟩
          · rw [(hC l (by omega) (by omega)).1]; exact Y3
          · exact wS _ _ _ _ _ _ (mS _ _ _ _ _ _ _ (by omega) (Nat.le_refl _) (by omega) (by omega) Y4)
    · exact Or.inr (Or.inr (Or.inr (Or.inr (Or.inr ⟨H1, H2, H3, H4, H5, H6, H7, H8, H9, by rw [c6]; exact H10, H11, H12, by rw [c9]; exact H13, H14, wS _ _ _ _ _ _ (mS _ _ _ _ _ _ _ (by omega) (Nat.le_refl _) (by omega) (by omega) H15)⟩))))
end
