/-! PROGRAMS: a part of the model (its arrays A) and a piece of the class's code (its arrays C) are the same expression -/
def sh_ua (k : Int32) : Int32 := if k = 45 then 22 else if k = 126 then 23 else 24
def sp_R (N : Nat) (K : Nat → Int32) (V : Nat → Nat) (A C : Nat → Nat → Int32) : Nat → Nat → Nat → Nat → Nat → Nat → Nat → Nat → Nat → Prop
  | 0, _, _, _, _, _, _, _, _ => False
  | h + 1, lo, hi, d, e, i, j, p, q => (lo ≤ e ∧ e < hi ∧ d ≤ 40 ∧ i < j ∧ q ≤ N) ∧ ∃ t, A 73 e = Int32.ofNat t ∧ p ≤ t ∧ t < q ∧ (
    (j = i + 1 ∧ C 37 i = Int32.ofNat t ∧ ((A 72 e = 1 ∧ C 36 i = 19 ∧ K t = 2) ∨ (A 72 e = 2 ∧ C 36 i = 20 ∧ C 38 i = 1) ∨ (A 72 e = 3 ∧ C 36 i = 20 ∧ C 38 i = 0) ∨ (A 72 e = 4 ∧ C 36 i = 21 ∧ K t = 1))) ∨
    (∃ a l u, (lo ≤ l ∧ u ≤ hi ∧ (u ≤ e ∨ e < l)) ∧ A 74 e = Int32.ofNat a ∧
      ((A 72 e = 9 ∧ (K t = 45 ∨ K t = 126 ∨ K t = 33) ∧ C 36 (j - 1) = sh_ua (K t) ∧ C 37 (j - 1) = Int32.ofNat t) ∨
       (A 72 e = 6 ∧ K t = 3 ∧ A 75 e = Int32.ofNat (t + 1) ∧ C 36 (j - 1) = 26 ∧ C 37 (j - 1) = Int32.ofNat (t + 1) ∧ C 38 (j - 1) = Int32.ofNat (V t) ∧ t + 1 < q)) ∧
      sp_R N K V A C h l u (d + 1) a i (j - 1) (t + 1) q) ∨
    (∃ a b l u l2 u2 k, (lo ≤ l ∧ u ≤ hi ∧ u ≤ e ∧ lo ≤ l2 ∧ u2 ≤ hi ∧ u2 ≤ e) ∧ A 74 e = Int32.ofNat a ∧ A 75 e = Int32.ofNat b ∧
      A 72 e = 10 ∧ 0 < sf_69 (K t) ∧ C 36 (j - 1) = 25 ∧ C 37 (j - 1) = Int32.ofNat t ∧
      sp_R N K V A C h l u d a i k p t ∧ sp_R N K V A C h l2 u2 d b k (j - 1) (t + 1) q) ∨
    (∃ a b l u l2 u2 k, (lo ≤ l ∧ u ≤ hi ∧ u ≤ e ∧ lo ≤ l2 ∧ u2 ≤ hi ∧ u2 ≤ e) ∧ A 74 e = Int32.ofNat a ∧ A 75 e = Int32.ofNat b ∧
      A 72 e = 8 ∧ C 36 k = 28 ∧ C 37 k = Int32.ofNat t ∧ C 36 (j - 2) = 29 ∧ C 37 (j - 2) = A 78 b ∧ A 78 b = Int32.ofNat (t + 1) ∧ C 36 (j - 1) = 30 ∧ C 37 (j - 1) = Int32.ofNat t ∧ i ≤ k ∧ k + 1 ≤ j - 2 ∧
      sp_R N K V A C h l u d a i k p t ∧ sp_R N K V A C h l2 u2 (d + 1) b (k + 1) (j - 2) (t + 1) (q - 1)) ∨
    (∃ (n : Nat) (r b s l u : Nat → Nat), 1 ≤ n ∧ A 72 e = 7 ∧ A 74 e = Int32.ofNat (r 0) ∧ b 0 = i ∧ b n = j - 1 ∧ C 36 (j - 1) = 27 ∧ C 37 (j - 1) = Int32.ofNat t ∧ C 38 (j - 1) = Int32.ofNat n ∧ s 0 = t + 1 ∧ s n ≤ q ∧
      ∀ k, k < n → (e < l k ∧ u k ≤ hi) ∧ s k < s (k + 1) ∧ b k ≤ b (k + 1) ∧ A 77 (r k) = (if k + 1 < n then Int32.ofNat (r (k + 1)) else -1) ∧ sp_R N K V A C h (l k) (u k) (d + 1) (r k) (b k) (b (k + 1)) (s k) (s (k + 1) - 1)) ∨
    (∃ (n : Nat) (r b s l u : Nat → Nat) (dc : Nat), A 72 e = 5 ∧ K t = 1 ∧ d ≤ dc ∧ dc ≤ 40 ∧ A 75 e = Int32.ofNat dc ∧ (n = 0 → A 74 e = -1) ∧ (0 < n → A 74 e = Int32.ofNat (r 0)) ∧
      C 36 i = 14 ∧ C 37 i = Int32.ofNat t ∧ C 38 i = Int32.ofNat n ∧ C 36 (i + 1) = 15 ∧ C 37 (i + 1) = Int32.ofNat t ∧ C 38 (i + 1) = Int32.ofNat dc ∧
      b 0 = i + 2 ∧ b n = j - 1 ∧ C 36 (j - 1) = 17 ∧ C 38 (j - 1) = Int32.ofNat dc ∧ s 0 = t + 2 ∧ s n ≤ q ∧ i + 2 < j ∧
      ∀ k, k < n → (e < l k ∧ u k ≤ hi) ∧ s k < s (k + 1) ∧ b k + 1 ≤ b (k + 1) ∧ A 77 (r k) = (if k + 1 < n then Int32.ofNat (r (k + 1)) else -1) ∧
        C 36 (b (k + 1) - 1) = 16 ∧ C 37 (b (k + 1) - 1) = A 78 (r k) ∧ A 78 (r k) = Int32.ofNat (s k) ∧ C 38 (b (k + 1) - 1) = Int32.ofNat k ∧
        sp_R N K V A C h (l k) (u k) (d + 1) (r k) (b k) (b (k + 1) - 1) (s k) (s (k + 1) - 1)))
/-- wider limits, and other memories that agree -/
theorem sh_R_mono {N : Nat} {K : Nat → Int32} {V : Nat → Nat} {A C A' C' : Nat → Nat → Int32} : ∀ (h h' lo hi lo' hi' d d' e i j p q p' q' : Nat), sp_R N K V A C h lo hi d e i j p q → h ≤ h' → lo' ≤ lo → hi ≤ hi' → d' ≤ d → p' ≤ p → q ≤ q' → q' ≤ N →
    (∀ x, lo ≤ x → x < hi → A' 72 x = A 72 x ∧ A' 73 x = A 73 x ∧ A' 74 x = A 74 x ∧ A' 75 x = A 75 x) →
    (∀ x, lo ≤ x → x < hi → x ≠ e → A' 77 x = A 77 x ∧ A' 78 x = A 78 x) →
    (∀ y, i ≤ y → y < j → C' 36 y = C 36 y ∧ C' 37 y = C 37 y ∧ C' 38 y = C 38 y) →
    sp_R N K V A' C' h' lo' hi' d' e i j p' q' := by
  intro h
  induction h with
  | zero => intro h' lo hi lo' hi' d d' e i j p q p' q' H; exact absurd H (by simp [sp_R])
  | succ h ih =>
    intro h' lo hi lo' hi' d d' e i j p q p' q' H hh hlo hhi hd hp hq hqN hA hB hC
    obtain ⟨h0, rfl⟩ : ∃ h0, h' = h0 + 1 := ⟨h' - 1, by omega⟩
    have hle : h ≤ h0 := by omega
    unfold sp_R at H ⊢
    obtain ⟨⟨g1, g2, g3, g4, g5⟩, t, t1, t2, t3, H⟩ := H
    obtain ⟨a72, a73, a74, a75⟩ := hA e g1 g2
    refine ⟨⟨by omega, by omega, by omega, g4, hqN⟩, t, by rw [a73]; exact t1, by omega, by omega, ?_⟩
    rw [a72, a74, a75]
    rcases H with ⟨H1, H2, H3⟩ | ⟨a, l, u, H1, H2, H3, H4⟩ | ⟨a, b, l, u, l2, u2, k, H1, H2, H3, H4, H5, H6, H7, H8, H9⟩ | ⟨a, b, l, u, l2, u2, k, H1, H2, H3, H4, H5, H6, H7, H8, H9, H10, H11, H12, H13, H14, H15⟩ | ⟨n, r, b, s, l, u, H1, H2, H3, H4, H5, H6, H7, H8, H9, H10, H11⟩ | ⟨n, r, b, s, l, u, dc, H1, H2, H3, H4, H5, H6, H7, H8, H9, H10, H11, H12, H13, H14, H15, H16, H17, H18, H19, H20, H21⟩
    · left
      obtain ⟨c1, c2, c3⟩ := hC i (by omega) (by omega)
      rw [c1, c2, c3]
      exact ⟨H1, H2, H3⟩
    · right; left
      obtain ⟨c1, c2, c3⟩ := hC (j - 1) (by omega) (by omega)
      rw [c1, c2, c3]
      refine ⟨a, l, u, ⟨by omega, by omega, H1.2.2⟩, H2, ?_, ?_⟩
      · rcases H3 with H3 | ⟨x1, x2, x3, x4, x5, x6, x7⟩
        · exact Or.inl H3
        · exact Or.inr ⟨x1, x2, x3, x4, x5, x6, by omega⟩
      · exact ih h0 l u l u (d + 1) (d' + 1) a i (j - 1) (t + 1) q (t + 1) q' H4 hle (by omega) (by omega) (by omega) (by omega) hq hqN (fun x x1 x2 => hA x (by omega) (by omega)) (fun x x1 x2 x3 => hB x (by omega) (by omega) (by omega)) (fun y y1 y2 => hC y (by omega) (by omega))
    · right; right; left
      obtain ⟨c1, c2, c3⟩ := hC (j - 1) (by omega) (by omega)
      rw [c1, c2]
      have i8 : i < k := by
        cases h with
        | zero => exact absurd H8 (by simp [sp_R])
        | succ h => unfold sp_R at H8; exact H8.1.2.2.2.1
      have i9 : k < j - 1 := by
        cases h with
        | zero => exact absurd H9 (by simp [sp_R])
        | succ h => unfold sp_R at H9; exact H9.1.2.2.2.1
      refine ⟨a, b, l, u, l2, u2, k, ⟨by omega, by omega, by omega, by omega, by omega, by omega⟩, H2, H3, H4, H5, H6, H7, ?_, ?_⟩
      · exact ih h0 l u l u d d' a i k p t p' t H8 hle (by omega) (by omega) hd hp (by omega) (by omega) (fun x x1 x2 => hA x (by omega) (by omega)) (fun x x1 x2 x3 => hB x (by omega) (by omega) (by omega)) (fun y y1 y2 => hC y (by omega) (by omega))
      · exact ih h0 l2 u2 l2 u2 d d' b k (j - 1) (t + 1) q (t + 1) q' H9 hle (by omega) (by omega) hd (by omega) hq hqN (fun x x1 x2 => hA x (by omega) (by omega)) (fun x x1 x2 x3 => hB x (by omega) (by omega) (by omega)) (fun y y1 y2 => hC y (by omega) (by omega))
    · right; right; right; left
      obtain ⟨c1, c2, c3⟩ := hC (j - 1) (by omega) (by omega)
      obtain ⟨c4, c5, c6⟩ := hC (j - 2) (by omega) (by omega)
      obtain ⟨c7, c8, c9⟩ := hC k (by omega) (by omega)
      have b9 : l2 ≤ b ∧ b < u2 := by
        cases h with
        | zero => exact absurd H15 (by simp [sp_R])
        | succ h => unfold sp_R at H15; exact ⟨H15.1.1, H15.1.2.1⟩
      have e78 := (hB b (by omega) (by omega) (by omega)).2
      refine ⟨a, b, l, u, l2, u2, k, ⟨by omega, by omega, by omega, by omega, by omega, by omega⟩, H2, H3, H4, by rw [c7]; exact H5, by rw [c8]; exact H6, by rw [c4]; exact H7, by rw [c5, e78]; exact H8, by rw [e78]; exact H9, by rw [c1]; exact H10, by rw [c2]; exact H11, H12, H13, ?_, ?_⟩
      · exact ih h0 l u l u d d' a i k p t p' t H14 hle (by omega) (by omega) hd hp (by omega) (by omega) (fun x x1 x2 => hA x (by omega) (by omega)) (fun x x1 x2 x3 => hB x (by omega) (by omega) (by omega)) (fun y y1 y2 => hC y (by omega) (by omega))
      · exact ih h0 l2 u2 l2 u2 (d + 1) (d' + 1) b (k + 1) (j - 2) (t + 1) (q - 1) (t + 1) (q' - 1) H15 hle (by omega) (by omega) (by omega) (by omega) (by omega) (by omega) (fun x x1 x2 => hA x (by omega) (by omega)) (fun x x1 x2 x3 => hB x (by omega) (by omega) (by omega)) (fun y y1 y2 => hC y (by omega) (by omega))
    · right; right; right; right; left
      obtain ⟨c1, c2, c3⟩ := hC (j - 1) (by omega) (by omega)
      have hb : ∀ k, k ≤ n → i ≤ b k ∧ b k ≤ j - 1 ∧ s k ≤ q := by
        have up : ∀ k, k ≤ n → i ≤ b k := by
          intro k
          induction k with
          | zero => intro _; omega
          | succ k ihk => intro hk; have := (H11 k (by omega)).2.2.1; have := ihk (by omega); omega
        have dn : ∀ k, k ≤ n → b (n - k) ≤ j - 1 ∧ s (n - k) ≤ q := by
          intro k
          induction k with
          | zero => intro _; rw [Nat.sub_zero]; omega
          | succ k ihk =>
            intro hk
            have h1 := (H11 (n - (k + 1)) (by omega))
            rw [show n - (k + 1) + 1 = n - k by omega] at h1
            have := ihk (by omega)
            have := h1.2.2.1
            have := h1.2.1
            omega
        intro k hk
        have := dn (n - k) (by omega)
        rw [show n - (n - k) = k by omega] at this
        exact ⟨up k hk, this.1, this.2⟩
      rw [c1, c2, c3]
      refine ⟨n, r, b, s, l, u, H1, H2, H3, H4, H5, H6, H7, H8, H9, by omega, fun k hk => ?_⟩
      obtain ⟨x1, x2, x3, x4, x5⟩ := H11 k hk
      have b9 : l k ≤ r k ∧ r k < u k := by
        cases h with
        | zero => exact absurd x5 (by simp [sp_R])
        | succ h => unfold sp_R at x5; exact ⟨x5.1.1, x5.1.2.1⟩
      have k1 := hb k (by omega)
      have k2 := hb (k + 1) (by omega)
      refine ⟨⟨by omega, by omega⟩, x2, x3, by rw [(hB (r k) (by omega) (by omega) (by omega)).1]; exact x4, ?_⟩
      exact ih h0 (l k) (u k) (l k) (u k) (d + 1) (d' + 1) (r k) (b k) (b (k + 1)) (s k) (s (k + 1) - 1) (s k) (s (k + 1) - 1) x5 hle (by omega) (by omega) (by omega) (by omega) (by omega) (by omega) (fun x x1 x2 => hA x (by omega) (by omega)) (fun x x1 x2 x3 => hB x (by omega) (by omega) (by omega)) (fun y y1 y2 => hC y (by omega) (by omega))
    · right; right; right; right; right
      obtain ⟨c1, c2, c3⟩ := hC (j - 1) (by omega) (by omega)
      obtain ⟨c4, c5, c6⟩ := hC i (by omega) (by omega)
      obtain ⟨c7, c8, c9⟩ := hC (i + 1) (by omega) (by omega)
      have hb : ∀ k, k ≤ n → i + 2 ≤ b k ∧ b k ≤ j - 1 ∧ s k ≤ q := by
        have up : ∀ k, k ≤ n → i + 2 ≤ b k := by
          intro k
          induction k with
          | zero => intro _; omega
          | succ k ihk => intro hk; have := (H21 k (by omega)).2.2.1; have := ihk (by omega); omega
        have dn : ∀ k, k ≤ n → b (n - k) ≤ j - 1 ∧ s (n - k) ≤ q := by
          intro k
          induction k with
          | zero => intro _; rw [Nat.sub_zero]; omega
          | succ k ihk =>
            intro hk
            have h1 := (H21 (n - (k + 1)) (by omega))
            rw [show n - (k + 1) + 1 = n - k by omega] at h1
            have := ihk (by omega)
            have := h1.2.2.1
            have := h1.2.1
            omega
        intro k hk
        have := dn (n - k) (by omega)
        rw [show n - (n - k) = k by omega] at this
        exact ⟨up k hk, this.1, this.2⟩
      rw [c1, c3, c4, c5, c6, c7, c8, c9]
      refine ⟨n, r, b, s, l, u, dc, H1, H2, by omega, H4, H5, H6, H7, H8, H9, H10, H11, H12, H13, H14, H15, H16, H17, H18, by omega, H20, fun k hk => ?_⟩
      obtain ⟨x1, x2, x3, x4, x5, x6, x7, x8, x9⟩ := H21 k hk
      have b9 : l k ≤ r k ∧ r k < u k := by
        cases h with
        | zero => exact absurd x9 (by simp [sp_R])
        | succ h => unfold sp_R at x9; exact ⟨x9.1.1, x9.1.2.1⟩
      have k1 := hb k (by omega)
      have k2 := hb (k + 1) (by omega)
      have e7 := hB (r k) (by omega) (by omega) (by omega)
      obtain ⟨d1, d2, d3⟩ := hC (b (k + 1) - 1) (by omega) (by omega)
      refine ⟨⟨by omega, by omega⟩, x2, x3, by rw [e7.1]; exact x4, by rw [d1]; exact x5, by rw [d2, e7.2]; exact x6, by rw [e7.2]; exact x7, by rw [d3]; exact x8, ?_⟩
      exact ih h0 (l k) (u k) (l k) (u k) (d + 1) (d' + 1) (r k) (b k) (b (k + 1) - 1) (s k) (s (k + 1) - 1) (s k) (s (k + 1) - 1) x9 hle (by omega) (by omega) (by omega) (by omega) (by omega) (by omega) (fun x x1 x2 => hA x (by omega) (by omega)) (fun x x1 x2 x3 => hB x (by omega) (by omega) (by omega)) (fun y y1 y2 => hC y (by omega) (by omega))
