/-! PARSERS: lists of expressions -/
/-- k elements of a list (ar is 1 where each is an argument): their roots r, their code from b, their words from s, their parts from a -/
def sp_Ls (N : Nat) (K : Nat → Int32) (V : Nat → Nat) (A C : Nat → Nat → Int32) (ar h d k : Nat) (r b s a : Nat → Nat) : Prop :=
  ∀ j, j < k → s j < s (j + 1) ∧ b j + ar ≤ b (j + 1) ∧ A 77 (r j) = (if j + 1 < k then Int32.ofNat (r (j + 1)) else -1) ∧
    (ar = 1 → C 36 (b (j + 1) - 1) = 16 ∧ C 37 (b (j + 1) - 1) = A 78 (r j) ∧ A 78 (r j) = Int32.ofNat (s j) ∧ C 38 (b (j + 1) - 1) = Int32.ofNat j) ∧
    sp_R N K V A C h (a j) (a (j + 1)) (d + 1) (r j) (b j) (b (j + 1) - ar) (s j) (s (j + 1) - 1)
section
variable {N : Nat} {K : Nat → Int32} {P V : Nat → Nat}
theorem sp_Ls.up {A C : Nat → Nat → Int32} {ar h d k : Nat} {r b s a : Nat → Nat} (H : sp_Ls N K V A C ar h d k r b s a) : ∀ j, j ≤ k → b 0 ≤ b j ∧ b j ≤ b k ∧ s 0 ≤ s j ∧ s j ≤ s k ∧ a 0 ≤ a j ∧ a j ≤ a k := by
  have st : ∀ j, j < k → b j ≤ b (j + 1) ∧ s j ≤ s (j + 1) ∧ a j ≤ a (j + 1) := by
    intro j hj
    obtain ⟨h1, h2, h3, h4, h5⟩ := H j hj
    have := sh_R_e h5
    omega
  have up : ∀ j, j ≤ k → b 0 ≤ b j ∧ s 0 ≤ s j ∧ a 0 ≤ a j := by
    intro j
    induction j with
    | zero => intro _; omega
    | succ j ihj => intro hj; have h1 := st j (by omega); have := ihj (by omega); omega
  have dn : ∀ j, j ≤ k → b (k - j) ≤ b k ∧ s (k - j) ≤ s k ∧ a (k - j) ≤ a k := by
    intro j
    induction j with
    | zero => intro _; rw [Nat.sub_zero]; omega
    | succ j ihj =>
      intro hj
      have h1 := st (k - (j + 1)) (by omega)
      rw [show k - (j + 1) + 1 = k - j by omega] at h1
      have := ihj (by omega)
      omega
  intro j hj
  have := dn (k - j) (by omega)
  rw [show k - (k - j) = j by omega] at this
  have := up j hj
  omega
theorem sp_Ls.cut {A C : Nat → Nat → Int32} {ar h d k : Nat} {r b s a : Nat → Nat} (H : sp_Ls N K V A C ar h d k r b s a) {i j : Nat} (hij : i < j) (hj : j ≤ k) : a (i + 1) ≤ a j := by
  obtain ⟨n, rfl⟩ : ∃ n, j = i + 1 + n := ⟨j - (i + 1), by omega⟩
  clear hij
  induction n with
  | zero => exact Nat.le_refl _
  | succ n ih =>
    have h1 := ih (by omega)
    obtain ⟨_, _, _, _, h5⟩ := H (i + 1 + n) (by omega)
    have := sh_R_e h5
    rw [show i + 1 + n + 1 = i + 1 + (n + 1) by omega] at this
    omega
/-- one element more -/
theorem sp_Ls.snoc {A C A' C' : Nat → Nat → Int32} {ar h h2 d k hi2 p2 c2 e : Nat} {r b s a : Nat → Nat} (hN : p2 ≤ N + 1) (H : sp_Ls N K V A C ar h d k r b s a)
    (hA : ∀ x, a 0 ≤ x → x < a k → A' 72 x = A 72 x ∧ A' 73 x = A 73 x ∧ A' 74 x = A 74 x ∧ A' 75 x = A 75 x ∧ A' 78 x = A 78 x)
    (hA7 : ∀ x, a 0 ≤ x → x < a k → (k = 0 ∨ x ≠ r (k - 1)) → A' 77 x = A 77 x)
    (hl : 0 < k → A' 77 (r (k - 1)) = Int32.ofNat e)
    (hC : ∀ y, b 0 ≤ y → y < b k → C' 36 y = C 36 y ∧ C' 37 y = C 37 y ∧ C' 38 y = C 38 y)
    (hR : sp_R N K V A' C' h2 (a k) hi2 (d + 1) e (b k) (c2 - ar) (s k) (p2 - 1)) (he : A' 77 e = -1) (hp : s k < p2) (hc : b k + ar ≤ c2) (har : ar ≤ 1)
    (hg : ar = 1 → C' 36 (c2 - 1) = 16 ∧ C' 37 (c2 - 1) = A' 78 e ∧ A' 78 e = Int32.ofNat (s k) ∧ C' 38 (c2 - 1) = Int32.ofNat k) :
    sp_Ls N K V A' C' ar (h + h2) d (k + 1) (fun j => if j = k then e else r j) (fun j => if j = k + 1 then c2 else b j) (fun j => if j = k + 1 then p2 else s j) (fun j => if j = k + 1 then hi2 else a j) := by
  have hup := H.up
  intro j hj
  by_cases hjk : j = k
  · subst hjk
    simp only [if_true, if_neg (show ¬ j = j + 1 by omega), if_neg (show ¬ j + 1 < j + 1 by omega)]
    refine ⟨hp, hc, he, hg, ?_⟩
    exact sh_R_mono h2 (h + h2) (a j) hi2 (a j) hi2 (d + 1) (d + 1) e (b j) (c2 - ar) (s j) (p2 - 1) (s j) (p2 - 1) hR (by omega) (Nat.le_refl _) (Nat.le_refl _) (Nat.le_refl _) (Nat.le_refl _) (Nat.le_refl _) (by omega) (fun _ _ _ => ⟨rfl, rfl, rfl, rfl⟩) (fun _ _ _ _ => ⟨rfl, rfl⟩) (fun _ _ _ => ⟨rfl, rfl, rfl⟩)
  · have hjl : j < k := by omega
    obtain ⟨x2, x3, x4, x5, x9⟩ := H j hjl
    have re := sh_R_e x9
    have hj1 := hup j (by omega)
    have hj2 := hup (j + 1) (by omega)
    -- the last root is not among the parts of the others
    have hlast : ¬ j + 1 = k → ∀ x, a j ≤ x → x < a (j + 1) → x ≠ r (k - 1) := by
      intro hn x a1 a2 q
      have h1 := H.cut (i := j) (j := k - 1) (by omega) (by omega)
      obtain ⟨_, _, _, _, y9⟩ := H (k - 1) (by omega)
      have := sh_R_e y9
      omega
    simp only [if_neg hjk, if_neg (show ¬ j = k + 1 by omega), if_neg (show ¬ j + 1 = k + 1 by omega)]
    rw [if_pos (show j + 1 < k + 1 by omega)]
    have hA2 : A' 77 (r j) = Int32.ofNat (if j + 1 = k then e else r (j + 1)) := by
      by_cases hk1 : j + 1 = k
      · rw [if_pos hk1]
        have := hl (by omega)
        rw [show k - 1 = j by omega] at this
        exact this
      · rw [if_neg hk1, hA7 (r j) (by omega) (by omega) (Or.inr (hlast hk1 (r j) re.1 re.2.1)), x4, if_pos (by omega)]
    refine ⟨x2, x3, hA2, fun q => ?_, ?_⟩
    · obtain ⟨g1, g2, g3, g4⟩ := x5 q
      obtain ⟨c1, c2', c3⟩ := hC (b (j + 1) - 1) (by omega) (by omega)
      have q8 := (hA (r j) (by omega) (by omega)).2.2.2.2
      exact ⟨by rw [c1]; exact g1, by rw [c2', q8]; exact g2, by rw [q8]; exact g3, by rw [c3]; exact g4⟩
    exact sh_R_mono h (h + h2) (a j) (a (j + 1)) (a j) (a (j + 1)) (d + 1) (d + 1) (r j) (b j) (b (j + 1) - ar) (s j) (s (j + 1) - 1) (s j) (s (j + 1) - 1) x9 (by omega) (Nat.le_refl _) (Nat.le_refl _) (Nat.le_refl _) (Nat.le_refl _) (Nat.le_refl _) (by omega)
      (fun x a1 a2 => by have q := hA x (by omega) (by omega); exact ⟨q.1, q.2.1, q.2.2.1, q.2.2.2.1⟩)
      (fun x a1 a2 a3 => by
        have q := hA x (by omega) (by omega)
        refine ⟨hA7 x (by omega) (by omega) ?_, q.2.2.2.2⟩
        refine Or.inr (fun q2 => ?_)
        by_cases hk1 : j + 1 = k
        · rw [show k - 1 = j by omega] at q2
          exact a3 q2
        · exact hlast hk1 x a1 a2 q2)
      (fun y a1 a2 => hC y (by omega) (by omega))
/-- the list moves to memories that agree -/
theorem sp_Ls.mono {A C A' C' : Nat → Nat → Int32} {ar h d k : Nat} {r b s a : Nat → Nat} (hN : s k ≤ N + 1) (H : sp_Ls N K V A C ar h d k r b s a)
    (hA : ∀ x, a 0 ≤ x → x < a k → A' 72 x = A 72 x ∧ A' 73 x = A 73 x ∧ A' 74 x = A 74 x ∧ A' 75 x = A 75 x ∧ A' 78 x = A 78 x ∧ A' 77 x = A 77 x)
    (hC : ∀ y, b 0 ≤ y → y < b k → C' 36 y = C 36 y ∧ C' 37 y = C 37 y ∧ C' 38 y = C 38 y) : sp_Ls N K V A' C' ar h d k r b s a := by
  have hup := H.up
  intro j hj
  obtain ⟨x2, x3, x4, x5, x9⟩ := H j hj
  have re := sh_R_e x9
  have hj1 := hup j (by omega)
  have hj2 := hup (j + 1) (by omega)
  have qr := hA (r j) (by omega) (by omega)
  refine ⟨x2, x3, by rw [qr.2.2.2.2.2]; exact x4, fun q => ?_, ?_⟩
  · obtain ⟨g1, g2, g3, g4⟩ := x5 q
    obtain ⟨c1, c2', c3⟩ := hC (b (j + 1) - 1) (by omega) (by omega)
    have q8 := qr.2.2.2.2.1
    exact ⟨by rw [c1]; exact g1, by rw [c2', q8]; exact g2, by rw [q8]; exact g3, by rw [c3]; exact g4⟩
  exact sh_R_mono h h (a j) (a (j + 1)) (a j) (a (j + 1)) (d + 1) (d + 1) (r j) (b j) (b (j + 1) - ar) (s j) (s (j + 1) - 1) (s j) (s (j + 1) - 1) x9 (Nat.le_refl _) (Nat.le_refl _) (Nat.le_refl _) (Nat.le_refl _) (Nat.le_refl _) (Nat.le_refl _) (by omega)
      (fun x a1 a2 => by have q := hA x (by omega) (by omega); exact ⟨q.1, q.2.1, q.2.2.1, q.2.2.2.1⟩)
      (fun x a1 a2 a3 => by
        have q := hA x (by omega) (by omega)
        exact ⟨q.2.2.2.2.2, q.2.2.2.2.1⟩)
      (fun y a1 a2 => hC y (by omega) (by omega))
end
