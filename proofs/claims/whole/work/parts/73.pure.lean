/-! the words as both sides see them -/
/-- what a word of the text is -/
def sh_Tk (B : Nat → Int32) (n : Nat) (t : sh_Tok) : Prop := t.2.1 + t.2.2 ≤ n ∧ 1 ≤ t.2.2 ∧
  ((t.1 = 1 ∧ t.2.2 ≤ 12 ∧ sf_28 (B t.2.1) = true ∧ ∀ i, i < t.2.2 → sf_30 (B (t.2.1 + i)) = true) ∨
   (t.1 = 2 ∧ t.2.2 ≤ 18 ∧ ∀ i, i < t.2.2 → sf_31 (B (t.2.1 + i)) = true) ∨
   (33 ≤ t.1.toInt))
theorem sh_txi_rng {c : Int32} (h : ¬ sh_txi 1 c < 0) : 33 ≤ c.toInt := by
  have key : ∀ (l : List Nat) (i : Nat), (∀ x, x ∈ l → 33 ≤ x ∧ x < 128) → ¬ sh_txw c l i < 0 → 33 ≤ c.toInt := by
    intro l
    induction l with
    | nil => intro i _ h; exact absurd (show (-1 : Int32) < 0 by decide) h
    | cons a r ih =>
      intro i hl h
      unfold sh_txw at h
      by_cases hc : Int32.ofNat a = c
      · rw [← hc, sh_nI (by have := hl a (by simp); omega)]
        have := hl a (by simp)
        omega
      · rw [if_neg hc] at h
        exact ih (i + 1) (fun x hx => hl x (List.mem_cons_of_mem _ hx)) h
  exact key _ 0 (by decide) h
theorem sh_253_rng {c d : Int32} (hc : -1 ≤ c.toInt ∧ c.toInt < 256) (hd : -1 ≤ d.toInt ∧ d.toInt < 256) (h : sf_253 c d = true) : 33 ≤ (256 * c + d).toInt := by
  rw [← (sh_253k hc hd h).2.2]
  rw [← sh_41 hc hd] at h
  generalize c * 256 + d = x at h
  unfold sf_41 at h
  split at h
  · rename_i h2
    rcases h2 with h2 | h2 | h2 | h2 | h2 | h2 | h2 | h2 | h2 <;> (rw [h2]; decide)
  · cases h
theorem sh_tk1_tok {B : Nat → Int32} {n k k2 : Nat} {t : Int32} (hB : ∀ i, n ≤ i → B i = -1) (hr : ∀ i, -1 ≤ (B i).toInt ∧ (B i).toInt < 256) (hk : k < n) (h : sh_tk1 B n k = some (some t, k2)) : sh_Tk B n (t, k, k2 - k) := by
  obtain ⟨g1, g2⟩ := sh_tk1_go hB hk h
  refine ⟨by show k + (k2 - k) ≤ n; omega, by show 1 ≤ k2 - k; omega, ?_⟩
  show (t = 1 ∧ k2 - k ≤ 12 ∧ _) ∨ (t = 2 ∧ k2 - k ≤ 18 ∧ _) ∨ 33 ≤ t.toInt
  unfold sh_tk1 at h
  split at h
  · cases h
  split at h
  · cases h
  split at h
  · rename_i hl
    split at h
    · cases h
    · cases h
      have h1 := sh_re_spec (P := sf_30) hB (by simpa using sh_np_m1) (f := n) (k := k) (by omega)
      exact Or.inl ⟨rfl, by omega, hl, fun i hi => h1.2.1 (k + i) (by omega) (by have hi : i < sh_re sf_30 B n k - k := hi; omega)⟩
  split at h
  · rename_i hl
    split at h
    · cases h
    · cases h
      have h1 := sh_re_spec (P := sf_31) hB (by simpa using sh_dig_m1) (f := n) (k := k) (by omega)
      exact Or.inr (Or.inl ⟨rfl, by omega, fun i hi => h1.2.1 (k + i) (by omega) (by have hi : i < sh_re sf_31 B n k - k := hi; omega)⟩)
  split at h
  · rename_i hp
    cases h
    exact Or.inr (Or.inr (sh_253_rng (hr _) (hr _) hp))
  split at h
  · cases h
  · rename_i hs
    cases h
    exact Or.inr (Or.inr (sh_txi_rng hs))
/-- all words of a text; each stands behind the one before -/
theorem sh_lx_tok {B : Nat → Int32} {n : Nat} (hB : ∀ i, n ≤ i → B i = -1) (hr : ∀ i, -1 ≤ (B i).toInt ∧ (B i).toInt < 256) : ∀ (f k : Nat) (l : List sh_Tok), n ≤ k + f → sh_lx B n f k = .inr l → (∀ (i : Nat) (t : sh_Tok), l[i]? = some t → sh_Tk B n t ∧ k ≤ t.2.1) ∧ (∀ (i : Nat) (t u : sh_Tok), l[i]? = some t → l[i + 1]? = some u → t.2.1 + t.2.2 ≤ u.2.1) := by
  intro f
  induction f with
  | zero =>
    intro k l _ h
    cases h
    exact ⟨fun i t h => by simp at h, fun i t u h => by simp at h⟩
  | succ f ih =>
    intro k l hf h
    by_cases hk : k < n
    · cases htk : sh_tk1 B n k with
      | none => rw [sh_lx_e1 hk htk] at h; cases h
      | some r =>
        obtain ⟨o, k2⟩ := r
        obtain ⟨g1, g2⟩ := sh_tk1_go hB hk htk
        cases o with
        | none =>
          rw [sh_lx_e2 hk htk] at h
          obtain ⟨a, b⟩ := ih k2 l (by omega) h
          exact ⟨fun i t ht => ⟨(a i t ht).1, by have := (a i t ht).2; omega⟩, b⟩
        | some t0 =>
          cases hl2 : sh_lx B n f k2 with
          | inl p => rw [sh_lx_e3 hk htk hl2] at h; cases h
          | inr l2 =>
            rw [sh_lx_e4 hk htk hl2] at h
            cases h
            obtain ⟨a, b⟩ := ih k2 l2 (by omega) hl2
            refine ⟨fun i t ht => ?_, fun i t u ht hu => ?_⟩
            · cases i with
              | zero =>
                simp at ht
                subst ht
                exact ⟨sh_tk1_tok hB hr hk htk, Nat.le_refl _⟩
              | succ i =>
                simp at ht
                exact ⟨(a i t ht).1, by have := (a i t ht).2; omega⟩
            · cases i with
              | zero =>
                simp at ht hu
                subst ht
                have := (a 0 u (by simpa using hu)).2
                show k + (k2 - k) ≤ u.2.1
                omega
              | succ i =>
                simp at ht hu
                exact b i t u ht hu
    · rw [sh_lx_e0 hk] at h
      cases h
      exact ⟨fun i t h => by simp at h, fun i t u h => by simp at h⟩
