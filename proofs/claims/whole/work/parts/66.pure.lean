/-! WORDS of a text: what a lexer finds -/
abbrev sh_Tok : Type := Int32 × Nat × Nat
/-- a loop that goes from k to e -/
theorem sh_wrun {σ ρ : Type} {f : σ → Option (σ ⊕ ρ)} (S : Nat → σ) {k e : Nat} (he : k ≤ e) (hs : ∀ i, k ≤ i → i < e → f (S i) = some (.inl (S (i + 1)))) : sh_while f (S k) = sh_while f (S e) := by
  obtain ⟨d, rfl⟩ : ∃ d, e = k + d := ⟨e - k, by omega⟩
  clear he
  induction d with
  | zero => rfl
  | succ d ih =>
    rw [ih (fun i h1 h2 => hs i h1 (by omega)), sh_while_eq f (S (k + d)), hs (k + d) (by omega) (by omega)]
    rfl
/-- the end of a run -/
def sh_re (P : Int32 → Bool) (B : Nat → Int32) : Nat → Nat → Nat
  | 0, k => k
  | f + 1, k => if P (B k) = true then sh_re P B f (k + 1) else k
theorem sh_re_spec {P : Int32 → Bool} {B : Nat → Int32} {n : Nat} (hB : ∀ i, n ≤ i → B i = -1) (hP : P (-1) = false) : ∀ {f k : Nat}, n ≤ k + f → k ≤ sh_re P B f k ∧ (∀ i, k ≤ i → i < sh_re P B f k → P (B i) = true) ∧ P (B (sh_re P B f k)) = false ∧ (k ≤ n → sh_re P B f k ≤ n) := by
  intro f
  induction f with
  | zero =>
    intro k h
    refine ⟨Nat.le_refl _, fun i h1 h2 => absurd h2 (by show ¬ i < k; omega), ?_, fun h => h⟩
    show P (B k) = false
    rw [hB k (by omega), hP]
  | succ f ih =>
    intro k h
    by_cases hp : P (B k) = true
    · have e : sh_re P B (f + 1) k = sh_re P B f (k + 1) := if_pos hp
      rw [e]
      obtain ⟨h1, h2, h3, h4⟩ := ih (k := k + 1) (by omega)
      have hk : k < n := by
        by_cases hk : k < n
        · exact hk
        · rw [hB k (by omega), hP] at hp; cases hp
      refine ⟨by omega, fun i hi hi2 => ?_, h3, fun _ => h4 (by omega)⟩
      by_cases hik : i = k
      · rw [hik]; exact hp
      · exact h2 i (by omega) hi2
    · have e : sh_re P B (f + 1) k = k := if_neg hp
      rw [e]
      exact ⟨Nat.le_refl _, fun i h1 h2 => absurd h2 (by omega), by simpa using hp, fun h => h⟩
theorem sh_re_pos {P : Int32 → Bool} {B : Nat → Int32} {f k : Nat} (hf : 0 < f) (hp : P (B k) = true) : k < sh_re P B f k := by
  obtain ⟨g, rfl⟩ : ∃ g, f = g + 1 := ⟨f - 1, by omega⟩
  have e : sh_re P B (g + 1) k = sh_re P B g (k + 1) := if_pos hp
  have h : ∀ f k, k ≤ sh_re P B f k := by
    intro f
    induction f with
    | zero => intro k; exact Nat.le_refl _
    | succ f ih =>
      intro k
      unfold sh_re
      split
      · exact Nat.le_of_succ_le (ih (k + 1))
      · exact Nat.le_refl _
  rw [e]
  exact h g (k + 1)
def sh_PL (c : Int32) : Bool := decide (c ≠ 10 ∧ c ≠ -1)
/-- what begins at k: nothing known, a gap, or a word; and where it goes on -/
noncomputable def sh_tk1 (B : Nat → Int32) (n k : Nat) : Option (Option Int32 × Nat) :=
  if B k = 32 ∨ B k = 9 ∨ B k = 10 ∨ B k = 13 then some (none, k + 1)
  else if B k = 35 then some (none, sh_re sh_PL B n k)
  else if sf_28 (B k) = true then (if 12 < sh_re sf_30 B n k - k then none else some (some 1, sh_re sf_30 B n k))
  else if sf_31 (B k) = true then (if 18 < sh_re sf_31 B n k - k then none else some (some 2, sh_re sf_31 B n k))
  else if sf_253 (B k) (B (k + 1)) = true then some (some (256 * B k + B (k + 1)), k + 2)
  else if sh_txi 1 (B k) < 0 then none
  else some (some (B k), k + 1)
noncomputable def sh_lx (B : Nat → Int32) (n : Nat) : Nat → Nat → Nat ⊕ List sh_Tok
  | 0, _ => .inr []
  | f + 1, k => if k < n then (match sh_tk1 B n k with
      | none => .inl k
      | some (none, k2) => sh_lx B n f k2
      | some (some t, k2) => (match sh_lx B n f k2 with
        | .inl p => .inl p
        | .inr l => .inr ((t, k, k2 - k) :: l)))
    else .inr []
theorem sh_253r {c d : Int32} (h : sf_253 c d = true) : d.toInt = 61 ∨ d.toInt = 60 ∨ d.toInt = 62 ∨ d.toInt = 38 ∨ d.toInt = 124 ∨ d.toInt = 46 := by
  unfold sf_253 sf_253_18 sf_253_42 sf_253_60 sf_253_95 at h
  repeat' split at h
  all_goals first
    | (cases h; done)
    | (subst_vars; decide)
    | (rename_i h1 h2; rw [← h1, h2]; decide)
    | (rename_i h1 h2 h3; rw [← h1, h3]; decide)
    | (rename_i h1 h2 h3 h4; rw [← h1, h4]; decide)
theorem sh_tk1_go {B : Nat → Int32} {n k k2 : Nat} {o : Option Int32} (hB : ∀ i, n ≤ i → B i = -1) (hk : k < n) (h : sh_tk1 B n k = some (o, k2)) : k < k2 ∧ k2 ≤ n := by
  unfold sh_tk1 at h
  split at h
  · cases h; omega
  split at h
  · rename_i h35
    cases h
    have h1 := sh_re_spec (P := sh_PL) hB (by decide) (f := n) (k := k) (by omega)
    exact ⟨sh_re_pos (by omega) (by rw [h35]; decide), h1.2.2.2 (by omega)⟩
  split at h
  · rename_i hl
    split at h
    · cases h
    · cases h
      have h1 := sh_re_spec (P := sf_30) hB (by simpa using sh_np_m1) (f := n) (k := k) (by omega)
      exact ⟨sh_re_pos (by omega) ((sh_npt _).mpr (Or.inl hl)), h1.2.2.2 (by omega)⟩
  split at h
  · rename_i hl
    split at h
    · cases h
    · cases h
      have h1 := sh_re_spec (P := sf_31) hB (by simpa using sh_dig_m1) (f := n) (k := k) (by omega)
      exact ⟨sh_re_pos (by omega) hl, h1.2.2.2 (by omega)⟩
  split at h
  · rename_i hp
    cases h
    refine ⟨by omega, ?_⟩
    by_cases hn : k + 1 < n
    · omega
    · have := sh_253r hp
      rw [hB (k + 1) (by omega)] at this
      exact absurd this (by decide)
  split at h
  · cases h
  · cases h; omega
theorem sh_41 {c d : Int32} (hc : -1 ≤ c.toInt ∧ c.toInt < 256) (hd : -1 ≤ d.toInt ∧ d.toInt < 256) : sf_41 (c * 256 + d) = sf_253 c d := by
  have hE : ∀ v : Int32, c * 256 + d = v ↔ 256 * c.toInt + d.toInt = v.toInt := by
    intro v
    rw [sh_Ieq, Int32.toInt_add, Int32.toInt_mul]
    show Int.bmod (Int.bmod (c.toInt * 256) (2 ^ 32) + d.toInt) (2 ^ 32) = v.toInt ↔ _
    rw [Int.bmod_eq_of_le (n := c.toInt * 256) (by omega) (by omega), Int.bmod_eq_of_le (by omega) (by omega)]
    constructor <;> intro h <;> omega
  have e : ∀ (x : Int32) (n : Int), x.toInt = n → True := fun _ _ _ => trivial
  have hv : ∀ v : Int32, c = v ↔ c.toInt = v.toInt := fun v => sh_Ieq
  have hw : ∀ v : Int32, d = v ↔ d.toInt = v.toInt := fun v => sh_Ieq
  have hcd : c = d ↔ c.toInt = d.toInt := sh_Ieq
  unfold sf_41 sf_253 sf_253_18 sf_253_42 sf_253_60 sf_253_95
  simp only [hE, hv, hw]
  simp only [show (8509 : Int32).toInt = 8509 from rfl, show (9766 : Int32).toInt = 9766 from rfl, show (11822 : Int32).toInt = 11822 from rfl, show (15420 : Int32).toInt = 15420 from rfl, show (15421 : Int32).toInt = 15421 from rfl, show (15677 : Int32).toInt = 15677 from rfl, show (15933 : Int32).toInt = 15933 from rfl, show (15934 : Int32).toInt = 15934 from rfl, show (31868 : Int32).toInt = 31868 from rfl, show (60 : Int32).toInt = 60 from rfl, show (61 : Int32).toInt = 61 from rfl, show (62 : Int32).toInt = 62 from rfl, show (33 : Int32).toInt = 33 from rfl, show (38 : Int32).toInt = 38 from rfl, show (124 : Int32).toInt = 124 from rfl, show (46 : Int32).toInt = 46 from rfl]
  generalize c.toInt = x at *
  generalize d.toInt = y at *
  clear hE hv hw hcd e
  repeat' split
  all_goals first | rfl | (exfalso; omega)
theorem sh_txi_16 (c : Int32) : sh_txi 6 c = sh_txi 1 c := rfl
