/-! LINKS: functions over the memory, and that the machine does what they say -/
/-- the memory: what the cells are, their ints, their longs; the slots that were made -/
abbrev sh_X : Type := List sh_Tg × (Nat → Nat → Int32) × (Nat → Nat → Int64) × Nat
abbrev sh_X.T (m : sh_X) : List sh_Tg := m.1
abbrev sh_X.I (m : sh_X) : Nat → Nat → Int32 := m.2.1
abbrev sh_X.J (m : sh_X) : Nat → Nat → Int64 := m.2.2.1
abbrev sh_X.s (m : sh_X) : Nat := m.2.2.2
def sh_b2 : Bool → Int32
  | true => 1
  | false => 0
def sh_okb (i : Int32) (n : Nat) : Bool := !(decide (i < 0)) && decide (i.toNatClampNeg < n)
theorem sh_okb1 {i : Int32} {n : Nat} (h : sh_okb i n = true) : ¬ i < 0 := by simp [sh_okb] at h; exact fun q => absurd q (by simpa using h.1)
theorem sh_okb2 {i : Int32} {n : Nat} (h : sh_okb i n = true) : i.toNatClampNeg < n := by simp [sh_okb] at h; exact h.2
abbrev sh_isE (e : Nat) : Prop := e = 13 ∨ e = 18 ∨ e = 23
/-- a call that reads alone; one that writes; one that may throw -/
def sh_bc {α β : Type} (x : Option α) (f : α → Option β) : Option β := match x with
  | none => none
  | some r => f r
def sh_bn {α β : Type} (x : Option (α × sh_X)) (f : α → sh_X → Option β) : Option β := match x with
  | none => none
  | some (r, m) => f r m
def sh_bt {α β : Type} (x : Option (Option α × sh_X)) (t : sh_X → β) (f : α → sh_X → Option β) : Option β := match x with
  | none => none
  | some (none, m) => some (t m)
  | some (some r, m) => f r m
def sh_up {α β : Type} (x : Option β) : Option (α ⊕ β) := x.map .inr
theorem sh_bc_e {α β : Type} {x : Option α} {f : α → Option β} {z : β} (h : sh_bc x f = some z) : ∃ r, x = some r ∧ f r = some z := by
  cases x with
  | none => cases h
  | some r => exact ⟨r, rfl, h⟩
theorem sh_bn_e {α β : Type} {x : Option (α × sh_X)} {f : α → sh_X → Option β} {z : β} (h : sh_bn x f = some z) : ∃ r m, x = some (r, m) ∧ f r m = some z := by
  cases x with
  | none => cases h
  | some q => obtain ⟨r, m⟩ := q; exact ⟨r, m, rfl, h⟩
/-- a call whose exception is caught -/
def sh_bh {α β : Type} (x : Option (Option α × sh_X)) (t : sh_X → Option β) (f : α → sh_X → Option β) : Option β := match x with
  | none => none
  | some (none, m) => t m
  | some (some r, m) => f r m
theorem sh_bh_e {α β : Type} {x : Option (Option α × sh_X)} {t : sh_X → Option β} {f : α → sh_X → Option β} {z : β} (h : sh_bh x t f = some z) : (∃ m, x = some (none, m) ∧ t m = some z) ∨ (∃ r m, x = some (some r, m) ∧ f r m = some z) := by
  cases x with
  | none => cases h
  | some q =>
    obtain ⟨r, m⟩ := q
    cases r with
    | none => exact Or.inl ⟨m, rfl, h⟩
    | some r => exact Or.inr ⟨r, m, rfl, h⟩
theorem sh_bt_e {α β : Type} {x : Option (Option α × sh_X)} {t : sh_X → β} {f : α → sh_X → Option β} {z : β} (h : sh_bt x t f = some z) : (∃ m, x = some (none, m) ∧ z = t m) ∨ (∃ r m, x = some (some r, m) ∧ f r m = some z) := by
  cases x with
  | none => cases h
  | some q =>
    obtain ⟨r, m⟩ := q
    cases r with
    | none => exact Or.inl ⟨m, rfl, (Option.some.inj h).symm⟩
    | some r => exact Or.inr ⟨r, m, rfl, h⟩
theorem sh_up_e {α β : Type} {x : Option β} {z : α ⊕ β} (h : sh_up x = some z) : ∃ r, x = some r ∧ z = .inr r := by
  cases x with
  | none => cases h
  | some r => exact ⟨r, rfl, (Option.some.inj h).symm⟩
theorem sh_ite {α : Type} {c : Prop} [Decidable c] {a b r : α} (h : (if c then a else b) = r) : (c ∧ a = r) ∨ (¬ c ∧ b = r) := by
  by_cases hc : c
  · rw [if_pos hc] at h; exact Or.inl ⟨hc, h⟩
  · rw [if_neg hc] at h; exact Or.inr ⟨hc, h⟩
theorem sh_gd {α : Type} {c : Prop} [Decidable c] {a : Option α} {r : α} (h : (if c then a else none) = some r) : c ∧ a = some r := by
  by_cases hc : c
  · rw [if_pos hc] at h; exact ⟨hc, h⟩
  · rw [if_neg hc] at h; cases h
/-- loops -/
def sh_it {σ ρ : Type} (f : σ → Option (σ ⊕ ρ)) : Nat → σ → Option ρ
  | 0, _ => none
  | n + 1, s => match f s with
    | none => none
    | some (.inl s2) => sh_it f n s2
    | some (.inr r) => some r
noncomputable def sh_while {σ ρ : Type} (f : σ → Option (σ ⊕ ρ)) (s : σ) : Option ρ := by
  classical
  exact if h : ∃ n r, sh_it f n s = some r then some h.choose_spec.choose else none
theorem sh_it_mono {σ ρ : Type} {f : σ → Option (σ ⊕ ρ)} : ∀ {n k : Nat} {s : σ} {r : ρ}, sh_it f n s = some r → sh_it f (n + k) s = some r := by
  intro n
  induction n with
  | zero => intro k s r h; cases h
  | succ n ih =>
    intro k s r h
    rw [show n + 1 + k = (n + k) + 1 by omega]
    unfold sh_it at h ⊢
    cases hf : f s with
    | none => rw [hf] at h; cases h
    | some q =>
      rw [hf] at h
      cases q with
      | inl s2 => exact ih h
      | inr r2 => exact h
theorem sh_it_det {σ ρ : Type} {f : σ → Option (σ ⊕ ρ)} {n k : Nat} {s : σ} {r q : ρ} (h1 : sh_it f n s = some r) (h2 : sh_it f k s = some q) : r = q := by
  have e1 := sh_it_mono (k := k) h1
  have e2 := sh_it_mono (k := n) h2
  rw [Nat.add_comm] at e2
  rw [e1] at e2
  exact Option.some.inj e2
theorem sh_while_some {σ ρ : Type} {f : σ → Option (σ ⊕ ρ)} {s : σ} {r : ρ} : sh_while f s = some r ↔ ∃ n, sh_it f n s = some r := by
  unfold sh_while
  constructor
  · intro h
    split at h
    · rename_i hx
      have h2 := hx.choose_spec.choose_spec
      rw [Option.some.inj h] at h2
      exact ⟨_, h2⟩
    · cases h
  · rintro ⟨n, hn⟩
    have hx : ∃ n r, sh_it f n s = some r := ⟨n, r, hn⟩
    rw [dif_pos hx]
    exact congrArg some (sh_it_det hx.choose_spec.choose_spec hn)
theorem sh_while_eq {σ ρ : Type} (f : σ → Option (σ ⊕ ρ)) (s : σ) : sh_while f s = match f s with
    | none => none
    | some (.inl s2) => sh_while f s2
    | some (.inr r) => some r := by
  apply Option.ext
  intro r
  rw [sh_while_some]
  cases hf : f s with
  | none =>
    constructor
    · rintro ⟨n, hn⟩
      cases n with
      | zero => cases hn
      | succ n => unfold sh_it at hn; rw [hf] at hn; cases hn
    · intro h; cases h
  | some q =>
    cases q with
    | inl s2 =>
      show _ ↔ sh_while f s2 = some r
      rw [sh_while_some]
      constructor
      · rintro ⟨n, hn⟩
        cases n with
        | zero => cases hn
        | succ n => unfold sh_it at hn; rw [hf] at hn; exact ⟨n, hn⟩
      · rintro ⟨n, hn⟩
        refine ⟨n + 1, ?_⟩
        unfold sh_it
        rw [hf]
        exact hn
    | inr r2 =>
      constructor
      · rintro ⟨n, hn⟩
        cases n with
        | zero => cases hn
        | succ n => unfold sh_it at hn; rw [hf] at hn; exact hn
      · intro h
        refine ⟨1, ?_⟩
        unfold sh_it
        rw [hf]
        exact h
def sh_el {σ ρ : Type} (P : σ → Prop) (Q : ρ → Prop) : σ ⊕ ρ → Prop
  | .inl s => P s
  | .inr r => Q r
theorem sh_while_lk {σ ρ : Type} {f : σ → Option (σ ⊕ ρ)} {P : σ → Prop} {Q : ρ → Prop} (hs : ∀ s z, f s = some z → sh_el P Q z → P s) {s : σ} {r : ρ} (h : sh_while f s = some r) (hr : Q r) : P s := by
  obtain ⟨n, hn⟩ := sh_while_some.mp h
  induction n generalizing s with
  | zero => cases hn
  | succ n ih =>
    unfold sh_it at hn
    cases hf : f s with
    | none => rw [hf] at hn; cases hn
    | some q =>
      rw [hf] at hn
      cases q with
      | inl s2 => exact hs s _ hf (ih (sh_while_some.mpr ⟨n, hn⟩) hn)
      | inr r2 =>
        have e : r2 = r := Option.some.inj hn
        subst e
        exact hs s _ hf hr
