/-! the lexer of the class: its parts -/
/-- two words are the same -/
def sp_sw (B : Nat → Int32) (a b : Nat × Nat) : Prop := a.2 = b.2 ∧ ∀ k, k < a.2 → B (a.1 + k) = B (b.1 + k)
theorem sp_sw.refl {B : Nat → Int32} (a : Nat × Nat) : sp_sw B a a := ⟨rfl, fun _ _ => rfl⟩
theorem sp_sw.symm {B : Nat → Int32} {a b : Nat × Nat} (h : sp_sw B a b) : sp_sw B b a := ⟨h.1.symm, fun k hk => (h.2 k (by rw [h.1]; exact hk)).symm⟩
theorem sp_sw.trans {B : Nat → Int32} {a b c : Nat × Nat} (h : sp_sw B a b) (g : sp_sw B b c) : sp_sw B a c := ⟨h.1.trans g.1, fun k hk => (h.2 k hk).trans (g.2 k (by rw [← h.1]; exact hk))⟩
/-- a loop that looks for the first i that is not so -/
theorem sh_wall {ρ : Type} {f : Int32 → Option (Int32 ⊕ ρ)} {P : Nat → Prop} {n : Nat} {a b : ρ} (hs : ∀ i, i < n → P i → f (Int32.ofNat i) = some (.inl (Int32.ofNat (i + 1)))) (hf : ∀ i, i < n → ¬ P i → f (Int32.ofNat i) = some (.inr a)) (he : f (Int32.ofNat n) = some (.inr b)) : ∀ k, k ≤ n → (∀ i, i < k → P i) → ((∀ i, i < n → P i) ∧ sh_while f (Int32.ofNat k) = some b) ∨ ((¬ ∀ i, i < n → P i) ∧ sh_while f (Int32.ofNat k) = some a) := by
  intro k hk
  obtain ⟨d, rfl⟩ : ∃ d, n = k + d := ⟨n - k, by omega⟩
  clear hk
  induction d generalizing k with
  | zero =>
    intro hp
    refine Or.inl ⟨hp, ?_⟩
    rw [sh_while_eq]
    rw [show k + 0 = k from rfl] at he
    rw [he]
  | succ d ih =>
    intro hp
    by_cases hpk : P k
    · have h2 : sh_while f (Int32.ofNat k) = sh_while f (Int32.ofNat (k + 1)) := by
        rw [sh_while_eq f (Int32.ofNat k), hs k (by omega) hpk]
      rw [h2]
      have e : k + 1 + d = k + (d + 1) := by omega
      have := ih (k + 1) (by rw [e]; exact hs) (by rw [e]; exact hf) (by rw [e]; exact he) (fun i hi => by
        by_cases hik : i = k
        · rw [hik]; exact hpk
        · exact hp i (by omega))
      rw [e] at this
      exact this
    · refine Or.inr ⟨fun hh => hpk (hh k (by omega)), ?_⟩
      rw [sh_while_eq, hf k (by omega) hpk]
/-- sameBytes -/
theorem sh_37 {n s t z : Nat} {m : sh_X} (h : sh_Bc n m) (hs : s < 50000) (ht : t < 50000) (hz : z < 50000) : ∃ b, sf_37 (Int32.ofNat s) (Int32.ofNat t) (Int32.ofNat z) m = some b ∧ (b = true ↔ ∀ k, k < z → sh_by (m.I 1) n (s + k) = sh_by (m.I 1) n (t + k)) := by
  unfold sf_37 sf_37_3
  have hb : ∀ i, i < z → ∃ x, x = sh_by (m.I 1) n (s + i) ∧ sf_26 (Int32.ofNat s + Int32.ofNat i) m = some x := fun i hi => ⟨_, rfl, by rw [sh_nIadd]; exact sh_26 h (by omega)⟩
  have hb2 : ∀ i, i < z → ∃ x, x = sh_by (m.I 1) n (t + i) ∧ sf_26 (Int32.ofNat t + Int32.ofNat i) m = some x := fun i hi => ⟨_, rfl, by rw [sh_nIadd]; exact sh_26 h (by omega)⟩
  have := sh_wall (f := fun q => sf_37_3s (Int32.ofNat s) (Int32.ofNat t) (Int32.ofNat z) q m) (P := fun i => sh_by (m.I 1) n (s + i) = sh_by (m.I 1) n (t + i)) (n := z) (a := false) (b := true) (fun i hi hp => by
    obtain ⟨x, hx, e1⟩ := hb i hi
    obtain ⟨y, hy, e2⟩ := hb2 i hi
    show sf_37_3s _ _ _ _ m = _
    unfold sf_37_3s
    rw [if_pos ((sh_nIlt (by omega) (by omega)).mpr hi), e1, sh_bc_some, e2, sh_bc_some, if_pos (by rw [hx, hy]; exact hp), sh_nI1]) (fun i hi hp => by
    obtain ⟨x, hx, e1⟩ := hb i hi
    obtain ⟨y, hy, e2⟩ := hb2 i hi
    show sf_37_3s _ _ _ _ m = _
    unfold sf_37_3s
    rw [if_pos ((sh_nIlt (by omega) (by omega)).mpr hi), e1, sh_bc_some, e2, sh_bc_some, if_neg (by rw [hx, hy]; exact hp)]) (by
    show sf_37_3s _ _ _ _ m = _
    unfold sf_37_3s
    rw [if_neg (fun q => absurd ((sh_nIlt (by omega) (by omega)).mp q) (by omega))]) 0 (by omega) (fun i hi => absurd hi (by omega))
  rcases this with ⟨h1, h2⟩ | ⟨h1, h2⟩
  · exact ⟨true, h2, ⟨fun _ => h1, fun _ => rfl⟩⟩
  · exact ⟨false, h2, ⟨fun q => (by cases q), fun q => absurd q h1⟩⟩
/-- a word is the text j -/
def sh_eqw (B : Nat → Int32) (s z : Nat) (l : List Nat) : Bool := decide (z = l.length) && (List.range z).all (fun k => decide (B (s + k) = Int32.ofNat (l.getD k 0)))
theorem sh_eqw_iff {B : Nat → Int32} {s z : Nat} {l : List Nat} : sh_eqw B s z l = true ↔ z = l.length ∧ ∀ k, k < z → B (s + k) = Int32.ofNat (l.getD k 0) := by
  unfold sh_eqw
  rw [Bool.and_eq_true, decide_eq_true_eq, List.all_eq_true]
  constructor
  · rintro ⟨h1, h2⟩
    exact ⟨h1, fun k hk => by simpa using h2 k (List.mem_range.mpr hk)⟩
  · rintro ⟨h1, h2⟩
    exact ⟨h1, fun k hk => by simpa using h2 k (List.mem_range.mp hk)⟩
/-- isReserved -/
theorem sh_35 {n o s z : Nat} {m : sh_X} (h : sh_Bc n m) (hs : s < 50000) (hz : z < 50000) (ho : o + z < 57) : ∃ b, sf_35 (Int32.ofNat o) (Int32.ofNat s) (Int32.ofNat z) m = some b ∧ (b = true ↔ ∀ k, k < z → sh_by (m.I 1) n (s + k) = Int32.ofNat ((sh_txs 0).getD (o + k) 0)) := by
  unfold sf_35 sf_35_3
  have e57 : sh_txn 0 = 57 := rfl
  have hc : ∀ i, i < z → sh_txc 0 (Int32.ofNat o + Int32.ofNat i) = Int32.ofNat ((sh_txs 0).getD (o + i) 0) := by
    intro i hi
    unfold sh_txc
    rw [sh_nIadd, sh_nIc (by omega)]
  have hl : ∀ i, i < z → (Int32.ofNat o + Int32.ofNat i) < sh_txl 0 := by
    intro i hi
    unfold sh_txl
    rw [sh_nIadd, e57]
    exact (sh_nIlt (by omega) (by omega)).mpr (by omega)
  have hk : ∀ i, i < z → sh_okb (Int32.ofNat o + Int32.ofNat i) (sh_txn 0) = true := by
    intro i hi
    rw [sh_nIadd, e57]
    exact (sh_okn (by omega)).mpr (by omega)
  have hb : ∀ i, i < z → sf_26 (Int32.ofNat s + Int32.ofNat i) m = some (sh_by (m.I 1) n (s + i)) := fun i hi => by rw [sh_nIadd]; exact sh_26 h (by omega)
  have := sh_wall (f := fun q => sf_35_3s (Int32.ofNat o) (Int32.ofNat s) (Int32.ofNat z) q m) (P := fun i => sh_by (m.I 1) n (s + i) = Int32.ofNat ((sh_txs 0).getD (o + i) 0)) (n := z) (a := false) (b := true) (fun i hi hp => by
    show sf_35_3s _ _ _ _ m = _
    unfold sf_35_3s
    rw [if_pos ((sh_nIlt (by omega) (by omega)).mpr hi), if_pos (hl i hi), if_pos (hk i hi), hb i hi, sh_bc_some, hc i hi, if_pos hp.symm, sh_nI1]) (fun i hi hp => by
    show sf_35_3s _ _ _ _ m = _
    unfold sf_35_3s
    rw [if_pos ((sh_nIlt (by omega) (by omega)).mpr hi), if_pos (hl i hi), if_pos (hk i hi), hb i hi, sh_bc_some, hc i hi, if_neg (fun q => hp q.symm)]) (by
    show sf_35_3s _ _ _ _ m = _
    unfold sf_35_3s
    rw [if_neg (fun q => absurd ((sh_nIlt (by omega) (by omega)).mp q) (by omega))]) 0 (by omega) (fun i hi => absurd hi (by omega))
  rcases this with ⟨h1, h2⟩ | ⟨h1, h2⟩
  · exact ⟨true, h2, ⟨fun _ => h1, fun _ => rfl⟩⟩
  · exact ⟨false, h2, ⟨fun q => (by cases q), fun q => absurd q h1⟩⟩
