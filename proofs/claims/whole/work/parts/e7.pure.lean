/-! EVALUATION: rows: which type they are of; wires are copied -/
/-- the first one, from x on, of d that is not loose -/
def se_fl (K : Nat → Nat) : Nat → Nat → Option Nat
  | 0, _ => none
  | d + 1, x => if K x = 3 then se_fl K d (x + 1) else some x
theorem se_fl_some {K : Nat → Nat} : ∀ {d x y : Nat}, se_fl K d x = some y → x ≤ y ∧ y < x + d ∧ ¬ K y = 3 := by
  intro d
  induction d with
  | zero => intro x y h; cases h
  | succ d ih =>
    intro x y h
    unfold se_fl at h
    by_cases q : K x = 3
    · rw [if_pos q] at h
      have := ih h
      exact ⟨by omega, by omega, this.2.2⟩
    · rw [if_neg q] at h
      cases h
      exact ⟨by omega, by omega, q⟩
theorem se_fl_none {K : Nat → Nat} : ∀ {d x : Nat}, se_fl K d x = none → ∀ y, x ≤ y → y < x + d → K y = 3 := by
  intro d
  induction d with
  | zero => intro x h y h1 h2; omega
  | succ d ih =>
    intro x h y h1 h2
    unfold se_fl at h
    by_cases q : K x = 3
    · rw [if_pos q] at h
      by_cases e : y = x
      · rw [e]; exact q
      · exact ih h y (by omega) (by omega)
    · rw [if_neg q] at h; cases h
/-- the type of a row, and where the model has it from -/
def se_ft (K B N1 : Nat → Nat) (o : Option Nat) : Nat × Nat × Nat := match o with
  | none => (2, 32, 0)
  | some x => (K x, B x, N1 x)
def se_lk (li : Nat) (o : Option Nat) : Int32 := match o with
  | none => -1
  | some x => Int32.ofNat (li + x)
def se_tt (f : Nat × Nat × Nat) : Int32 := Int32.ofNat (sh_te f.1 f.2.1 f.2.2)
section
variable {N : Nat} {K : Nat → Int32} {P V : Nat → Nat} {A C : Nat → Nat → Int32} {p : Nat → Bool} {gs : sh_gL} {u z q B fr cl sp cw ifs cd kn : Nat} {mc mm : sh_X} {n li t0 e : Nat} {K1 B1 N1 T1 R1 : Nat → Nat} {V1 : Nat → Nat → Int64}
theorem se_D.ty {s t k b n : Nat} {v : Nat → Int64} (h : se_D p mc gs u s t k b n v) (hk : ¬ k = 3) : se_T p mc gs u s k b n v := by
  rcases h with ⟨r, _, _⟩ | r
  · exact absurd r hk
  · exact r
theorem se_ft_ty (hD : ∀ x, x < n → se_D p mc gs u (z + x) (T1 x) (K1 x) (B1 x) (N1 x) (V1 x)) {d x : Nat} (hx : x + d ≤ n) : sh_typ (se_ft K1 B1 N1 (se_fl K1 d x)).1 (se_ft K1 B1 N1 (se_fl K1 d x)).2.1 (se_ft K1 B1 N1 (se_fl K1 d x)).2.2 := by
  cases h : se_fl K1 d x with
  | none => exact ⟨Or.inr (Or.inr ⟨rfl, by show 2 ≤ 32; omega, by show 32 ≤ 64; omega⟩), by show 0 ≤ 32; omega⟩
  | some y =>
    have := se_fl_some h
    exact ((hD y (by omega)).ty this.2.2).1
/-- the class looks for the type, from the last one down -/
theorem se_r1c (h : se_c N K P V C gs u (z + n) q B fr cl sp cw ifs cd kn mc) (hz : z + n ≤ 2048) (hD : ∀ x, x < n → se_D p mc gs u (z + x) (T1 x) (K1 x) (B1 x) (N1 x) (V1 x)) : sf_194 (Int32.ofNat t0) (Int32.ofNat n) mc = sf_194_85 (Int32.ofNat t0) (Int32.ofNat n) (Int32.ofNat z) (se_tt (se_ft K1 B1 N1 (se_fl K1 n 0))) (decide (n ≤ 32 ∧ (se_ft K1 B1 N1 (se_fl K1 n 0)).2.2 = 0)) mc := by
  have main : ∀ x, x ≤ n → sf_194_26 (Int32.ofNat t0) (Int32.ofNat n) (Int32.ofNat z) (se_tt (se_ft K1 B1 N1 (se_fl K1 (n - x) x))) (Int32.ofNat (z + x) - 1) mc = sf_194_85 (Int32.ofNat t0) (Int32.ofNat n) (Int32.ofNat z) (se_tt (se_ft K1 B1 N1 (se_fl K1 n 0))) (decide (n ≤ 32 ∧ (se_ft K1 B1 N1 (se_fl K1 n 0)).2.2 = 0)) mc := by
    intro x
    induction x with
    | zero =>
      intro _
      have ty := se_ft_ty hD (d := n) (x := 0) (by omega)
      have lt : Int32.ofNat (z + 0) - 1 < Int32.ofNat z := by
        by_cases h0 : z = 0
        · rw [h0]; decide
        · rw [Nat.add_zero, show (1 : Int32) = Int32.ofNat 1 from rfl, sh_nIsub (by omega)]
          exact (sh_nIlt (by omega) (by omega)).mpr (by omega)
      rw [Nat.sub_zero]
      unfold sf_194_26
      rw [sh_while_eq]
      have e1 : sf_194_26s (Int32.ofNat t0) (Int32.ofNat n) (Int32.ofNat z) (se_tt (se_ft K1 B1 N1 (se_fl K1 n 0))) (Int32.ofNat (z + 0) - 1) mc = sh_up (sf_194_85 (Int32.ofNat t0) (Int32.ofNat n) (Int32.ofNat z) (se_tt (se_ft K1 B1 N1 (se_fl K1 n 0))) (decide (n ≤ 32 ∧ (se_ft K1 B1 N1 (se_fl K1 n 0)).2.2 = 0)) mc) := by
        unfold sf_194_26s sf_194_84
        have e123 : sf_123 (se_tt (se_ft K1 B1 N1 (se_fl K1 n 0))) = decide (0 < (se_ft K1 B1 N1 (se_fl K1 n 0)).2.2) := sh_123 ty
        rw [if_pos lt, e123]
        by_cases q : 32 < n
        · rw [if_pos (show 32 < Int32.ofNat n from (sh_nIlt (a := 32) (by omega) (by omega)).mpr q), decide_eq_false (by omega : ¬ (n ≤ 32 ∧ _))]
        · rw [if_neg (show ¬ 32 < Int32.ofNat n from fun r => q ((sh_nIlt (a := 32) (by omega) (by omega)).mp r))]
          by_cases q2 : 0 < (se_ft K1 B1 N1 (se_fl K1 n 0)).2.2
          · rw [if_pos (decide_eq_true q2), decide_eq_false (by omega : ¬ (n ≤ 32 ∧ _))]
          · rw [if_neg (by rw [decide_eq_false q2]; decide), decide_eq_true (⟨by omega, by omega⟩ : n ≤ 32 ∧ _)]
      rw [e1]
      cases sf_194_85 (Int32.ofNat t0) (Int32.ofNat n) (Int32.ofNat z) (se_tt (se_ft K1 B1 N1 (se_fl K1 n 0))) (decide (n ≤ 32 ∧ (se_ft K1 B1 N1 (se_fl K1 n 0)).2.2 = 0)) mc with
      | none => rfl
      | some r => rfl
    | succ x ih =>
      intro hx
      have e0 : Int32.ofNat (z + (x + 1)) - 1 = Int32.ofNat (z + x) := sh_nIsub (b := 1) (by omega)
      have en : n - x = (n - (x + 1)) + 1 := by omega
      rw [← ih (by omega), e0]
      have s1 := (se_slot h.cz (by omega : z + x < z + n) hz).1
      have fe : se_ft K1 B1 N1 (se_fl K1 (n - x) x) = if K1 x = 3 then se_ft K1 B1 N1 (se_fl K1 (n - (x + 1)) (x + 1)) else (K1 x, B1 x, N1 x) := by
        rw [en]
        show se_ft K1 B1 N1 (if K1 x = 3 then se_fl K1 (n - (x + 1)) (x + 1) else some x) = _
        split <;> rfl
      have ge : ¬ Int32.ofNat (z + x) < Int32.ofNat z := fun r => by have := (sh_nIlt (by omega) (by omega)).mp r; omega
      have st : sf_194_26s (Int32.ofNat t0) (Int32.ofNat n) (Int32.ofNat z) (se_tt (se_ft K1 B1 N1 (se_fl K1 (n - (x + 1)) (x + 1)))) (Int32.ofNat (z + x)) mc = some (.inl (se_tt (se_ft K1 B1 N1 (se_fl K1 (n - x) x)), Int32.ofNat (z + x) - 1, mc)) := by
        unfold sf_194_26s sf_194_58
        rw [if_neg ge, s1, sh_bc_some, sh_bc_some, fe, Int32.sub_eq_add_neg]
        by_cases q : K1 x = 3
        · have : mc.I 49 (z + x) = 0 := by
            rcases (hD x (by omega)).lo with ⟨_, _, r⟩ | ⟨r, _⟩
            · exact r.1
            · omega
          rw [if_pos this, if_pos q]
        · have := ((hD x (by omega)).ty q)
          rw [this.2.1, if_neg (sh_te_0 this.1), if_neg q]
          rfl
      unfold sf_194_26
      rw [sh_while_eq, st]
  have := main n (Nat.le_refl _)
  rw [Nat.sub_self] at this
  rw [← this]
  unfold sf_194
  rw [h.cz, sh_nIsub (by omega), show z + n - n = z by omega]
  rfl
/-- the model looks for it likewise -/
theorem se_r1m (h79 : mm.I 66 79 = Int32.ofNat (li + n)) (hl2 : li + n < 2000) (hK : ∀ x, x < n → K1 x ≤ 3 ∧ mm.I 112 (li + x) = Int32.ofNat (K1 x) ∧ (K1 x ≠ 3 → mm.I 113 (li + x) = Int32.ofNat (B1 x)) ∧ mm.I 114 (li + x) = Int32.ofNat (N1 x)) : sf_312 (Int32.ofNat e) (Int32.ofNat li) mm = sf_312_88 (Int32.ofNat e) (Int32.ofNat li) (Int32.ofNat (se_ft K1 B1 N1 (se_fl K1 n 0)).1) (Int32.ofNat (se_ft K1 B1 N1 (se_fl K1 n 0)).2.1) (Int32.ofNat (se_ft K1 B1 N1 (se_fl K1 n 0)).2.2) (Int32.ofNat li) mm := by
  have main : ∀ x, x ≤ n → sf_312_10 (Int32.ofNat e) (Int32.ofNat li) (se_lk li (se_fl K1 (n - x) x)) (Int32.ofNat (li + x) - 1) mm = sf_312_88 (Int32.ofNat e) (Int32.ofNat li) (Int32.ofNat (se_ft K1 B1 N1 (se_fl K1 n 0)).1) (Int32.ofNat (se_ft K1 B1 N1 (se_fl K1 n 0)).2.1) (Int32.ofNat (se_ft K1 B1 N1 (se_fl K1 n 0)).2.2) (Int32.ofNat li) mm := by
    intro x
    induction x with
    | zero =>
      intro _
      have lt : Int32.ofNat (li + 0) - 1 < Int32.ofNat li := by
        by_cases h0 : li = 0
        · rw [h0]; decide
        · rw [Nat.add_zero, show (1 : Int32) = Int32.ofNat 1 from rfl, sh_nIsub (by omega)]
          exact (sh_nIlt (by omega) (by omega)).mpr (by omega)
      rw [Nat.sub_zero]
      unfold sf_312_10
      rw [sh_while_eq]
      have e1 : sf_312_10s (Int32.ofNat e) (Int32.ofNat li) (se_lk li (se_fl K1 n 0)) (Int32.ofNat (li + 0) - 1) mm = sh_up (sf_312_88 (Int32.ofNat e) (Int32.ofNat li) (Int32.ofNat (se_ft K1 B1 N1 (se_fl K1 n 0)).1) (Int32.ofNat (se_ft K1 B1 N1 (se_fl K1 n 0)).2.1) (Int32.ofNat (se_ft K1 B1 N1 (se_fl K1 n 0)).2.2) (Int32.ofNat li) mm) := by
        unfold sf_312_10s
        rw [if_pos lt]
        cases hf : se_fl K1 n 0 with
        | none =>
          show (if (-1 : Int32) < 0 then _ else _) = _
          rw [if_pos (by decide)]
          unfold sf_312_50 sf_312_67 sf_312_83
          show sh_up (if (-1 : Int32) < 0 then (if (-1 : Int32) < 0 then _ else _) else _) = _
          rw [if_pos (by decide), if_pos (by decide)]
          rfl
        | some y =>
          obtain ⟨y1, y2, y3⟩ := se_fl_some hf
          obtain ⟨k0, k1, k2, k3⟩ := hK y (by omega)
          have o : sh_okb (Int32.ofNat (li + y)) 2000 = true := sh_okn' (by omega) (by omega)
          show (if Int32.ofNat (li + y) < 0 then _ else if sh_okb (Int32.ofNat (li + y)) 2000 = true then sh_up (sf_312_50 _ _ (Int32.ofNat (li + y)) _ _) else _) = _
          rw [if_neg (sh_nI0 (by omega)), if_pos o, show se_lk li (some y) = Int32.ofNat (li + y) from rfl, sh_nIc (by omega), k1]
          unfold sf_312_50 sf_312_67 sf_312_83
          rw [if_neg (sh_nI0 (by omega)), if_pos o, sh_nIc (by omega), k2 y3, if_neg (sh_nI0 (by omega)), if_pos o, k3]
          rfl
      rw [e1]
      cases sf_312_88 (Int32.ofNat e) (Int32.ofNat li) (Int32.ofNat (se_ft K1 B1 N1 (se_fl K1 n 0)).1) (Int32.ofNat (se_ft K1 B1 N1 (se_fl K1 n 0)).2.1) (Int32.ofNat (se_ft K1 B1 N1 (se_fl K1 n 0)).2.2) (Int32.ofNat li) mm with
      | none => rfl
      | some r => rfl
    | succ x ih =>
      intro hx
      have e0 : Int32.ofNat (li + (x + 1)) - 1 = Int32.ofNat (li + x) := sh_nIsub (b := 1) (by omega)
      have en : n - x = (n - (x + 1)) + 1 := by omega
      rw [← ih (by omega), e0]
      obtain ⟨k0, k1, k2, k3⟩ := hK x (by omega)
      have fe : se_lk li (se_fl K1 (n - x) x) = if K1 x = 3 then se_lk li (se_fl K1 (n - (x + 1)) (x + 1)) else Int32.ofNat (li + x) := by
        rw [en]
        show se_lk li (if K1 x = 3 then se_fl K1 (n - (x + 1)) (x + 1) else some x) = _
        split <;> rfl
      have ge : ¬ Int32.ofNat (li + x) < Int32.ofNat li := fun r => by have := (sh_nIlt (by omega) (by omega)).mp r; omega
      have k33 : Int32.ofNat (K1 x) = 3 ↔ K1 x = 3 := sh_nIeq (b := 3) (by omega) (by omega)
      have st : sf_312_10s (Int32.ofNat e) (Int32.ofNat li) (se_lk li (se_fl K1 (n - (x + 1)) (x + 1))) (Int32.ofNat (li + x)) mm = some (.inl (se_lk li (se_fl K1 (n - x) x), Int32.ofNat (li + x) - 1, mm)) := by
        unfold sf_312_10s sf_312_30
        rw [if_neg ge, if_pos (sh_okn' (by omega) (by omega)), sh_nIc (by omega), k1, fe, Int32.sub_eq_add_neg]
        by_cases q : K1 x = 3
        · rw [if_pos (k33.mpr q), if_pos q]
        · rw [if_neg (fun r => q (k33.mp r)), if_neg q]
      unfold sf_312_10
      rw [sh_while_eq, st]
  have := main n (Nat.le_refl _)
  rw [Nat.sub_self] at this
  rw [← this]
  unfold sf_312
  rw [h79]
  rfl
/-- b wires are copied behind i that stand -/
theorem se_137 {NB i b v : Nat} {m0 m : sh_X} {FF G : Nat → (Nat → Bool) → Bool} (hR : sh_RI 0 FF gs u NB m0 i [] m) (hu : 2 ≤ u) (hb : u + NB ≤ 8192) (hx : sh_val m0 gs u v b G) (hF : ∀ j, j < b → ∀ p, FF (i + j) p = G j p) (hi : i + b ≤ NB) : ∃ m2, sf_137 (Int32.ofNat v) (Int32.ofNat (u + i)) (Int32.ofNat b) m = some ((), m2) ∧ sh_RI 0 FF gs u NB m0 (i + b) [] m2 := by
  have hv := hx.1
  have main : ∀ d x m, x + d = b → sh_RI 0 FF gs u NB m0 (i + x) [] m → ∃ m2, sf_137_3 (Int32.ofNat v) (Int32.ofNat (u + i)) (Int32.ofNat b) (Int32.ofNat x) m = some ((), m2) ∧ sh_RI 0 FF gs u NB m0 (i + b) [] m2 := by
    intro d
    induction d with
    | zero =>
      intro x m hx hR
      have : x = b := by omega
      subst this
      refine ⟨m, ?_, hR⟩
      unfold sf_137_3
      rw [sh_while_eq]
      have e1 : sf_137_3s (Int32.ofNat v) (Int32.ofNat (u + i)) (Int32.ofNat x) (Int32.ofNat x) m = some (.inr ((), m)) := by
        unfold sf_137_3s
        rw [if_neg (sh_nlt0 x)]
      rw [e1]
    | succ d ih =>
      intro x m hxd hR
      obtain ⟨y, b1, b2, b3⟩ := hR.bit (hx.2 x (by omega)) (by omega)
      obtain ⟨m4, d1, d2⟩ := hR.set hu (by omega) b2 (fun p => (b3 p).trans (hF x (by omega) p).symm)
      obtain ⟨m2, g1, g2⟩ := ih (x + 1) m4 (by omega) d2
      refine ⟨m2, ?_, g2⟩
      rw [← g1]
      unfold sf_137_3
      rw [sh_while_eq]
      have e1 : sf_137_3s (Int32.ofNat v) (Int32.ofNat (u + i)) (Int32.ofNat b) (Int32.ofNat x) m = some (.inl (Int32.ofNat (x + 1), m4)) := by
        unfold sf_137_3s
        rw [if_pos ((sh_nIlt (by omega) (by omega)).mpr (by omega)), sh_nIadd, b1, sh_bc_some, sh_nIadd, Nat.add_assoc, d1, sh_bn_some, sh_nI1]
      rw [e1]
  exact main b 0 m (by omega) hR
end
