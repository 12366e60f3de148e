/-! HEADS: the FNs' names and types, side by side -/
/-- what the heads of a FN are -/
def sh_Hd0 (N : Nat) (K : Nat → Int32) (A C : Nat → Nat → Int32) (f n nt rt : Nat) (t : Nat → Nat) : Prop := (A 79 f = Int32.ofNat nt) ∧ (C 29 f = Int32.ofNat nt) ∧ (K nt = 1) ∧ (nt ≤ N) ∧ (A 80 f = Int32.ofNat n) ∧ (C 33 f = Int32.ofNat n) ∧ (n ≤ 8) ∧ (sh_Pr K A C f n t) ∧ (∀ k, k < n → t k + 3 ≤ N) ∧ (C 31 f = Int32.ofNat rt) ∧ (sh_Ty K (A 84 f) (A 85 f) rt) ∧ (rt + 2 ≤ N)
theorem sh_Hd0.a79 {N : Nat} {K : Nat → Int32} {A C : Nat → Nat → Int32} {f n nt rt : Nat} {t : Nat → Nat} (h : sh_Hd0 N K A C f n nt rt t) : A 79 f = Int32.ofNat nt := h.1
theorem sh_Hd0.c29 {N : Nat} {K : Nat → Int32} {A C : Nat → Nat → Int32} {f n nt rt : Nat} {t : Nat → Nat} (h : sh_Hd0 N K A C f n nt rt t) : C 29 f = Int32.ofNat nt := h.2.1
theorem sh_Hd0.k1 {N : Nat} {K : Nat → Int32} {A C : Nat → Nat → Int32} {f n nt rt : Nat} {t : Nat → Nat} (h : sh_Hd0 N K A C f n nt rt t) : K nt = 1 := h.2.2.1
theorem sh_Hd0.nN {N : Nat} {K : Nat → Int32} {A C : Nat → Nat → Int32} {f n nt rt : Nat} {t : Nat → Nat} (h : sh_Hd0 N K A C f n nt rt t) : nt ≤ N := h.2.2.2.1
theorem sh_Hd0.a80 {N : Nat} {K : Nat → Int32} {A C : Nat → Nat → Int32} {f n nt rt : Nat} {t : Nat → Nat} (h : sh_Hd0 N K A C f n nt rt t) : A 80 f = Int32.ofNat n := h.2.2.2.2.1
theorem sh_Hd0.c33 {N : Nat} {K : Nat → Int32} {A C : Nat → Nat → Int32} {f n nt rt : Nat} {t : Nat → Nat} (h : sh_Hd0 N K A C f n nt rt t) : C 33 f = Int32.ofNat n := h.2.2.2.2.2.1
theorem sh_Hd0.n8 {N : Nat} {K : Nat → Int32} {A C : Nat → Nat → Int32} {f n nt rt : Nat} {t : Nat → Nat} (h : sh_Hd0 N K A C f n nt rt t) : n ≤ 8 := h.2.2.2.2.2.2.1
theorem sh_Hd0.pr {N : Nat} {K : Nat → Int32} {A C : Nat → Nat → Int32} {f n nt rt : Nat} {t : Nat → Nat} (h : sh_Hd0 N K A C f n nt rt t) : sh_Pr K A C f n t := h.2.2.2.2.2.2.2.1
theorem sh_Hd0.tN {N : Nat} {K : Nat → Int32} {A C : Nat → Nat → Int32} {f n nt rt : Nat} {t : Nat → Nat} (h : sh_Hd0 N K A C f n nt rt t) : ∀ k, k < n → t k + 3 ≤ N := h.2.2.2.2.2.2.2.2.1
theorem sh_Hd0.c31 {N : Nat} {K : Nat → Int32} {A C : Nat → Nat → Int32} {f n nt rt : Nat} {t : Nat → Nat} (h : sh_Hd0 N K A C f n nt rt t) : C 31 f = Int32.ofNat rt := h.2.2.2.2.2.2.2.2.2.1
theorem sh_Hd0.ty {N : Nat} {K : Nat → Int32} {A C : Nat → Nat → Int32} {f n nt rt : Nat} {t : Nat → Nat} (h : sh_Hd0 N K A C f n nt rt t) : sh_Ty K (A 84 f) (A 85 f) rt := h.2.2.2.2.2.2.2.2.2.2.1
theorem sh_Hd0.rN {N : Nat} {K : Nat → Int32} {A C : Nat → Nat → Int32} {f n nt rt : Nat} {t : Nat → Nat} (h : sh_Hd0 N K A C f n nt rt t) : rt + 2 ≤ N := h.2.2.2.2.2.2.2.2.2.2.2
theorem sh_Hd0.mk {N : Nat} {K : Nat → Int32} {A C : Nat → Nat → Int32} {f n nt rt : Nat} {t : Nat → Nat} (a79 : A 79 f = Int32.ofNat nt) (c29 : C 29 f = Int32.ofNat nt) (k1 : K nt = 1) (nN : nt ≤ N) (a80 : A 80 f = Int32.ofNat n) (c33 : C 33 f = Int32.ofNat n) (n8 : n ≤ 8) (pr : sh_Pr K A C f n t) (tN : ∀ k, k < n → t k + 3 ≤ N) (c31 : C 31 f = Int32.ofNat rt) (ty : sh_Ty K (A 84 f) (A 85 f) rt) (rN : rt + 2 ≤ N) : sh_Hd0 N K A C f n nt rt t := ⟨a79, c29, k1, nN, a80, c33, n8, pr, tN, c31, ty, rN⟩
/-- the type that stands at t; is it one? -/
def sh_tv (K : Nat → Int32) (V : Nat → Nat) (t : Nat) : Nat := V t + (if K (t + 1) = 91 then 512 * V (t + 2) else 0)
def sh_tw (K : Nat → Int32) (V : Nat → Nat) (t : Nat) : Prop := K (t + 1) = 91 → 1 ≤ V (t + 2) ∧ V (t + 2) ≤ 32
def sh_Hc (m m2 : sh_X) : Prop := (m2.T = m.T) ∧ (m2.J = m.J) ∧ (m2.s = m.s) ∧ (∀ x, x ≠ 32 → x ≠ 35 → m2.I x = m.I x)
theorem sh_Hc.T {m m2 : sh_X} (h : sh_Hc m m2) : m2.T = m.T := h.1
theorem sh_Hc.J {m m2 : sh_X} (h : sh_Hc m m2) : m2.J = m.J := h.2.1
theorem sh_Hc.s {m m2 : sh_X} (h : sh_Hc m m2) : m2.s = m.s := h.2.2.1
theorem sh_Hc.I {m m2 : sh_X} (h : sh_Hc m m2) : ∀ x, x ≠ 32 → x ≠ 35 → m2.I x = m.I x := h.2.2.2
theorem sh_Hc.mk {m m2 : sh_X} (T : m2.T = m.T) (J : m2.J = m.J) (s : m2.s = m.s) (I : ∀ x, x ≠ 32 → x ≠ 35 → m2.I x = m.I x) : sh_Hc m m2 := ⟨T, J, s, I⟩
theorem sh_Hc.refl (m : sh_X) : sh_Hc m m := sh_Hc.mk rfl rfl rfl (fun _ _ _ => rfl)
theorem sh_Hc.trans {m m2 m3 : sh_X} (h : sh_Hc m m2) (g : sh_Hc m2 m3) : sh_Hc m m3 := sh_Hc.mk (g.T.trans h.T) (g.J.trans h.J) (g.s.trans h.s) (fun x a b => (g.I x a b).trans (h.I x a b))
section
variable {N : Nat} {K : Nat → Int32} {P V : Nat → Nat}
theorem sh_Hc.wc {m m2 : sh_X} (h : sh_Hc m m2) (w : sh_Wc N K P V m) : sh_Wc N K P V m2 := w.same (by rw [h.I 2 (by omega) (by omega)]) (h.I 3 (by omega) (by omega)) (h.I 4 (by omega) (by omega)) (by rw [h.J])
theorem sh_Hc.wr {m : sh_X} {x i : Nat} {v : Int32} (hx : x = 32 ∨ x = 35) : sh_Hc m (m.T, sh_u2 m.I x i v, m.J, m.s) := sh_Hc.mk rfl rfl rfl (fun z h1 h2 => by simp only [sh_X.I, sh_u2_cell (show z ≠ x by omega)])
theorem sh_83 {m : sh_X} {i : Nat} (hT : sh_Txt N K P V) (h : sh_Wc N K P V m) (hi : i ≤ N) (hk : K i = 1) : sf_83 (Int32.ofNat i) m = some (Int32.ofNat (V i)) := by
  unfold sf_83
  rw [sh_66 h hT.N4 hi (Or.inl hk), sh_bc_some, sh_l32 (by have := hT.V1 i hi hk; omega)]
/-- typeAt -/
theorem sh_86 {m : sh_X} {t : Nat} (hT : sh_Txt N K P V) (h : sh_Wc N K P V m) (ht : t + 2 ≤ N) (hk : K t = 3) (h2 : K (t + 1) = 91 → K (t + 2) = 2) (hl : m.T.length < 1000000) : (sh_tw K V t ∧ sf_86 (Int32.ofNat t) m = some (some (Int32.ofNat (sh_tv K V t)), m)) ∨ (¬ sh_tw K V t ∧ sf_86 (Int32.ofNat t) m = some (none, sh_flt 4 (Int32.ofNat (P (t + 2))) m)) := by
  have n4 := hT.N4
  have v3 := hT.V3 t (by omega) hk
  have e2 : Int32.ofNat t + 2 = Int32.ofNat (t + 2) := by rw [show (2 : Int32) = Int32.ofNat 2 from rfl, sh_nIadd]
  unfold sf_86
  rw [sh_66 h n4 (by omega) (Or.inr (Or.inr hk)), sh_bc_some, sh_nI1, sh_46 h n4 (by omega), sh_bc_some, sh_l32 (by omega)]
  by_cases h91 : K (t + 1) = 91
  · rw [if_pos h91, e2, sh_66 h n4 (by omega) (Or.inr (Or.inl (h2 h91))), sh_bc_some]
    have v2 := hT.V2 (t + 2) (by omega) (h2 h91)
    have c1 : Int64.ofNat (V (t + 2)) < 1 ↔ V (t + 2) < 1 := by
      rw [Int64.lt_iff_toInt_lt, sh_i64n (by omega)]
      show ((V (t + 2) : Nat) : Int) < 1 ↔ _
      omega
    have c32 : 32 < Int64.ofNat (V (t + 2)) ↔ 32 < V (t + 2) := by
      rw [Int64.lt_iff_toInt_lt, sh_i64n (by omega)]
      show (32 : Int) < ((V (t + 2) : Nat) : Int) ↔ _
      omega
    unfold sf_86_52 sf_86_63
    rw [e2, sh_50 h n4 (by omega) hl]
    by_cases hg : 1 ≤ V (t + 2) ∧ V (t + 2) ≤ 32
    · left
      rw [if_neg (fun q => absurd (c1.mp q) (by omega)), if_neg (fun q => absurd (c32.mp q) (by omega)), sh_l32 (by omega)]
      refine ⟨fun _ => hg, ?_⟩
      rw [show (512 : Int32) = Int32.ofNat 512 from rfl, sh_nImul, sh_nIadd]
      unfold sh_tv
      rw [if_pos h91]
    · right
      refine ⟨fun q => hg (q h91), ?_⟩
      by_cases h1 : V (t + 2) < 1
      · rw [if_pos (c1.mpr h1)]; rfl
      · rw [if_neg (fun q => h1 (c1.mp q)), if_pos (c32.mpr (by omega))]; rfl
  · left
    rw [if_neg h91]
    refine ⟨fun q => absurd q h91, ?_⟩
    unfold sh_tv
    rw [if_neg h91, Nat.add_zero]
/-- isRow -/
theorem sh_280 {m : sh_X} {t : Nat} {ty row : Int32} (hT : sh_Txt N K P V) (h : sh_We N K P V m) (ht : t + 2 ≤ N) (hy : sh_Ty K ty row t) : (sh_tw K V t ∧ sf_280 row m = some (true, m)) ∨ (¬ sh_tw K V t ∧ sf_280 row m = some (false, sh_mft 4 (Int32.ofNat (P (t + 2))) m)) := by
  have n4 := hT.N4
  obtain ⟨h3, _, hr⟩ := hy
  unfold sf_280 sf_280_40 sf_280_26
  rcases hr with ⟨h91, hr⟩ | ⟨h91, h2, hr⟩
  · left
    rw [hr, if_pos (by decide)]
    exact ⟨fun q => absurd q h91, rfl⟩
  · have v2 := hT.V2 (t + 2) (by omega) h2
    have c1 : Int64.ofNat (V (t + 2)) < 1 ↔ V (t + 2) < 1 := by
      rw [Int64.lt_iff_toInt_lt, sh_i64n (by omega)]
      show ((V (t + 2) : Nat) : Int) < 1 ↔ _
      omega
    have c32 : 32 < Int64.ofNat (V (t + 2)) ↔ 32 < V (t + 2) := by
      rw [Int64.lt_iff_toInt_lt, sh_i64n (by omega)]
      show (32 : Int) < ((V (t + 2) : Nat) : Int) ↔ _
      omega
    rw [hr, if_neg (sh_nn (by omega)), h.nu (by omega) h2, sh_bc_some, sh_bc_some, if_pos ((sh_okn (by omega)).mpr (by omega)), sh_nIc (by omega), h.at (by omega), sh_252]
    by_cases hg : 1 ≤ V (t + 2) ∧ V (t + 2) ≤ 32
    · left
      rw [if_neg (fun q => absurd (c1.mp q) (by omega)), if_neg (fun q => absurd (c32.mp q) (by omega))]
      exact ⟨fun _ => hg, rfl⟩
    · right
      refine ⟨fun q => hg (q h91), ?_⟩
      by_cases h1 : V (t + 2) < 1
      · rw [if_pos (c1.mpr h1)]; rfl
      · rw [if_neg (fun q => h1 (c1.mp q)), if_pos (c32.mpr (by omega))]; rfl
/-- a loop that looks for the first i that is so -/
theorem sh_wfind {ρ : Type} {f : Int32 → Option (Int32 ⊕ ρ)} {Q : Nat → Prop} {n : Nat} {a : Nat → ρ} {b : ρ} (hs : ∀ i, i < n → ¬ Q i → f (Int32.ofNat i) = some (.inl (Int32.ofNat (i + 1)))) (hf : ∀ i, i < n → Q i → f (Int32.ofNat i) = some (.inr (a i))) (he : f (Int32.ofNat n) = some (.inr b)) : (∃ i, i < n ∧ Q i ∧ (∀ j, j < i → ¬ Q j) ∧ sh_while f (Int32.ofNat 0) = some (a i)) ∨ ((∀ i, i < n → ¬ Q i) ∧ sh_while f (Int32.ofNat 0) = some b) := by
  have key : ∀ d k, k + d = n → (∀ j, j < k → ¬ Q j) → (∃ i, i < n ∧ Q i ∧ (∀ j, j < i → ¬ Q j) ∧ sh_while f (Int32.ofNat k) = some (a i)) ∨ ((∀ i, i < n → ¬ Q i) ∧ sh_while f (Int32.ofNat k) = some b) := by
    intro d
    induction d with
    | zero =>
      intro k hk hn
      have : k = n := by omega
      subst this
      exact Or.inr ⟨hn, sh_wend he⟩
    | succ d ih =>
      intro k hk hn
      by_cases hq : Q k
      · exact Or.inl ⟨k, by omega, hq, hn, sh_wend (hf k (by omega) hq)⟩
      · rw [sh_wstep (hs k (by omega) hq)]
        exact ih (k + 1) (by omega) (fun j hj => by
          by_cases hjk : j = k
          · rw [hjk]; exact hq
          · exact hn j (by omega))
  exact key n 0 (by omega) (fun j hj => absurd hj (by omega))
/-- findFn -/
theorem sh_84 {m : sh_X} {v F : Nat} {nt : Nat → Nat} (hT : sh_Txt N K P V) (h : sh_Wc N K P V m) (hF : F ≤ 256) (hn : ∀ f, f < F → m.I 29 f = Int32.ofNat (nt f) ∧ K (nt f) = 1 ∧ nt f ≤ N) (hv : v < 2001) : (∃ g, g < F ∧ V (nt g) = v ∧ (∀ j, j < g → ¬ V (nt j) = v) ∧ sf_84 (Int32.ofNat v) (Int32.ofNat F) m = some (Int32.ofNat g)) ∨ ((∀ g, g < F → ¬ V (nt g) = v) ∧ sf_84 (Int32.ofNat v) (Int32.ofNat F) m = some (-1)) := by
  unfold sf_84 sf_84_2
  have st : ∀ i, i < F → sf_84_2s (Int32.ofNat v) (Int32.ofNat F) (Int32.ofNat i) m = if V (nt i) = v then some (.inr (Int32.ofNat i)) else some (.inl (Int32.ofNat (i + 1))) := by
    intro i hi
    obtain ⟨h1, h2, h3⟩ := hn i hi
    have v1 := hT.V1 (nt i) h3 h2
    unfold sf_84_2s
    rw [if_pos ((sh_nIlt (by omega) (by omega)).mpr hi), if_pos (show Int32.ofNat i < 256 from (sh_nIlt (b := 256) (by omega) (by omega)).mpr (by omega)), if_pos ((sh_okn (by omega)).mpr (by omega)), sh_nIc (by omega), h1, sh_83 hT h h3 h2, sh_bc_some, sh_nI1]
    by_cases hq : V (nt i) = v
    · rw [if_pos hq, if_pos (by rw [hq])]
    · rw [if_neg hq, if_neg (fun q => hq ((sh_nIeq (by omega) (by omega)).mp q))]
  exact sh_wfind (Q := fun i => V (nt i) = v) (a := fun i => Int32.ofNat i) (fun i hi hq => by show sf_84_2s _ _ _ m = _; rw [st i hi, if_neg hq]) (fun i hi hq => by show sf_84_2s _ _ _ m = _; rw [st i hi, if_pos hq]) (by
    show sf_84_2s (Int32.ofNat v) (Int32.ofNat F) (Int32.ofNat F) m = _
    unfold sf_84_2s
    rw [if_neg (fun q => absurd ((sh_nIlt (by omega) (by omega)).mp q) (by omega))])
end
