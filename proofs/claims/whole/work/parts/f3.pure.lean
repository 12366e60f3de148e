/-! EVALUATION: calls: the FN is found -/
/-- a type that stands at t -/
theorem se_tyw {N : Nat} {K : Nat → Int32} {P V : Nat → Nat} {ty row : Int32} {t : Nat} (hT : sh_Txt N K P V) (hy : sh_Ty K ty row t) (tw : sh_tw K V t) (ht : t + 2 ≤ N) : ∃ k b n x, sh_typ k b n ∧ sh_tv K V t = sh_te k b n ∧ x / 64 = Int32.ofNat k ∧ (x - x / 64 * 64) + 1 = Int32.ofNat b ∧ ∀ m, sh_We N K P V m → sf_285 ty m = some x ∧ sf_286 row m = some (Int32.ofNat n) := by
  obtain ⟨h1, h2, h3⟩ := hy
  have N4 := hT.N4
  obtain ⟨k, b, a1, a2, a3⟩ := se_tyV (hT.V3 t (by omega) h1)
  obtain ⟨b1, b2⟩ := se_mtk a1
  rcases h3 with ⟨c1, c2⟩ | ⟨c1, c2, c3⟩
  · refine ⟨k, b, 0, Int32.ofNat (64 * k + (b - 1)), a1, ?_, b1, b2, fun m w => ⟨?_, ?_⟩⟩
    · unfold sh_tv
      rw [if_neg c1, Nat.add_zero, a2]
    · rw [h2, w.ty (by omega) h1, a3]
    · unfold sf_286
      rw [c2, if_pos (by decide)]
      rfl
  · have v := tw c1
    refine ⟨k, b, V (t + 2), Int32.ofNat (64 * k + (b - 1)), ⟨a1.1, v.2⟩, ?_, b1, b2, fun m w => ⟨?_, ?_⟩⟩
    · unfold sh_tv
      rw [if_pos c1, a2]
      rfl
    · rw [h2, w.ty (by omega) h1, a3]
    · unfold sf_286
      rw [c3, if_neg (sh_nI0 (by omega)), w.nu (by omega) c2, sh_bc_some, se_c64 (by omega)]
section
variable {N : Nat} {K : Nat → Int32} {P V : Nat → Nat} {A C : Nat → Nat → Int32} {p : Nat → Bool} {gs : sh_gL} {u z q B fr cl sp cw ifs cd kn inn tp li F : Nat} {ac : Bool} {mc mm : sh_X}
/-- both find the same FN -/
theorem se_ffn {t : Nat} (hT : sh_Txt N K P V) (hH : sh_Hds N K V A C F) (hF : F < 256) (hk : kn ≤ F) (hc : se_c N K P V C gs u z q B fr cl sp cw ifs cd kn mc) (hm : se_m N K P V A q B sp ifs cd kn inn tp li ac mm) (ht : t ≤ N) (k1 : K t = 1) :
    (∃ f, f < kn ∧ sf_84 (Int32.ofNat (V t)) (mc.I 41 18) mc = some (Int32.ofNat f) ∧ sf_316 (Int32.ofNat t) mm = some (Int32.ofNat f)) ∨ (sf_84 (Int32.ofNat (V t)) (mc.I 41 18) mc = some (-1) ∧ sf_316 (Int32.ofNat t) mm = some (-1)) := by
  have N4 := hT.N4
  have nt : ∀ f, f < F → A 79 f = Int32.ofNat (Int32.toNatClampNeg (A 79 f)) ∧ C 29 f = Int32.ofNat (Int32.toNatClampNeg (A 79 f)) ∧ K (Int32.toNatClampNeg (A 79 f)) = 1 ∧ Int32.toNatClampNeg (A 79 f) ≤ N ∧ ∀ g, g < f → ¬ V (Int32.toNatClampNeg (A 79 g)) = V (Int32.toNatClampNeg (A 79 f)) := by
    intro f hf
    obtain ⟨n, nt, rt, tt, h0, _, _, _, h4⟩ := hH f hf
    have e : Int32.toNatClampNeg (A 79 f) = nt := by rw [h0.a79]; exact sh_nIc (by have := h0.nN; omega)
    rw [e]
    exact ⟨h0.a79, h0.c29, h0.k1, h0.nN, h4⟩
  have main : ∀ i, i ≤ kn → (∃ g, g < i ∧ V (Int32.toNatClampNeg (A 79 g)) = V t ∧ sf_316_7 (Int32.ofNat t) (Int32.ofNat i - 1) mm = some (Int32.ofNat g)) ∨ ((∀ g, g < i → ¬ V (Int32.toNatClampNeg (A 79 g)) = V t) ∧ sf_316_7 (Int32.ofNat t) (Int32.ofNat i - 1) mm = some (-1)) := by
    intro i
    induction i with
    | zero =>
      intro _
      right
      refine ⟨fun g hg => absurd hg (by omega), ?_⟩
      unfold sf_316_7
      rw [sh_while_eq]
      have e : sf_316_7s (Int32.ofNat t) (Int32.ofNat 0 - 1) mm = some (.inr (-1)) := by
        unfold sf_316_7s
        rw [if_pos (by decide)]
      rw [e]
    | succ i ih =>
      intro hi
      obtain ⟨n1, _, n3, n4, _⟩ := nt i (by omega)
      have sm := hm.we.sm n4 ht n3 k1
      rw [← n1] at sm
      have st : sf_316_7s (Int32.ofNat t) (Int32.ofNat (i + 1) - 1) mm = if V (Int32.toNatClampNeg (A 79 i)) = V t then some (.inr (Int32.ofNat i)) else some (.inl (Int32.ofNat i - 1)) := by
        unfold sf_316_7s
        rw [se_um1, if_neg (sh_nI0 (by omega)), if_pos (sh_okn' (by omega) (by omega)), sh_nIc (by omega), hm.aa 79 (by omega) (by omega), sm, sh_bc_some]
        by_cases hv : V (Int32.toNatClampNeg (A 79 i)) = V t
        · rw [if_pos (decide_eq_true hv), if_pos hv]
        · rw [if_neg (by rw [decide_eq_false hv]; decide), if_neg hv, Int32.sub_eq_add_neg]
      by_cases hv : V (Int32.toNatClampNeg (A 79 i)) = V t
      · left
        refine ⟨i, by omega, hv, ?_⟩
        unfold sf_316_7
        rw [sh_while_eq, st, if_pos hv]
      · have s2 : sf_316_7 (Int32.ofNat t) (Int32.ofNat (i + 1) - 1) mm = sf_316_7 (Int32.ofNat t) (Int32.ofNat i - 1) mm := by
          unfold sf_316_7
          rw [sh_while_eq, st, if_neg hv]
        rw [s2]
        rcases ih (by omega) with ⟨g, g1, g2, g3⟩ | ⟨g1, g2⟩
        · exact Or.inl ⟨g, by omega, g2, g3⟩
        · right
          refine ⟨fun g hg => ?_, g2⟩
          by_cases e : g = i
          · rw [e]; exact hv
          · exact g1 g (by omega)
  have e316 : sf_316 (Int32.ofNat t) mm = sf_316_7 (Int32.ofNat t) (Int32.ofNat kn - 1) mm := by
    unfold sf_316
    rw [hm.mkn]
  rw [hc.ckn, e316]
  rcases sh_84 (F := kn) (v := V t) (nt := fun f => Int32.toNatClampNeg (A 79 f)) hT hc.wc (by omega) (fun f hf => ⟨by rw [hc.cc 29 (by omega) (by omega)]; exact (nt f (by omega)).2.1, (nt f (by omega)).2.2.1, (nt f (by omega)).2.2.2.1⟩) (hT.V1 t ht k1) with ⟨g, g1, g2, g3, g4⟩ | ⟨g1, g2⟩
  · rcases main kn (Nat.le_refl _) with ⟨f, f1, f2, f3⟩ | ⟨f1, f2⟩
    · have : f = g := by
        rcases Nat.lt_trichotomy f g with h | h | h
        · exact absurd f2 (g3 f h)
        · exact h
        · exact absurd (g2.trans f2.symm) ((nt f (by omega)).2.2.2.2 g h)
      subst this
      exact Or.inl ⟨f, f1, g4, f3⟩
    · exact absurd g2 (f1 g g1)
  · rcases main kn (Nat.le_refl _) with ⟨f, f1, f2, f3⟩ | ⟨f1, f2⟩
    · exact absurd f2 (g1 f f1)
    · exact Or.inr ⟨g2, f2⟩
/-- the model counts -/
theorem se_cnt {Q : sh_Q279} {e f nn : Nat} {r : Nat → Nat} {m : sh_X} (hr : ∀ k, k < nn → r k < 9000 ∧ m.I 77 (r k) = (if k + 1 < nn then Int32.ofNat (r (k + 1)) else -1)) : sf_315_42 Q (Int32.ofNat e) (Int32.ofNat f) 0 (if 0 < nn then Int32.ofNat (r 0) else -1) m = sf_315_42 Q (Int32.ofNat e) (Int32.ofNat f) (Int32.ofNat nn) (-1) m := by
  have main : ∀ d k, k + d = nn → sf_315_42 Q (Int32.ofNat e) (Int32.ofNat f) (Int32.ofNat k) (if k < nn then Int32.ofNat (r k) else -1) m = sf_315_42 Q (Int32.ofNat e) (Int32.ofNat f) (Int32.ofNat nn) (-1) m := by
    intro d
    induction d with
    | zero =>
      intro k hk
      have : k = nn := by omega
      subst this
      rw [if_neg (by omega)]
    | succ d ih =>
      intro k hk
      rw [← ih (k + 1) (by omega), if_pos (by omega)]
      obtain ⟨h1, h2⟩ := hr k (by omega)
      have st : sf_315_42s Q (Int32.ofNat e) (Int32.ofNat f) (Int32.ofNat k) (Int32.ofNat (r k)) m = some (.inl (Int32.ofNat (k + 1), if k + 1 < nn then Int32.ofNat (r (k + 1)) else -1, m)) := by
        unfold sf_315_42s
        rw [if_neg (sh_nI0 (by omega)), if_pos (sh_okn' h1 (by omega)), sh_nIc (by omega), h2, sh_nI1]
      unfold sf_315_42
      rw [sh_while_eq, st]
  exact main nn 0 (by omega)
end
