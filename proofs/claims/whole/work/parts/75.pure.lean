/-! types and numbers, as the model reads them -/
def sh_mt (t : Nat) : Nat := if t = 257 then 0 else if 128 < t then t - 1 else 63 + t
theorem sh_ty_rng (B : Nat → Int32) (s z : Nat) : sp_ty B s z = 0 ∨ sp_ty B s z = 257 ∨ (1 ≤ sp_ty B s z ∧ sp_ty B s z ≤ 64) ∨ (130 ≤ sp_ty B s z ∧ sp_ty B s z ≤ 192) := by
  unfold sp_ty
  split
  · omega
  split
  · rename_i h
    obtain ⟨h1, h2, h3, h4, h5, h6, h7⟩ := sh_tyb_iff.mp h
    split
    · rename_i h8
      have := h7 h8
      omega
    · have : 1 ≤ sh_wdt B s z := by
        have hd := sh_dgt_lt h4
        have : sh_dgt (B (s + 1)) ≠ 0 := by
          intro q
          rw [q] at hd
          exact h3 (hd.2)
        unfold sh_wdt
        split <;> omega
      omega
  · omega
theorem sh_Tk.nm {B : Nat → Int32} {n : Nat} {t : sh_Tok} (h : sh_Tk B n t) (h1 : t.1 = 1) : t.2.2 ≤ 12 ∧ sf_28 (B t.2.1) = true ∧ ∀ i, i < t.2.2 → sf_30 (B (t.2.1 + i)) = true := by
  rcases h.2.2 with g | g | g
  · exact g.2
  · exact absurd (h1.symm.trans g.1) (by decide)
  · rw [h1] at g; exact absurd g (by decide)
theorem sh_Tk.dg {B : Nat → Int32} {n : Nat} {t : sh_Tok} (h : sh_Tk B n t) (h1 : t.1 = 2) : t.2.2 ≤ 18 ∧ ∀ i, i < t.2.2 → sf_31 (B (t.2.1 + i)) = true := by
  rcases h.2.2 with g | g | g
  · exact absurd (h1.symm.trans g.1) (by decide)
  · exact g.2
  · rw [h1] at g; exact absurd g (by decide)
theorem sh_261l {B : Nat → Int32} {n i a k : Nat} {x2 : Int32} {ts : List sh_Tok} {t : sh_Tok} {m : sh_X} (h : sh_Wa ts m) (hb : sh_Wb B n 67 m) (ht : ts[i]? = some t) (hk : sh_Tk B n t) (h1 : t.1 = 1) (hz : k < t.2.2) : sf_261_61 (Int32.ofNat i) x2 (Int32.ofNat a) (Int32.ofNat k) m = if sf_31 (B (t.2.1 + k)) = true then sf_261_61 (Int32.ofNat i) x2 (Int32.ofNat (10 * a + sh_dgt (B (t.2.1 + k)))) (Int32.ofNat (k + 1)) m else some (-1) := by
  have n4 := hb.n4
  have hi : i < 4001 := by have := sh_len_of ht; have := h.l4; omega
  obtain ⟨k1, k2, k3⟩ := h.kd i t ht
  have hok : sh_okb (Int32.ofNat i) 4002 = true := (sh_okn (by omega)).mpr (by omega)
  have g1 := hk.1
  have g2 := hk.2.1
  obtain ⟨g4, g5, g6⟩ := sh_Tk.nm hk h1
  have hraw : m.I 67 (t.2.1 + k) = B (t.2.1 + k) := hb.raw (by omega) (g6 k hz)
  have hst : sf_261_61s (Int32.ofNat i) x2 (Int32.ofNat a) (Int32.ofNat k) m = if sf_31 (B (t.2.1 + k)) = true then some (.inl (((10 * Int32.ofNat a) + B (t.2.1 + k)) - 48, Int32.ofNat k + 1)) else some (.inr (-1)) := by
    unfold sf_261_61s
    rw [if_pos hok, sh_nIc (by omega), k3, k2, if_pos ((sh_nIlt (by omega) (by omega)).mpr hz), if_pos hok, sh_nIadd, if_pos ((sh_okn (by omega)).mpr (by omega)), sh_nIc (by omega), hraw, sh_251]
  unfold sf_261_61
  by_cases hd : sf_31 (B (t.2.1 + k)) = true
  · rw [if_pos hd]
    refine sh_wstep ?_
    show sf_261_61s _ _ _ _ m = _
    rw [hst, if_pos hd, sh_dig10 hd, sh_nI1]
  · rw [if_neg hd]
    refine sh_wend ?_
    show sf_261_61s _ _ _ _ m = _
    rw [hst, if_neg hd]
theorem sh_261e {B : Nat → Int32} {n i a : Nat} {ts : List sh_Tok} {t : sh_Tok} {m : sh_X} (h : sh_Wa ts m) (hb : sh_Wb B n 67 m) (ht : ts[i]? = some t) (hk : sh_Tk B n t) (h1 : t.1 = 1) (hz : 2 ≤ t.2.2) (ha : a < 50000) : sf_261_61 (Int32.ofNat i) (B t.2.1) (Int32.ofNat a) (Int32.ofNat t.2.2) m = some (if ¬ B (t.2.1 + 1) = 48 ∧ a ≤ 64 ∧ (B t.2.1 = 117 ∨ B t.2.1 = 105) ∧ (B t.2.1 = 105 → 2 ≤ a) then (if B t.2.1 = 105 then Int32.ofNat (128 + a) - 1 else Int32.ofNat (64 + a) - 1) else -1) := by
  have n4 := hb.n4
  have hi : i < 4001 := by have := sh_len_of ht; have := h.l4; omega
  obtain ⟨k1, k2, k3⟩ := h.kd i t ht
  have hok : sh_okb (Int32.ofNat i) 4002 = true := (sh_okn (by omega)).mpr (by omega)
  have g1 := hk.1
  have g2 := hk.2.1
  obtain ⟨g4, g5, g6⟩ := sh_Tk.nm hk h1
  have hraw : m.I 67 (t.2.1 + 1) = B (t.2.1 + 1) := hb.raw (by omega) (g6 1 hz)
  have c64 : (64 : Int32) < Int32.ofNat a ↔ 64 < a := sh_nIlt (a := 64) (by omega) (by omega)
  have c2 : Int32.ofNat a < (2 : Int32) ↔ a < 2 := sh_nIlt (b := 2) (by omega) (by omega)
  have e64 : (64 : Int32) * 1 + Int32.ofNat a - 1 = Int32.ofNat (64 + a) - 1 := by rw [show (64 : Int32) * 1 = Int32.ofNat 64 from rfl, sh_nIadd]
  have e128 : (64 : Int32) * 2 + Int32.ofNat a - 1 = Int32.ofNat (128 + a) - 1 := by rw [show (64 : Int32) * 2 = Int32.ofNat 128 from rfl, sh_nIadd]
  unfold sf_261_61
  refine sh_wend ?_
  show sf_261_61s (Int32.ofNat i) (B t.2.1) (Int32.ofNat a) (Int32.ofNat t.2.2) m = _
  unfold sf_261_61s
  rw [if_pos hok, sh_nIc (by omega), k3, k2, if_neg (fun q => absurd ((sh_nIlt (by omega) (by omega)).mp q) (by omega)), if_pos hok, sh_nI1, if_pos ((sh_okn (by omega)).mpr (by omega)), sh_nIc (by omega), hraw]
  unfold sf_261_151 sf_261_164 sf_261_177
  rw [e64, e128]
  simp only [c64, c2]
  generalize B t.2.1 = b
  generalize B (t.2.1 + 1) = d
  by_cases hd : d = 48
  · rw [if_pos hd, if_neg (fun q => q.1 hd)]
  rw [if_neg hd]
  by_cases h64 : 64 < a
  · rw [if_pos h64, if_neg (fun q => absurd q.2.1 (by omega))]
  rw [if_neg h64]
  by_cases h117 : b = 117
  · have h105 : ¬ b = 105 := by rw [h117]; decide
    rw [if_pos h117, if_neg h105, if_pos h117, if_neg h105, if_pos ⟨hd, by omega, Or.inl h117, fun q => absurd q h105⟩]
    rfl
  rw [if_neg h117]
  by_cases h105 : b = 105
  · rw [if_pos h105, if_pos h105, if_pos h105]
    by_cases h2 : a < 2
    · rw [if_pos h2, if_neg (fun q => absurd (q.2.2.2 h105) (by omega))]
      rfl
    · rw [if_neg h2, if_neg h117, if_pos ⟨hd, by omega, Or.inr h105, fun _ => by omega⟩]
      rfl
  · rw [if_neg h105, if_neg (fun q => by rcases q.2.2.1 with h | h; exact h117 h; exact h105 h)]
/-- typeOf -/
theorem sh_261 {B : Nat → Int32} {n i : Nat} {ts : List sh_Tok} {t : sh_Tok} {m : sh_X} (h : sh_Wa ts m) (hb : sh_Wb B n 67 m) (ht : ts[i]? = some t) (hk : t.1 = 1 → sh_Tk B n t) : sf_261 (Int32.ofNat i) m = some (if t.1 = 1 ∧ sp_ty B t.2.1 t.2.2 ≠ 0 then Int32.ofNat (sh_mt (sp_ty B t.2.1 t.2.2)) else -1) := by
  have n4 := hb.n4
  have hi : i < 4001 := by have := sh_len_of ht; have := h.l4; omega
  obtain ⟨k1, k2, k3⟩ := h.kd i t ht
  have hok : sh_okb (Int32.ofNat i) 4002 = true := (sh_okn (by omega)).mpr (by omega)
  unfold sf_261
  rw [sh_256 (j := 10) h hb ht hk (by decide) (by decide), sh_bc_some]
  by_cases h1 : t.1 = 1
  · have hk := hk h1
    have g1 := hk.1
    have g2 := hk.2.1
    obtain ⟨g4, g5, g6⟩ := sh_Tk.nm hk h1
    rw [decide_eq_true h1, Bool.true_and]
    by_cases hq : sh_eqw B t.2.1 t.2.2 (sh_txs 10) = true
    · have e : sp_ty B t.2.1 t.2.2 = 257 := by unfold sp_ty; rw [if_pos hq]
      rw [if_pos hq, if_pos ⟨h1, by rw [e]; omega⟩, e]
      rfl
    · rw [if_neg hq, if_pos hok, sh_nIc (by omega), k1, if_pos h1, if_pos hok, k3]
      have c3 : (3 : Int32) < Int32.ofNat t.2.2 ↔ 3 < t.2.2 := sh_nIlt (a := 3) (by omega) (by omega)
      have c2 : Int32.ofNat t.2.2 < (2 : Int32) ↔ t.2.2 < 2 := sh_nIlt (b := 2) (by omega) (by omega)
      have eT : sp_ty B t.2.1 t.2.2 = if sh_tyb B t.2.1 t.2.2 = true then (if B t.2.1 = 105 then 128 + sh_wdt B t.2.1 t.2.2 else sh_wdt B t.2.1 t.2.2) else 0 := by unfold sp_ty; rw [if_neg hq]
      have hno : ¬ sh_tyb B t.2.1 t.2.2 = true → some (-1 : Int32) = some (if t.1 = 1 ∧ sp_ty B t.2.1 t.2.2 ≠ 0 then Int32.ofNat (sh_mt (sp_ty B t.2.1 t.2.2)) else -1) := by
        intro q
        rw [if_neg (fun r => r.2 (by rw [eT, if_neg q]))]
      by_cases h2 : t.2.2 < 2
      · rw [if_pos (c2.mpr h2)]
        exact hno (fun q => absurd (sh_tyb_iff.mp q).1 (by omega))
      rw [if_neg (fun q => h2 (c2.mp q)), if_pos hok]
      by_cases h3 : 3 < t.2.2
      · rw [if_pos (c3.mpr h3)]
        exact hno (fun q => absurd (sh_tyb_iff.mp q).1 (by omega))
      rw [if_neg (fun q => h3 (c3.mp q)), if_pos hok, k2, if_pos ((sh_okn (by omega)).mpr (by omega)), sh_nIc (by omega), hb.raw (by omega) ((sh_npt _).mpr (Or.inl g5))]
      show sf_261_61 _ _ (Int32.ofNat 0) (Int32.ofNat 1) m = _
      rw [sh_261l h hb ht hk h1 (by omega)]
      by_cases hd1 : sf_31 (B (t.2.1 + 1)) = true
      · rw [if_pos hd1]
        have hl1 := (sh_dgt_lt hd1).1
        have fin : ∀ a, a < 50000 → a = sh_wdt B t.2.1 t.2.2 → (t.2.2 = 3 → sf_31 (B (t.2.1 + 2)) = true) → sf_261_61 (Int32.ofNat i) (B t.2.1) (Int32.ofNat a) (Int32.ofNat t.2.2) m = some (if t.1 = 1 ∧ sp_ty B t.2.1 t.2.2 ≠ 0 then Int32.ofNat (sh_mt (sp_ty B t.2.1 t.2.2)) else -1) := by
          intro a ha hw hd2
          rw [sh_261e h hb ht hk h1 (by omega) ha]
          by_cases hg : ¬ B (t.2.1 + 1) = 48 ∧ a ≤ 64 ∧ (B t.2.1 = 117 ∨ B t.2.1 = 105) ∧ (B t.2.1 = 105 → 2 ≤ a)
          · have hT : sh_tyb B t.2.1 t.2.2 = true := sh_tyb_iff.mpr ⟨by omega, hg.2.2.1, hg.1, hd1, hd2, by omega, fun q => by have := hg.2.2.2 q; omega⟩
            rw [if_pos hg]
            rw [if_pos hT] at eT
            have r := sh_ty_rng B t.2.1 t.2.2
            by_cases h105 : B t.2.1 = 105
            · rw [if_pos h105] at eT ⊢
              have := hg.2.2.2 h105
              rw [if_pos ⟨h1, by omega⟩, eT, ← hw]
              unfold sh_mt
              rw [if_neg (by omega), if_pos (by omega), show (1 : Int32) = Int32.ofNat 1 from rfl, sh_nIsub (by omega)]
            · rw [if_neg h105] at eT ⊢
              have : 1 ≤ a := by
                have hd := sh_dgt_lt hd1
                have : sh_dgt (B (t.2.1 + 1)) ≠ 0 := by
                  intro q
                  rw [q] at hd
                  exact hg.1 hd.2
                rw [hw]
                unfold sh_wdt
                split <;> omega
              rw [if_pos ⟨h1, by omega⟩, eT, ← hw]
              unfold sh_mt
              rw [if_neg (by omega), if_neg (by omega), show (1 : Int32) = Int32.ofNat 1 from rfl, sh_nIsub (by omega)]
              congr 2
              omega
          · rw [if_neg hg]
            refine hno (fun q => hg ?_)
            obtain ⟨q1, q2, q3, q4, q5, q6, q7⟩ := sh_tyb_iff.mp q
            exact ⟨q3, by omega, q2, fun r => by have := q7 r; omega⟩
        rcases (show t.2.2 = 2 ∨ t.2.2 = 3 by omega) with hz | hz
        · have := fin (10 * 0 + sh_dgt (B (t.2.1 + 1))) (by omega) (by unfold sh_wdt; rw [if_pos hz]; omega) (fun q => absurd q (by omega))
          rw [← this, hz]
        · rw [sh_261l h hb ht hk h1 (by omega), show t.2.1 + (1 + 1) = t.2.1 + 2 from rfl]
          by_cases hd2 : sf_31 (B (t.2.1 + 2)) = true
          · rw [if_pos hd2]
            have hl2 := (sh_dgt_lt hd2).1
            have := fin (10 * (10 * 0 + sh_dgt (B (t.2.1 + 1))) + sh_dgt (B (t.2.1 + 2))) (by omega) (by unfold sh_wdt; rw [if_neg (by omega)]; omega) (fun _ => hd2)
            rw [← this, hz]
          · rw [if_neg hd2]
            exact hno (fun q => hd2 ((sh_tyb_iff.mp q).2.2.2.2.1 hz))
      · rw [if_neg hd1]
        exact hno (fun q => hd1 (sh_tyb_iff.mp q).2.2.2.1)
  · rw [decide_eq_false h1, Bool.false_and, if_neg (by simp), if_pos hok, sh_nIc (by omega), k1, if_neg h1, if_neg (fun q => h1 q.1)]
