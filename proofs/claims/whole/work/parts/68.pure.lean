/-! the lexer of the class: kinds of words -/
def sh_rsl : List Nat := [8, 9, 11, 12, 7, 13, 14, 15, 16, 17, 18, 19]
def sh_rsv (B : Nat → Int32) (s z : Nat) : List Nat → Nat → Int32
  | [], _ => 1
  | j :: r, c => if sh_eqw B s z (sh_txs j) = true then Int32.ofNat c else sh_rsv B s z r (c + 1)
theorem sh_wstep {σ ρ : Type} {f : σ → Option (σ ⊕ ρ)} {s t : σ} (h : f s = some (.inl t)) : sh_while f s = sh_while f t := by rw [sh_while_eq, h]
theorem sh_wend {σ ρ : Type} {f : σ → Option (σ ⊕ ρ)} {s : σ} {r : ρ} (h : f s = some (.inr r)) : sh_while f s = some r := by rw [sh_while_eq, h]
/-- one word of the reserved ones -/
theorem sh_34w {n s z c o l j : Nat} {m : sh_X} (h : sh_Bc n m) (hs : s < 50000) (hz : z < 50000) (ho : o + l < 57) (hc : ∀ k, k < l → ¬ Int32.ofNat ((sh_txs 0).getD (o + k) 0) = 32) (hsp : Int32.ofNat ((sh_txs 0).getD (o + l) 0) = 32) (hj : (sh_txs j).length = l) (hjc : ∀ k, k < l → (sh_txs j).getD k 0 = (sh_txs 0).getD (o + k) 0) :
    sf_34_8 (Int32.ofNat s) (Int32.ofNat z) (Int32.ofNat c) (Int32.ofNat o) (Int32.ofNat o) m = if sh_eqw (sh_by (m.I 1) n) s z (sh_txs j) = true then some (Int32.ofNat c) else sf_34_8 (Int32.ofNat s) (Int32.ofNat z) (Int32.ofNat (c + 1)) (Int32.ofNat (o + l + 1)) (Int32.ofNat (o + l + 1)) m := by
  have e57 : sh_txn 0 = 57 := rfl
  have hl : ∀ i, i < 57 → Int32.ofNat i < sh_txl 0 := by
    intro i hi
    unfold sh_txl
    rw [e57]
    exact (sh_nIlt (by omega) (by omega)).mpr (by omega)
  have hk : ∀ i, i < 57 → sh_okb (Int32.ofNat i) (sh_txn 0) = true := by
    intro i hi
    rw [e57]
    exact (sh_okn (by omega)).mpr (by omega)
  have hcc : ∀ i, i < 57 → sh_txc 0 (Int32.ofNat i) = Int32.ofNat ((sh_txs 0).getD i 0) := by
    intro i hi
    unfold sh_txc
    rw [sh_nIc (by omega)]
  unfold sf_34_8
  have e1 := sh_wrun (f := fun q : Int32 × Int32 × Int32 => sf_34_8s (Int32.ofNat s) (Int32.ofNat z) q.1 q.2.1 q.2.2 m) (fun i => (Int32.ofNat c, Int32.ofNat o, Int32.ofNat i)) (k := o) (e := o + l) (by omega) (fun i h1 h2 => by
    show sf_34_8s _ _ _ _ _ m = _
    unfold sf_34_8s
    have hne := hc (i - o) (by omega)
    rw [show o + (i - o) = i by omega] at hne
    rw [if_pos (hl i (by omega)), if_pos (hk i (by omega)), hcc i (by omega), if_neg hne]
    unfold sf_34_61
    rw [sh_nI1])
  rw [e1]
  have hsub : Int32.ofNat (o + l) - Int32.ofNat o = Int32.ofNat l := by rw [sh_nIsub (by omega), show o + l - o = l by omega]
  have hno : sf_34_52 (Int32.ofNat s) (Int32.ofNat z) (Int32.ofNat c) (Int32.ofNat (o + l)) m = some (.inl (Int32.ofNat (c + 1), Int32.ofNat (o + l + 1), Int32.ofNat (o + l + 1))) := by
    unfold sf_34_52 sf_34_61
    rw [sh_nI1, sh_nI1]
  by_cases hzl : z = l
  · subst hzl
    obtain ⟨b, hb, hbi⟩ := sh_35 (o := o) (s := s) (z := z) h hs hz ho
    have hE : sh_eqw (sh_by (m.I 1) n) s z (sh_txs j) = b := by
      rw [Bool.eq_iff_iff, hbi, sh_eqw_iff]
      constructor
      · rintro ⟨_, h2⟩ k hk2; rw [h2 k hk2, hjc k hk2]
      · intro h2; exact ⟨hj.symm, fun k hk2 => by rw [h2 k hk2, hjc k hk2]⟩
    rw [hE]
    have hst : sf_34_8s (Int32.ofNat s) (Int32.ofNat z) (Int32.ofNat c) (Int32.ofNat o) (Int32.ofNat (o + z)) m = if b = true then some (.inr (Int32.ofNat c)) else some (.inl (Int32.ofNat (c + 1), Int32.ofNat (o + z + 1), Int32.ofNat (o + z + 1))) := by
      unfold sf_34_8s
      rw [if_pos (hl (o + z) (by omega)), if_pos (hk (o + z) (by omega)), hcc (o + z) (by omega), if_pos hsp, hsub, if_pos rfl, hb, sh_bc_some, hno]
    cases b with
    | true => rw [if_pos rfl] at hst ⊢; exact sh_wend hst
    | false => rw [if_neg (by simp)] at hst ⊢; exact sh_wstep hst
  · rw [if_neg (fun q => hzl ((sh_eqw_iff.mp q).1.trans hj))]
    refine sh_wstep ?_
    show sf_34_8s _ _ _ _ _ m = _
    unfold sf_34_8s
    rw [if_pos (hl (o + l) (by omega)), if_pos (hk (o + l) (by omega)), hcc (o + l) (by omega), if_pos hsp, hsub, if_neg (fun q => hzl ((sh_nIeq (by omega) (by omega)).mp q).symm), hno]
/-- reservedKind -/
theorem sh_34 {n s z : Nat} {m : sh_X} (h : sh_Bc n m) (hs : s < 50000) (hz : z < 50000) : sf_34 (Int32.ofNat s) (Int32.ofNat z) m = some (sh_rsv (sh_by (m.I 1) n) s z sh_rsl 4) := by
  unfold sf_34
  show sf_34_8 _ _ (Int32.ofNat 4) (Int32.ofNat 0) (Int32.ofNat 0) m = _
  have K : ∀ (o l j c : Nat) (r : List Nat), (o + l < 57 ∧ (∀ k, k < l → ¬ Int32.ofNat ((sh_txs 0).getD (o + k) 0) = 32) ∧ Int32.ofNat ((sh_txs 0).getD (o + l) 0) = 32 ∧ (sh_txs j).length = l ∧ (∀ k, k < l → (sh_txs j).getD k 0 = (sh_txs 0).getD (o + k) 0)) → sf_34_8 (Int32.ofNat s) (Int32.ofNat z) (Int32.ofNat (c + 1)) (Int32.ofNat (o + l + 1)) (Int32.ofNat (o + l + 1)) m = some (sh_rsv (sh_by (m.I 1) n) s z r (c + 1)) → sf_34_8 (Int32.ofNat s) (Int32.ofNat z) (Int32.ofNat c) (Int32.ofNat o) (Int32.ofNat o) m = some (sh_rsv (sh_by (m.I 1) n) s z (j :: r) c) := by
    intro o l j c r ⟨h1, h2, h3, h4, h5⟩ hr
    rw [sh_34w h hs hz h1 h2 h3 h4 h5, hr]
    show _ = some (if sh_eqw (sh_by (m.I 1) n) s z (sh_txs j) = true then Int32.ofNat c else sh_rsv (sh_by (m.I 1) n) s z r (c + 1))
    by_cases hq : sh_eqw (sh_by (m.I 1) n) s z (sh_txs j) = true
    · rw [if_pos hq, if_pos hq]
    · rw [if_neg hq, if_neg hq]
  refine K 0 5 8 4 _ (by decide) ?_
  refine K 6 3 9 5 _ (by decide) ?_
  refine K 10 4 11 6 _ (by decide) ?_
  refine K 15 5 12 7 _ (by decide) ?_
  refine K 21 2 7 8 _ (by decide) ?_
  refine K 24 3 13 9 _ (by decide) ?_
  refine K 28 2 14 10 _ (by decide) ?_
  refine K 31 2 15 11 _ (by decide) ?_
  refine K 34 3 16 12 _ (by decide) ?_
  refine K 38 6 17 13 _ (by decide) ?_
  refine K 45 6 18 14 _ (by decide) ?_
  refine K 52 4 19 15 _ (by decide) ?_
  unfold sf_34_8
  refine sh_wend ?_
  show sf_34_8s _ _ _ _ _ m = _
  unfold sf_34_8s
  rw [if_neg (by decide)]
  rfl
/-- a digit's number; the width that a type's word names; its type -/
def sh_dgt (c : Int32) : Nat := (c.toInt - 48).toNat
def sh_wdt (B : Nat → Int32) (s z : Nat) : Nat := if z = 2 then sh_dgt (B (s + 1)) else 10 * sh_dgt (B (s + 1)) + sh_dgt (B (s + 2))
noncomputable def sh_tyb (B : Nat → Int32) (s z : Nat) : Bool := decide ((z = 2 ∨ z = 3) ∧ (B s = 117 ∨ B s = 105) ∧ ¬ B (s + 1) = 48 ∧ sf_31 (B (s + 1)) = true ∧ (z = 3 → sf_31 (B (s + 2)) = true) ∧ sh_wdt B s z ≤ 64 ∧ (B s = 105 → 2 ≤ sh_wdt B s z))
noncomputable def sp_ty (B : Nat → Int32) (s z : Nat) : Nat := if sh_eqw B s z (sh_txs 10) = true then 257 else if sh_tyb B s z = true then (if B s = 105 then 128 + sh_wdt B s z else sh_wdt B s z) else 0
theorem sh_tyb_iff {B : Nat → Int32} {s z : Nat} : sh_tyb B s z = true ↔ ((z = 2 ∨ z = 3) ∧ (B s = 117 ∨ B s = 105) ∧ ¬ B (s + 1) = 48 ∧ sf_31 (B (s + 1)) = true ∧ (z = 3 → sf_31 (B (s + 2)) = true) ∧ sh_wdt B s z ≤ 64 ∧ (B s = 105 → 2 ≤ sh_wdt B s z)) := decide_eq_true_iff
theorem sh_dgt_lt {c : Int32} (h : sf_31 c = true) : sh_dgt c < 10 ∧ c = Int32.ofNat (48 + sh_dgt c) := by
  have h2 := (sh_dig c).mp h
  unfold sh_dgt
  refine ⟨by omega, ?_⟩
  rw [sh_Ieq, sh_nI (by omega)]
  omega
theorem sh_dig10 {c : Int32} {a : Nat} (h : sf_31 c = true) : ((10 * Int32.ofNat a) + c) - 48 = Int32.ofNat (10 * a + sh_dgt c) := by
  obtain ⟨h1, h2⟩ := sh_dgt_lt h
  rw [h2, show (10 : Int32) = Int32.ofNat 10 from rfl, show (48 : Int32) = Int32.ofNat 48 from rfl, sh_nImul, sh_nIadd, sh_nIsub (by omega)]
  congr 1
  rw [← h2]
  omega
theorem sh_33l {n s z a i : Nat} {x3 : Int32} {m : sh_X} (h : sh_Bc n m) (hs : s < 50000) (hz : z < 50000) (hi : i < z) : sf_33_99 (Int32.ofNat s) (Int32.ofNat z) x3 (Int32.ofNat a) (Int32.ofNat i) m = if sf_31 (sh_by (m.I 1) n (s + i)) = true then sf_33_99 (Int32.ofNat s) (Int32.ofNat z) x3 (Int32.ofNat (10 * a + sh_dgt (sh_by (m.I 1) n (s + i)))) (Int32.ofNat (i + 1)) m else some 0 := by
  have hb : sf_26 (Int32.ofNat s + Int32.ofNat i) m = some (sh_by (m.I 1) n (s + i)) := by rw [sh_nIadd]; exact sh_26 h (by omega)
  by_cases hd : sf_31 (sh_by (m.I 1) n (s + i)) = true
  · rw [if_pos hd]
    unfold sf_33_99
    refine sh_wstep ?_
    show sf_33_99s _ _ _ _ _ m = _
    unfold sf_33_99s
    rw [if_pos ((sh_nIlt (by omega) (by omega)).mpr hi), hb, sh_bc_some, if_pos hd, sh_bc_some, sh_dig10 hd, sh_nI1]
  · rw [if_neg hd]
    unfold sf_33_99
    refine sh_wend ?_
    show sf_33_99s _ _ _ _ _ m = _
    unfold sf_33_99s
    rw [if_pos ((sh_nIlt (by omega) (by omega)).mpr hi), hb, sh_bc_some, if_neg hd]
theorem sh_33e {s z a : Nat} {x3 : Int32} {m : sh_X} (hz : z < 50000) (ha : a < 50000) : sf_33_99 (Int32.ofNat s) (Int32.ofNat z) x3 (Int32.ofNat a) (Int32.ofNat z) m = some (Int32.ofNat (if a ≤ 64 ∧ (x3 = 105 → 2 ≤ a) then (if x3 = 105 then 128 + a else a) else 0)) := by
  unfold sf_33_99
  refine sh_wend ?_
  show sf_33_99s (Int32.ofNat s) (Int32.ofNat z) x3 (Int32.ofNat a) (Int32.ofNat z) m = _
  unfold sf_33_99s
  rw [if_neg (fun q => absurd ((sh_nIlt (by omega) (by omega)).mp q) (by omega))]
  have c64 : (64 : Int32) < Int32.ofNat a ↔ 64 < a := sh_nIlt (a := 64) (by omega) (by omega)
  have c2 : Int32.ofNat a < (2 : Int32) ↔ a < 2 := sh_nIlt (b := 2) (by omega) (by omega)
  by_cases h64 : a ≤ 64
  · rw [if_neg (fun q => absurd (c64.mp q) (by omega))]
    by_cases h105 : x3 = 105
    · rw [if_pos h105]
      by_cases h2 : a < 2
      · rw [if_pos (c2.mpr h2), if_neg (fun q => absurd (q.2 h105) (by omega))]
        rfl
      · rw [if_neg (fun q => absurd (c2.mp q) (by omega)), if_pos ⟨h64, fun _ => by omega⟩, if_pos h105]
        unfold sf_33_167
        rw [if_pos h105, show (128 : Int32) = Int32.ofNat 128 from rfl, sh_nIadd]
        rfl
    · rw [if_neg h105, if_pos ⟨h64, fun q => absurd q h105⟩, if_neg h105]
      unfold sf_33_167
      rw [if_neg h105]
      rfl
  · rw [if_pos (c64.mpr (by omega)), if_neg (fun q => h64 q.1)]
    rfl
theorem sh_33r {n s z : Nat} {m : sh_X} (h : sh_Bc n m) (hs : s < 50000) (hz : z < 50000) : sf_33_57 (Int32.ofNat s) (Int32.ofNat z) (sh_by (m.I 1) n s) m = some (Int32.ofNat (if sh_tyb (sh_by (m.I 1) n) s z = true then (if sh_by (m.I 1) n s = 105 then 128 + sh_wdt (sh_by (m.I 1) n) s z else sh_wdt (sh_by (m.I 1) n) s z) else 0)) := by
  generalize hB : sh_by (m.I 1) n = B
  have hT := sh_tyb_iff (B := B) (s := s) (z := z)
  have key : (B s = 117 ∨ B s = 105) → sf_33_69 (Int32.ofNat s) (Int32.ofNat z) (B s) m = some (Int32.ofNat (if sh_tyb B s z = true then (if B s = 105 then 128 + sh_wdt B s z else sh_wdt B s z) else 0)) := by
    intro hc
    unfold sf_33_69
    have c3 : (3 : Int32) < Int32.ofNat z ↔ 3 < z := sh_nIlt (a := 3) (by omega) (by omega)
    have c2 : Int32.ofNat z < (2 : Int32) ↔ z < 2 := sh_nIlt (b := 2) (by omega) (by omega)
    by_cases h2 : z < 2
    · rw [if_pos (c2.mpr h2), if_neg (fun q => absurd (hT.mp q).1 (by omega))]
      rfl
    · rw [if_neg (fun q => absurd (c2.mp q) (by omega))]
      by_cases h3 : 3 < z
      · rw [if_pos (c3.mpr h3), if_neg (fun q => absurd (hT.mp q).1 (by omega))]
        rfl
      · rw [if_neg (fun q => absurd (c3.mp q) (by omega))]
        have hb1 : sf_26 (Int32.ofNat s + 1) m = some (B (s + 1)) := by rw [sh_nI1, ← hB]; exact sh_26 h (by omega)
        rw [hb1, sh_bc_some]
        by_cases h48 : B (s + 1) = 48
        · rw [if_pos h48, if_neg (fun q => absurd h48 (hT.mp q).2.2.1)]
          rfl
        · rw [if_neg h48]
          show sf_33_99 _ _ _ (Int32.ofNat 0) (Int32.ofNat 1) m = _
          rw [sh_33l h hs hz (by omega), hB]
          by_cases hd1 : sf_31 (B (s + 1)) = true
          · rw [if_pos hd1]
            have hl1 := (sh_dgt_lt hd1).1
            by_cases hz2 : z = 2
            · subst hz2
              rw [sh_33e (by omega) (by omega)]
              have hw : sh_wdt B s 2 = 10 * 0 + sh_dgt (B (s + 1)) := by unfold sh_wdt; rw [if_pos rfl]; omega
              rw [← hw]
              by_cases hg : sh_wdt B s 2 ≤ 64 ∧ (B s = 105 → 2 ≤ sh_wdt B s 2)
              · rw [if_pos hg, if_pos (hT.mpr ⟨Or.inl rfl, hc, h48, hd1, fun q => absurd q (by omega), hg.1, hg.2⟩)]
              · rw [if_neg hg, if_neg (fun q => hg ⟨(hT.mp q).2.2.2.2.2.1, (hT.mp q).2.2.2.2.2.2⟩)]
            · have hz3 : z = 3 := by omega
              subst hz3
              rw [sh_33l h hs hz (by omega), hB, show s + (1 + 1) = s + 2 from rfl, show 1 + 1 + 1 = 3 from rfl]
              by_cases hd2 : sf_31 (B (s + 2)) = true
              · rw [if_pos hd2]
                have hl2 := (sh_dgt_lt hd2).1
                have hw : sh_wdt B s 3 = 10 * (10 * 0 + sh_dgt (B (s + 1))) + sh_dgt (B (s + 2)) := by unfold sh_wdt; rw [if_neg (by omega)]; omega
                rw [sh_33e (by omega) (by omega), ← hw]
                by_cases hg : sh_wdt B s 3 ≤ 64 ∧ (B s = 105 → 2 ≤ sh_wdt B s 3)
                · rw [if_pos hg, if_pos (hT.mpr ⟨Or.inr rfl, hc, h48, hd1, fun _ => hd2, hg.1, hg.2⟩)]
                · rw [if_neg hg, if_neg (fun q => hg ⟨(hT.mp q).2.2.2.2.2.1, (hT.mp q).2.2.2.2.2.2⟩)]
              · rw [if_neg hd2, if_neg (fun q => hd2 ((hT.mp q).2.2.2.2.1 rfl))]
                rfl
          · rw [if_neg hd1, if_neg (fun q => hd1 (hT.mp q).2.2.2.1)]
            rfl
  unfold sf_33_57
  by_cases h1 : B s = 117
  · rw [if_pos h1]; exact key (Or.inl h1)
  · rw [if_neg h1]
    by_cases h2 : B s = 105
    · rw [if_pos h2]; exact key (Or.inr h2)
    · rw [if_neg h2, if_neg (fun q => by rcases (hT.mp q).2.1 with h | h; exact h1 h; exact h2 h)]
      rfl
/-- baseOf -/
theorem sh_33 {n s z : Nat} {m : sh_X} (h : sh_Bc n m) (hs : s < 50000) (hz : z < 50000) : sf_33 (Int32.ofNat s) (Int32.ofNat z) m = some (Int32.ofNat (sp_ty (sh_by (m.I 1) n) s z)) := by
  have hr := sh_33r h hs hz
  unfold sf_33
  rw [sh_26 h (by omega), sh_bc_some, hr]
  have h1 : sf_26 (Int32.ofNat s + 1) m = some (sh_by (m.I 1) n (s + 1)) := by rw [sh_nI1]; exact sh_26 h (by omega)
  have h2 : sf_26 (Int32.ofNat s + 2) m = some (sh_by (m.I 1) n (s + 2)) := by rw [show (2 : Int32) = Int32.ofNat 2 from rfl, sh_nIadd]; exact sh_26 h (by omega)
  have h3 : sf_26 (Int32.ofNat s + 3) m = some (sh_by (m.I 1) n (s + 3)) := by rw [show (3 : Int32) = Int32.ofNat 3 from rfl, sh_nIadd]; exact sh_26 h (by omega)
  rw [h1, h2, h3]
  simp only [sh_bc_some]
  generalize sh_by (m.I 1) n = B
  have hz4 : Int32.ofNat z = 4 ↔ z = 4 := sh_nIeq (b := 4) (by omega) (by omega)
  have hE : sh_eqw B s z (sh_txs 10) = true ↔ (Int32.ofNat z = 4 ∧ B s = 98 ∧ B (s + 1) = 111 ∧ B (s + 2) = 111 ∧ B (s + 3) = 108) := by
    rw [sh_eqw_iff, hz4]
    constructor
    · rintro ⟨e, h⟩
      have e : z = 4 := e
      exact ⟨e, h 0 (by omega), h 1 (by omega), h 2 (by omega), h 3 (by omega)⟩
    · rintro ⟨e, a, b, c, d⟩
      refine ⟨e, fun k hk => ?_⟩
      rcases (show k = 0 ∨ k = 1 ∨ k = 2 ∨ k = 3 by omega) with rfl | rfl | rfl | rfl
      · exact a
      · exact b
      · exact c
      · exact d
  unfold sp_ty
  by_cases hq : sh_eqw B s z (sh_txs 10) = true
  · obtain ⟨a, b, c, d, e⟩ := hE.mp hq
    rw [if_pos a, if_pos b, if_pos c, if_pos d, if_pos e, if_pos hq]
    rfl
  · rw [if_neg hq]
    repeat' split
    all_goals first | rfl | (exfalso; apply hq; apply hE.mpr; simp_all; done)
