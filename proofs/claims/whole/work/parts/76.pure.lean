/-! names, types and numbers, as the model reads them -/
theorem sh_rsv_none {B : Nat → Int32} {s z : Nat} : ∀ (l : List Nat) (c : Nat), (∀ j, j ∈ l → ¬ sh_eqw B s z (sh_txs j) = true) → sh_rsv B s z l c = 1 := by
  intro l
  induction l with
  | nil => intro c _; rfl
  | cons a r ih =>
    intro c h
    unfold sh_rsv
    rw [if_neg (h a (by simp))]
    exact ih (c + 1) (fun j hj => h j (by simp [hj]))
theorem sh_rs2 : ∀ i : Fin 12, 2 ≤ (sh_txs (sh_rsl.getD i.1 0)).length ∧ 97 ≤ (sh_txs (sh_rsl.getD i.1 0)).getD 1 0 ∧ (sh_txs (sh_rsl.getD i.1 0)).getD 1 0 < 128 ∧ sh_txs (sh_rsl.getD i.1 0) ≠ sh_txs 10 := by decide
/-- a reserved word is no type -/
theorem sh_rs_ty {B : Nat → Int32} {s z i : Nat} (hi : i < 12) (h : sh_eqw B s z (sh_txs (sh_rsl.getD i 0)) = true) : sp_ty B s z = 0 := by
  obtain ⟨h1, h2, h3, h4⟩ := sh_rs2 ⟨i, hi⟩
  obtain ⟨e1, e2⟩ := sh_eqw_iff.mp h
  have e3 := e2 1 (by rw [e1]; exact h1)
  unfold sp_ty
  rw [if_neg (fun q => h4 (sh_eqw_det h q (sh_txs_small _) (sh_txs_small _))), if_neg]
  intro q
  have := (sh_dig _).mp (sh_tyb_iff.mp q).2.2.2.1
  rw [e3, sh_nI (by simp only at h3; omega)] at this
  simp only at h2
  omega
theorem sh_ck_rs {B : Nat → Int32} {t : sh_Tok} {n i : Nat} (hi : i < 12) (hk : sh_Tk B n t ∨ t.1 = 0) : sh_ck B t = Int32.ofNat (4 + i) ↔ (t.1 = 1 ∧ sh_eqw B t.2.1 t.2.2 (sh_txs (sh_rsl.getD i 0)) = true) := by
  unfold sh_ck
  by_cases h1 : t.1 = 1
  · rw [if_pos h1]
    by_cases h0 : sp_ty B t.2.1 t.2.2 = 0
    · rw [if_pos h0, sh_rsv_iff hi]
      exact ⟨fun q => ⟨h1, q⟩, fun q => q.2⟩
    · rw [if_neg h0]
      constructor
      · intro q
        exact absurd ((sh_nIeq (a := 3) (by omega) (by omega)).mp q) (by omega)
      · intro q
        exact absurd (sh_rs_ty hi q.2) h0
  · rw [if_neg h1]
    constructor
    · intro q
      have e : t.1.toInt = ((4 + i : Nat) : Int) := by rw [q, sh_nI (by omega)]
      rcases hk with hk | hk
      · rcases hk.2.2 with g | g | g
        · exact absurd g.1 h1
        · rw [g.1] at e
          have e : (2 : Int) = ((4 + i : Nat) : Int) := e
          omega
        · omega
      · rw [hk] at e
        have e : (0 : Int) = ((4 + i : Nat) : Int) := e
        omega
    · intro q
      exact absurd q.1 h1
/-- isKept, isName -/
theorem sh_259 {B : Nat → Int32} {n i : Nat} {ts : List sh_Tok} {t : sh_Tok} {m : sh_X} (h : sh_Wa ts m) (hb : sh_Wb B n 67 m) (ht : ts[i]? = some t) (hk : t.1 = 1 → sh_Tk B n t) : sf_259 (Int32.ofNat i) m = some (decide (sh_ck B t = 1)) := by
  have hi : i < 4001 := by have := sh_len_of ht; have := h.l4; omega
  obtain ⟨k1, k2, k3⟩ := h.kd i t ht
  have hok : sh_okb (Int32.ofNat i) 4002 = true := (sh_okn (by omega)).mpr (by omega)
  unfold sf_259
  rw [if_pos hok, sh_nIc (by omega), k1]
  by_cases h1 : t.1 = 1
  · rw [if_pos h1]
    have hw : ∀ j, 0 < sh_txn j → sh_txn j < 1000 → sf_256 (Int32.ofNat i) j m = some (sh_eqw B t.2.1 t.2.2 (sh_txs j)) := by
      intro j h0 h2
      rw [sh_256 h hb ht hk h0 h2, decide_eq_true h1, Bool.true_and]
    have hck : sh_ck B t = if sp_ty B t.2.1 t.2.2 = 0 then sh_rsv B t.2.1 t.2.2 sh_rsl 4 else 3 := by unfold sh_ck; rw [if_pos h1]
    have key : ∃ b, sf_260 (Int32.ofNat i) m = some b ∧ (b = true ↔ (sh_eqw B t.2.1 t.2.2 (sh_txs 10) = true ∨ ∃ j, j ∈ sh_rsl ∧ sh_eqw B t.2.1 t.2.2 (sh_txs j) = true)) := by
      unfold sf_260 sf_260_139
      rw [hw 8 (by decide) (by decide), hw 9 (by decide) (by decide), hw 10 (by decide) (by decide), hw 11 (by decide) (by decide), hw 12 (by decide) (by decide), hw 7 (by decide) (by decide), hw 13 (by decide) (by decide), hw 14 (by decide) (by decide), hw 15 (by decide) (by decide), hw 16 (by decide) (by decide), hw 17 (by decide) (by decide), hw 18 (by decide) (by decide), hw 19 (by decide) (by decide)]
      simp only [sh_bc_some]
      refine ⟨(sh_eqw B t.2.1 t.2.2 (sh_txs 10) || sh_rsl.any (fun j => sh_eqw B t.2.1 t.2.2 (sh_txs j))), ?_, ?_⟩
      · unfold sh_rsl
        simp only [List.any_cons, List.any_nil]
        cases sh_eqw B t.2.1 t.2.2 (sh_txs 8) <;> cases sh_eqw B t.2.1 t.2.2 (sh_txs 9) <;> cases sh_eqw B t.2.1 t.2.2 (sh_txs 10) <;> cases sh_eqw B t.2.1 t.2.2 (sh_txs 11) <;> cases sh_eqw B t.2.1 t.2.2 (sh_txs 12) <;> try rfl
        cases sh_eqw B t.2.1 t.2.2 (sh_txs 7) <;> cases sh_eqw B t.2.1 t.2.2 (sh_txs 13) <;> cases sh_eqw B t.2.1 t.2.2 (sh_txs 14) <;> cases sh_eqw B t.2.1 t.2.2 (sh_txs 15) <;> try rfl
        cases sh_eqw B t.2.1 t.2.2 (sh_txs 16) <;> cases sh_eqw B t.2.1 t.2.2 (sh_txs 17) <;> cases sh_eqw B t.2.1 t.2.2 (sh_txs 18) <;> cases sh_eqw B t.2.1 t.2.2 (sh_txs 19) <;> rfl
      · rw [Bool.or_eq_true, List.any_eq_true]
    obtain ⟨b, hb1, hb2⟩ := key
    rw [hb1, sh_bc_some]
    have hidx : ∀ j, j ∈ sh_rsl → ∃ k, k < 12 ∧ sh_rsl.getD k 0 = j := by decide
    cases b with
    | true =>
      rw [if_pos rfl]
      rw [decide_eq_false]
      intro q
      rcases hb2.mp rfl with h2 | ⟨j, hj, h2⟩
      · have : sp_ty B t.2.1 t.2.2 = 257 := by unfold sp_ty; rw [if_pos h2]
        rw [hck, if_neg (by omega)] at q
        exact absurd q (by decide)
      · obtain ⟨k, hk1, hk2⟩ := hidx j hj
        rw [← hk2] at h2
        have := (sh_ck_rs hk1 (Or.inl (hk h1))).mpr ⟨h1, h2⟩
        rw [q] at this
        exact absurd ((sh_nIeq (a := 1) (by omega) (by omega)).mp this) (by omega)
    | false =>
      rw [if_neg (by simp), sh_261 h hb ht hk, sh_bc_some]
      have hno : ¬ (sh_eqw B t.2.1 t.2.2 (sh_txs 10) = true ∨ ∃ j, j ∈ sh_rsl ∧ sh_eqw B t.2.1 t.2.2 (sh_txs j) = true) := fun q => by have := hb2.mpr q; cases this
      have hr : sh_rsv B t.2.1 t.2.2 sh_rsl 4 = 1 := sh_rsv_none _ _ (fun j hj q => hno (Or.inr ⟨j, hj, q⟩))
      by_cases h0 : sp_ty B t.2.1 t.2.2 = 0
      · rw [if_neg (show ¬ (t.1 = 1 ∧ sp_ty B t.2.1 t.2.2 ≠ 0) from fun q => q.2 h0), if_pos (show (-1 : Int32) < 0 by decide), decide_eq_true (by rw [hck, if_pos h0]; exact hr)]
      · rw [if_pos (show t.1 = 1 ∧ sp_ty B t.2.1 t.2.2 ≠ 0 from ⟨h1, h0⟩)]
        have hr := sh_ty_rng B t.2.1 t.2.2
        rw [if_neg (sh_nI0 (n := sh_mt (sp_ty B t.2.1 t.2.2)) (by unfold sh_mt; split <;> (try split) <;> omega)), decide_eq_false (by rw [hck, if_neg h0]; decide)]
  · rw [if_neg h1, decide_eq_false (by unfold sh_ck; rw [if_neg h1]; exact h1)]
/-- numberOf -/
theorem sh_281 {B : Nat → Int32} {n i : Nat} {ts : List sh_Tok} {t : sh_Tok} {m : sh_X} (h : sh_Wa ts m) (hb : sh_Wb B n 71 m) (ht : ts[i]? = some t) (hk : sh_Tk B n t) (h1 : t.1 = 2) : sf_281 (Int32.ofNat i) m = some (Int64.ofNat (sh_dvn B t.2.1 t.2.2)) := by
  have n4 := hb.n4
  have hi : i < 4001 := by have := sh_len_of ht; have := h.l4; omega
  obtain ⟨k1, k2, k3⟩ := h.kd i t ht
  have hok : sh_okb (Int32.ofNat i) 4002 = true := (sh_okn (by omega)).mpr (by omega)
  have g1 := hk.1
  obtain ⟨g4, g6⟩ := sh_Tk.dg hk h1
  unfold sf_281 sf_281_5
  have hrun := sh_wrun (f := fun q : Int64 × Int32 => sf_281_5s (Int32.ofNat i) q.1 q.2 m) (fun k => (Int64.ofNat (sh_dvn B t.2.1 k), Int32.ofNat k)) (k := 0) (e := t.2.2) (by omega) (fun k _ hk2 => by
    show sf_281_5s _ _ _ m = _
    unfold sf_281_5s
    have hraw : m.I 71 (t.2.1 + k) = B (t.2.1 + k) := hb.raw (by omega) ((sh_npt _).mpr (Or.inr (Or.inl (g6 k hk2))))
    rw [if_pos hok, sh_nIc (by omega), k3, k2, if_pos ((sh_nIlt (by omega) (by omega)).mpr hk2), if_pos hok, sh_nIadd, if_pos ((sh_okn (by omega)).mpr (by omega)), sh_nIc (by omega), hraw, sh_dig10L (g6 k hk2), sh_nI1]
    rfl)
  rw [show ((0 : Int64), (0 : Int32)) = (Int64.ofNat (sh_dvn B t.2.1 0), Int32.ofNat 0) from rfl, hrun]
  refine sh_wend ?_
  show sf_281_5s _ _ _ m = _
  unfold sf_281_5s
  rw [if_pos hok, sh_nIc (by omega), k3, if_neg (fun q => absurd ((sh_nIlt (by omega) (by omega)).mp q) (by omega))]
/-- areSame -/
theorem sh_279 {B : Nat → Int32} {n i j : Nat} {ts : List sh_Tok} {t u : sh_Tok} {m : sh_X} (h : sh_Wa ts m) (hb : sh_Wb B n 71 m) (ht : ts[i]? = some t) (hu : ts[j]? = some u) (hk : sh_Tk B n t) (hl : sh_Tk B n u) (h1 : t.1 = 1) (h2 : u.1 = 1) : ∃ b, sf_279 (Int32.ofNat i) (Int32.ofNat j) m = some b ∧ (b = true ↔ sp_sw B t.2 u.2) := by
  have n4 := hb.n4
  have hi : i < 4001 := by have := sh_len_of ht; have := h.l4; omega
  have hj : j < 4001 := by have := sh_len_of hu; have := h.l4; omega
  obtain ⟨k1, k2, k3⟩ := h.kd i t ht
  obtain ⟨l1, l2, l3⟩ := h.kd j u hu
  have hok : sh_okb (Int32.ofNat i) 4002 = true := (sh_okn (by omega)).mpr (by omega)
  have hokj : sh_okb (Int32.ofNat j) 4002 = true := (sh_okn (by omega)).mpr (by omega)
  have g1 := hk.1
  have gu1 := hl.1
  obtain ⟨g4, g5, g6⟩ := sh_Tk.nm hk h1
  obtain ⟨u4, u5, u6⟩ := sh_Tk.nm hl h2
  unfold sf_279
  rw [if_pos hok, if_pos hokj, sh_nIc (by omega), sh_nIc (by omega), k3, l3]
  by_cases hz : t.2.2 = u.2.2
  · rw [if_pos (by rw [hz])]
    unfold sf_279_19
    have := sh_wall (f := fun q => sf_279_19s (Int32.ofNat i) (Int32.ofNat j) q m) (P := fun k => B (t.2.1 + k) = B (u.2.1 + k)) (n := t.2.2) (a := false) (b := true) (fun k hk2 hp => by
      show sf_279_19s _ _ _ m = _
      unfold sf_279_19s
      rw [if_pos hok, sh_nIc (by omega), k3, k2, if_pos ((sh_nIlt (by omega) (by omega)).mpr hk2), if_pos hok, sh_nIadd, if_pos ((sh_okn (by omega)).mpr (by omega)), if_pos hokj, sh_nIc (by omega), l2, sh_nIadd, if_pos ((sh_okn (by omega)).mpr (by omega)), sh_nIc (by omega), sh_nIc (by omega), hb.raw (by omega) (g6 k hk2), hb.raw (by omega) (u6 k (by omega)), if_pos hp, sh_nI1]) (fun k hk2 hp => by
      show sf_279_19s _ _ _ m = _
      unfold sf_279_19s
      rw [if_pos hok, sh_nIc (by omega), k3, k2, if_pos ((sh_nIlt (by omega) (by omega)).mpr hk2), if_pos hok, sh_nIadd, if_pos ((sh_okn (by omega)).mpr (by omega)), if_pos hokj, sh_nIc (by omega), l2, sh_nIadd, if_pos ((sh_okn (by omega)).mpr (by omega)), sh_nIc (by omega), sh_nIc (by omega), hb.raw (by omega) (g6 k hk2), hb.raw (by omega) (u6 k (by omega)), if_neg hp]) (by
      show sf_279_19s _ _ _ m = _
      unfold sf_279_19s
      rw [if_pos hok, sh_nIc (by omega), k3, if_neg (fun q => absurd ((sh_nIlt (by omega) (by omega)).mp q) (by omega))]) 0 (by omega) (fun i hi => absurd hi (by omega))
    rcases this with ⟨a, b⟩ | ⟨a, b⟩
    · exact ⟨true, b, ⟨fun _ => ⟨hz, a⟩, fun _ => rfl⟩⟩
    · exact ⟨false, b, ⟨fun q => (by cases q), fun q => absurd q.2 a⟩⟩
  · rw [if_neg (fun q => hz ((sh_nIeq (by omega) (by omega)).mp q))]
    exact ⟨false, rfl, ⟨fun q => (by cases q), fun q => absurd q.1 hz⟩⟩
/-- typeWord -/
theorem sh_285 {B : Nat → Int32} {n i : Nat} {ts : List sh_Tok} {t : sh_Tok} {m : sh_X} (h : sh_Wa ts m) (hb : sh_Wb B n 71 m) (ht : ts[i]? = some t) (hk : sh_Tk B n t) (h1 : t.1 = 1) (h0 : sp_ty B t.2.1 t.2.2 ≠ 0) : sf_285 (Int32.ofNat i) m = some (Int32.ofNat (sh_mt (sp_ty B t.2.1 t.2.2))) := by
  have n4 := hb.n4
  have hi : i < 4001 := by have := sh_len_of ht; have := h.l4; omega
  obtain ⟨k1, k2, k3⟩ := h.kd i t ht
  have hok : sh_okb (Int32.ofNat i) 4002 = true := (sh_okn (by omega)).mpr (by omega)
  have g1 := hk.1
  have g2 := hk.2.1
  obtain ⟨g4, g5, g6⟩ := sh_Tk.nm hk h1
  have hraw : ∀ k, k < t.2.2 → m.I 71 (t.2.1 + k) = B (t.2.1 + k) := fun k hk2 => hb.raw (by omega) (g6 k hk2)
  unfold sf_285
  have hr0 : m.I 71 t.2.1 = B t.2.1 := hraw 0 (by omega)
  rw [if_pos hok, sh_nIc (by omega), k2, if_pos ((sh_okn (by omega)).mpr (by omega)), sh_nIc (by omega), hr0]
  by_cases hq : sh_eqw B t.2.1 t.2.2 (sh_txs 10) = true
  · have e : sp_ty B t.2.1 t.2.2 = 257 := by unfold sp_ty; rw [if_pos hq]
    have e98 : B t.2.1 = 98 := (sh_eqw_iff.mp hq).2 0 (by omega)
    rw [if_pos e98, e]
    rfl
  · have eT : sp_ty B t.2.1 t.2.2 = if sh_tyb B t.2.1 t.2.2 = true then (if B t.2.1 = 105 then 128 + sh_wdt B t.2.1 t.2.2 else sh_wdt B t.2.1 t.2.2) else 0 := by unfold sp_ty; rw [if_neg hq]
    have hT : sh_tyb B t.2.1 t.2.2 = true := by
      by_cases q : sh_tyb B t.2.1 t.2.2 = true
      · exact q
      · rw [if_neg q] at eT; exact absurd eT h0
    rw [if_pos hT] at eT
    obtain ⟨q1, q2, q3, q4, q5, q6, q7⟩ := sh_tyb_iff.mp hT
    rw [if_neg (by rcases q2 with q | q <;> (rw [q]; decide))]
    have hst : ∀ a k, k < t.2.2 → sf_31 (B (t.2.1 + k)) = true → sf_285_25 (Int32.ofNat i) (B t.2.1) (Int32.ofNat a) (Int32.ofNat k) m = sf_285_25 (Int32.ofNat i) (B t.2.1) (Int32.ofNat (10 * a + sh_dgt (B (t.2.1 + k)))) (Int32.ofNat (k + 1)) m := by
      intro a k hk2 hd
      unfold sf_285_25
      refine sh_wstep ?_
      show sf_285_25s _ _ _ _ m = _
      unfold sf_285_25s
      rw [if_pos hok, sh_nIc (by omega), k3, k2, if_pos ((sh_nIlt (by omega) (by omega)).mpr hk2), if_pos hok, sh_nIadd, if_pos ((sh_okn (by omega)).mpr (by omega)), sh_nIc (by omega), hraw k hk2, sh_dig10 hd, sh_nI1]
    have fin : sf_285_25 (Int32.ofNat i) (B t.2.1) (Int32.ofNat (sh_wdt B t.2.1 t.2.2)) (Int32.ofNat t.2.2) m = some (Int32.ofNat (sh_mt (sp_ty B t.2.1 t.2.2))) := by
      unfold sf_285_25
      refine sh_wend ?_
      show sf_285_25s _ _ _ _ m = _
      unfold sf_285_25s sf_285_78
      rw [if_pos hok, sh_nIc (by omega), k3, if_neg (fun q => absurd ((sh_nIlt (by omega) (by omega)).mp q) (by omega))]
      have hr := sh_ty_rng B t.2.1 t.2.2
      have hl1 := (sh_dgt_lt q4).1
      rcases q2 with q | q
      · have h105 : ¬ B t.2.1 = 105 := by rw [q]; decide
        rw [if_neg h105] at eT
        rw [if_pos q, eT]
        unfold sh_mt
        rw [if_neg (by omega), if_neg (by omega), show (64 : Int32) * 1 = Int32.ofNat 64 from rfl, sh_nIadd, show (1 : Int32) = Int32.ofNat 1 from rfl, sh_nIsub (by omega), show 64 + sh_wdt B t.2.1 t.2.2 - 1 = 63 + sh_wdt B t.2.1 t.2.2 by omega]
        rfl
      · have h117 : ¬ B t.2.1 = 117 := by rw [q]; decide
        rw [if_pos q] at eT
        have := q7 q
        rw [if_neg h117, eT]
        unfold sh_mt
        rw [if_neg (by omega), if_pos (by omega), show (64 : Int32) * 2 = Int32.ofNat 128 from rfl, sh_nIadd, show (1 : Int32) = Int32.ofNat 1 from rfl, sh_nIsub (by omega)]
        rfl
    show sf_285_25 _ _ (Int32.ofNat 0) (Int32.ofNat 1) m = _
    rcases q1 with hz | hz
    · rw [hst 0 1 (by omega) q4]
      have : 10 * 0 + sh_dgt (B (t.2.1 + 1)) = sh_wdt B t.2.1 t.2.2 := by unfold sh_wdt; rw [if_pos hz]; omega
      rw [this, ← fin, hz]
    · rw [hst 0 1 (by omega) q4, hst _ 2 (by omega) (q5 hz)]
      have : 10 * (10 * 0 + sh_dgt (B (t.2.1 + 1))) + sh_dgt (B (t.2.1 + 2)) = sh_wdt B t.2.1 t.2.2 := by unfold sh_wdt; rw [if_neg (by omega)]; omega
      rw [this, ← fin, hz]
