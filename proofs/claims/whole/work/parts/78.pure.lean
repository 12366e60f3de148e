/-! both lexers, side by side -/
theorem sh_dvn_lt {B : Nat → Int32} {s : Nat} : ∀ z, (∀ i, i < z → sf_31 (B (s + i)) = true) → sh_dvn B s z < 10 ^ z := by
  intro z
  induction z with
  | zero => intro _; exact Nat.one_pos
  | succ z ih =>
    intro h
    have h1 := ih (fun i hi => h i (by omega))
    have h2 := (sh_dgt_lt (h z (by omega))).1
    show 10 * sh_dvn B s z + sh_dgt (B (s + z)) < 10 ^ (z + 1)
    rw [Nat.pow_succ]
    omega
theorem sh_i64n {a : Nat} (h : a < 9223372036854775808) : (Int64.ofNat a).toInt = (a : Int) := Int64.toInt_ofNat_of_lt h
theorem sh_i32l {a : Nat} (h : a < 2147483648) : Int32.toInt64 (Int32.ofNat a) = Int64.ofNat a := by
  rw [← Int64.toInt_inj, Int32.toInt_toInt64, sh_nI h, sh_i64n (by omega)]
theorem sh_ck_L {B : Nat → Int32} {n : Nat} {t : sh_Tok} (hk : sh_Tk B n t) : sp_L (sh_ck B t) ≤ t.2.2 := by
  unfold sp_L
  have h1 := hk.2.1
  split
  · rename_i h
    obtain ⟨a, b⟩ := (sh_ck_rs (i := 10) (by omega) (Or.inl hk)).mp h
    have := (sh_eqw_iff.mp b).1
    have e : (sh_txs (sh_rsl.getD 10 0)).length = 6 := by decide
    omega
  split
  · rename_i h
    rcases h with h | h
    · have g1 := sh_ck_1 (Or.inl hk) (Or.inr h)
      by_cases h0 : sp_ty B t.2.1 t.2.2 = 0
      · unfold sh_ck at h
        rw [if_pos g1, if_pos h0] at h
        rcases sh_rsv_16 (B := B) (s := t.2.1) (z := t.2.2) sh_rsl 4 (by omega) (by decide) with r | r
        · rw [r] at h; exact absurd h (by decide)
        · rw [h] at r; exact absurd r (by decide)
      · by_cases hq : sh_eqw B t.2.1 t.2.2 (sh_txs 10) = true
        · have := (sh_eqw_iff.mp hq).1
          have e : (sh_txs 10).length = 4 := by decide
          omega
        · unfold sp_ty at h0
          rw [if_neg hq] at h0
          by_cases hT : sh_tyb B t.2.1 t.2.2 = true
          · have := (sh_tyb_iff.mp hT).1
            omega
          · rw [if_neg hT] at h0; exact absurd rfl h0
    · obtain ⟨a, b⟩ := (sh_ck_rs (i := 4) (by omega) (Or.inl hk)).mp h
      have := (sh_eqw_iff.mp b).1
      have e : (sh_txs (sh_rsl.getD 4 0)).length = 2 := by decide
      omega
  · exact h1
/-- where the class's words are of the text's tokens, there is one text for both -/
theorem sh_text {B : Nat → Int32} {n f : Nat} {l : List sh_Tok} {nm : List (Nat × Nat)} {m : sh_X} (hB : ∀ i, n ≤ i → B i = -1) (hr : ∀ i, -1 ≤ (B i).toInt ∧ (B i).toInt < 256) (n4 : n ≤ 4000) (hf : n ≤ f) (hl : sh_lx B n f 0 = .inr l) (hln : l.length ≤ n) (hC : sh_Cw B (l ++ [(0, n, 0)]) nm m) (hnm : nm.length ≤ 2001) : ∃ K P V, sh_Txt l.length K P V ∧ sh_Wc l.length K P V m ∧ sh_Wx B n (l ++ [(0, n, 0)]) l.length K P V := by
  obtain ⟨t1, t2⟩ := sh_lx_tok hB hr f 0 l (by omega) hl
  have hat : ∀ i, i < l.length → ∃ t, l[i]? = some t ∧ (l ++ [(0, n, 0)])[i]? = some t := by
    intro i hi
    exact ⟨l[i], List.getElem?_eq_getElem hi, by rw [List.getElem?_append_left hi]; exact List.getElem?_eq_getElem hi⟩
  have hend : (l ++ [((0 : Int32), n, 0)])[l.length]? = some (0, n, 0) := by simp
  have hcase : ∀ (i : Nat) (t : sh_Tok), (l ++ [((0 : Int32), n, 0)])[i]? = some t → (i < l.length ∧ l[i]? = some t) ∨ (i = l.length ∧ t = (0, n, 0)) := by
    intro i t ht
    by_cases hi : i < l.length
    · rw [List.getElem?_append_left hi] at ht; exact Or.inl ⟨hi, ht⟩
    · by_cases hi2 : i = l.length
      · subst hi2; rw [hend] at ht; cases ht; exact Or.inr ⟨rfl, rfl⟩
      · rw [List.getElem?_eq_none (by simp; omega)] at ht; cases ht
  have hck : ∀ (i : Nat) (t : sh_Tok), (l ++ [((0 : Int32), n, 0)])[i]? = some t → sh_Tk B n t ∨ t.1 = 0 := by
    intro i t ht
    rcases hcase i t ht with ⟨_, h⟩ | ⟨_, h⟩
    · exact Or.inl (t1 i t h).1
    · rw [h]; exact Or.inr rfl
  have hnumv : ∀ (i : Nat) (t : sh_Tok), (l ++ [((0 : Int32), n, 0)])[i]? = some t → (t.1 = 2 → (m.J 5 i).toInt.toNat = sh_dvn B t.2.1 t.2.2 ∧ sh_dvn B t.2.1 t.2.2 < 1000000000000000000 ∧ m.J 5 i = Int64.ofNat (sh_dvn B t.2.1 t.2.2)) ∧ (t.1 = 1 → sp_ty B t.2.1 t.2.2 ≠ 0 → (m.J 5 i).toInt.toNat = sp_ty B t.2.1 t.2.2 ∧ m.J 5 i = Int64.ofNat (sp_ty B t.2.1 t.2.2)) ∧ (sh_ck B t = 1 → ∃ a w, nm[a]? = some w ∧ sp_sw B w t.2 ∧ (m.J 5 i).toInt.toNat = a ∧ a < 2001 ∧ m.J 5 i = Int64.ofNat a) := by
    intro i t ht
    obtain ⟨q1, q2, q3, q4, q5⟩ := hC.kd i t ht
    refine ⟨fun h2 => ?_, fun h1 h0 => ?_, fun hc => ?_⟩
    · have hT : sh_Tk B n t := by
        rcases hck i t ht with g | g
        · exact g
        · rw [h2] at g; exact absurd g (by decide)
      obtain ⟨g4, g6⟩ := sh_Tk.dg hT h2
      have hlt : sh_dvn B t.2.1 t.2.2 < 1000000000000000000 := Nat.lt_of_lt_of_le (sh_dvn_lt _ g6) (Nat.le_trans (Nat.pow_le_pow_right (by omega) g4) (by decide))
      refine ⟨?_, hlt, q3 h2⟩
      rw [q3 h2, sh_i64n (by omega)]
      rfl
    · have hr := sh_ty_rng B t.2.1 t.2.2
      have e := q4 h1 h0
      rw [sh_i32l (by omega)] at e
      refine ⟨?_, e⟩
      rw [e, sh_i64n (by omega)]
      rfl
    · obtain ⟨a, w, h1, h2, h3⟩ := q5 (sh_ck_1 (hck i t ht) (Or.inl hc)) hc
      have ha := sh_len_of h1
      rw [sh_i32l (by omega)] at h3
      refine ⟨a, w, h1, h2, ?_, by omega, h3⟩
      rw [h3, sh_i64n (by omega)]
      rfl
  refine ⟨fun i => m.I 3 i, fun i => ((l ++ [((0 : Int32), n, 0)]).getD i (0, n, 0)).2.1, fun i => (m.J 5 i).toInt.toNat, ?_, ?_, ?_⟩
  · have hK : ∀ (i : Nat) (t : sh_Tok), (l ++ [((0 : Int32), n, 0)])[i]? = some t → m.I 3 i = sh_ck B t := fun i t ht => (hC.kd i t ht).1
    have hP : ∀ (i : Nat) (t : sh_Tok), (l ++ [((0 : Int32), n, 0)])[i]? = some t → ((l ++ [((0 : Int32), n, 0)]).getD i (0, n, 0)).2.1 = t.2.1 := fun i t ht => by rw [List.getD, ht]; rfl
    have hall : ∀ i, i ≤ l.length → ∃ t, (l ++ [((0 : Int32), n, 0)])[i]? = some t := by
      intro i hi
      by_cases h : i < l.length
      · obtain ⟨t, _, h2⟩ := hat i h; exact ⟨t, h2⟩
      · have : i = l.length := by omega
        subst this; exact ⟨_, hend⟩
    refine sh_Txt.mk (by omega) ?_ ?_ ?_ ?_ ?_ ?_ ?_
    · show m.I 3 l.length = 0
      rw [hK _ _ hend]
      exact if_neg (show ¬ (0 : Int32) = 1 by decide)
    · intro i hi
      show m.I 3 i ≠ 0
      obtain ⟨t, h1, h2⟩ := hat i hi
      rw [hK i t h2]
      have hT := (t1 i t h1).1
      intro q
      by_cases g1 : t.1 = 1
      · unfold sh_ck at q
        rw [if_pos g1] at q
        split at q
        · rcases sh_rsv_16 (B := B) (s := t.2.1) (z := t.2.2) sh_rsl 4 (by omega) (by decide) with r | r
          · rw [r] at q; exact absurd q (by decide)
          · rw [q] at r; exact absurd r (by decide)
        · exact absurd q (by decide)
      · have e : sh_ck B t = t.1 := if_neg g1
        rw [e] at q
        rcases hT.2.2 with g | g | g
        · exact g1 g.1
        · rw [g.1] at q; exact absurd q (by decide)
        · rw [q] at g; exact absurd g (by decide)
    · intro i hi
      obtain ⟨t, h1, h2⟩ := hat i hi
      obtain ⟨u, h3⟩ := hall (i + 1) (by omega)
      rw [hP i t h2, hP (i + 1) u h3, hK i t h2]
      have := sh_ck_L (t1 i t h1).1
      rcases hcase (i + 1) u h3 with ⟨_, h⟩ | ⟨_, h⟩
      · have := t2 i t u h1 h
        omega
      · rw [h]
        have := (t1 i t h1).1.1
        show _ ≤ n
        omega
    · show ((l ++ [((0 : Int32), n, 0)]).getD l.length (0, n, 0)).2.1 ≤ 4000
      rw [hP _ _ hend]
      exact n4
    · intro i hi hk
      obtain ⟨t, ht⟩ := hall i hi
      obtain ⟨a, w, h1, h2, h3, h4, h5⟩ := (hnumv i t ht).2.2 (by rw [← hK i t ht]; exact hk)
      show (m.J 5 i).toInt.toNat < 2001
      omega
    · intro i hi hk
      obtain ⟨t, ht⟩ := hall i hi
      have hk2 : sh_ck B t = 2 := by rw [← hK i t ht]; exact hk
      have h2 : t.1 = 2 := by
        by_cases g1 : t.1 = 1
        · unfold sh_ck at hk2
          rw [if_pos g1] at hk2
          split at hk2
          · rcases sh_rsv_16 (B := B) (s := t.2.1) (z := t.2.2) sh_rsl 4 (by omega) (by decide) with r | r
            · rw [r] at hk2; exact absurd hk2 (by decide)
            · rw [hk2] at r; exact absurd r (by decide)
          · exact absurd hk2 (by decide)
        · have e : sh_ck B t = t.1 := if_neg g1
          rw [← e]; exact hk2
      obtain ⟨h3, h4, _⟩ := (hnumv i t ht).1 h2
      show (m.J 5 i).toInt.toNat < _
      omega
    · intro i hi hk
      obtain ⟨t, ht⟩ := hall i hi
      have hk2 : sh_ck B t = 3 := by rw [← hK i t ht]; exact hk
      have g1 := sh_ck_1 (hck i t ht) (Or.inr hk2)
      have h0 : sp_ty B t.2.1 t.2.2 ≠ 0 := by
        intro h0
        unfold sh_ck at hk2
        rw [if_pos g1, if_pos h0] at hk2
        rcases sh_rsv_16 (B := B) (s := t.2.1) (z := t.2.2) sh_rsl 4 (by omega) (by decide) with r | r
        · rw [r] at hk2; exact absurd hk2 (by decide)
        · rw [hk2] at r; exact absurd r (by decide)
      obtain ⟨h3, _⟩ := (hnumv i t ht).2.1 g1 h0
      have := sh_ty_rng B t.2.1 t.2.2
      show (m.J 5 i).toInt.toNat = 257 ∨ _
      rw [h3]
      rcases this with h | h | h | h
      · exact absurd h h0
      · exact Or.inl h
      · exact Or.inr (Or.inl h)
      · exact Or.inr (Or.inr h)
  · refine sh_Wc.mk ?_ ?_ ?_
    · rw [hC.am]; simp
    · intro i hi
      refine ⟨rfl, ?_⟩
      obtain ⟨t, ht⟩ : ∃ t, (l ++ [((0 : Int32), n, 0)])[i]? = some t := ⟨_, List.getElem?_eq_getElem (by simp; omega)⟩
      rw [(hC.kd i t ht).2.1]
      show Int32.ofNat t.2.1 = Int32.ofNat ((l ++ [((0 : Int32), n, 0)]).getD i (0, n, 0)).2.1
      rw [List.getD, ht]
      rfl
    · intro i hi hk
      obtain ⟨t, ht⟩ : ∃ t, (l ++ [((0 : Int32), n, 0)])[i]? = some t := ⟨_, List.getElem?_eq_getElem (by simp; omega)⟩
      have hK := (hC.kd i t ht).1
      have hnv := hnumv i t ht
      show m.J 5 i = Int64.ofNat (m.J 5 i).toInt.toNat
      rcases hk with hk | hk | hk
      · obtain ⟨a, w, h1, h2, h3, h4, h5⟩ := hnv.2.2 (by rw [← hK]; exact hk)
        rw [h3]; exact h5
      · by_cases g1 : t.1 = 1
        · exfalso
          have hk2 : sh_ck B t = 2 := by rw [← hK]; exact hk
          unfold sh_ck at hk2
          rw [if_pos g1] at hk2
          split at hk2
          · rcases sh_rsv_16 (B := B) (s := t.2.1) (z := t.2.2) sh_rsl 4 (by omega) (by decide) with r | r
            · rw [r] at hk2; exact absurd hk2 (by decide)
            · rw [hk2] at r; exact absurd r (by decide)
          · exact absurd hk2 (by decide)
        · have e : sh_ck B t = t.1 := if_neg g1
          obtain ⟨h3, h4, h5⟩ := hnv.1 (by rw [← e, ← hK]; exact hk)
          rw [h3]; exact h5
      · have hk2 : sh_ck B t = 3 := by rw [← hK]; exact hk
        have g1 := sh_ck_1 (hck i t ht) (Or.inr hk2)
        have h0 : sp_ty B t.2.1 t.2.2 ≠ 0 := by
          intro h0
          unfold sh_ck at hk2
          rw [if_pos g1, if_pos h0] at hk2
          rcases sh_rsv_16 (B := B) (s := t.2.1) (z := t.2.2) sh_rsl 4 (by omega) (by decide) with r | r
          · rw [r] at hk2; exact absurd hk2 (by decide)
          · rw [hk2] at r; exact absurd r (by decide)
        obtain ⟨h3, h5⟩ := hnv.2.1 g1 h0
        rw [h3]; exact h5
  · refine sh_Wx.mk (by simp) ?_ ?_
    · intro i t ht
      refine ⟨hck i t ht, (hC.kd i t ht).1, ?_, fun h2 => ((hnumv i t ht).1 h2).1, fun h1 h0 => ((hnumv i t ht).2.1 h1 h0).1⟩
      show ((l ++ [((0 : Int32), n, 0)]).getD i (0, n, 0)).2.1 = _
      rw [List.getD, ht]
      rfl
    · intro i j t u ht hu hi hj
      have hi : m.I 3 i = 1 := hi
      have hj : m.I 3 j = 1 := hj
      obtain ⟨a, w, h1, h2, h3, h4, h5⟩ := (hnumv i t ht).2.2 (by rw [← (hC.kd i t ht).1]; exact hi)
      obtain ⟨b, v, g1, g2, g3, g4, g5⟩ := (hnumv j u hu).2.2 (by rw [← (hC.kd j u hu).1]; exact hj)
      show (m.J 5 i).toInt.toNat = (m.J 5 j).toInt.toNat ↔ _
      rw [h3, g3]
      constructor
      · intro e
        rw [e, g1] at h1
        cases h1
        exact h2.symm.trans g2
      · intro e
        exact hC.nd a b w v h1 g1 (h2.trans (e.trans g2.symm))
