/-! EVALUATION: statements: what an assignment needs -/
theorem se_u2c {I : Nat → Nat → Int32} {c i d j : Nat} {x y : Int32} (h : c = d → i ≠ j) : sh_u2 (sh_u2 I c i x) d j y = sh_u2 (sh_u2 I d j y) c i x := by
  funext a b
  by_cases h1 : a = d ∧ b = j
  · obtain ⟨rfl, rfl⟩ := h1
    rw [sh_u2_same]
    by_cases h2 : a = c
    · subst h2
      rw [sh_u2_idx (fun r => h rfl r.symm), sh_u2_same]
    · rw [sh_u2_cell h2, sh_u2_same]
  · have e1 : ∀ (G : Nat → Nat → Int32), sh_u2 G d j y a b = G a b := fun G => by
      by_cases h2 : a = d
      · subst h2
        exact sh_u2_idx (fun r => h1 ⟨rfl, r⟩)
      · rw [sh_u2_cell h2]
    rw [e1]
    by_cases h3 : a = c
    · subst h3
      by_cases h4 : b = i
      · subst h4
        rw [sh_u2_same, sh_u2_same]
      · rw [sh_u2_idx h4, sh_u2_idx h4, e1]
    · rw [sh_u2_cell h3, sh_u2_cell h3, e1]
/-- the top of the model's memory is set, behind a failure -/
theorem se_mft41 {k x y : Int32} {m : sh_X} : ((sh_mft k x m).T, sh_u2 (sh_mft k x m).I 66 41 y, (sh_mft k x m).J, (sh_mft k x m).s) = sh_mft k x (m.T, sh_u2 m.I 66 41 y, m.J, m.s) := by
  show (m.T, sh_u2 (sh_u2 (sh_u2 m.I 66 6 k) 66 7 x) 66 41 y, m.J, m.s) = (m.T, sh_u2 (sh_u2 (sh_u2 m.I 66 41 y) 66 6 k) 66 7 x, m.J, m.s)
  rw [se_u2c (by omega), se_u2c (i := 6) (j := 41) (by omega)]
/-- the model writes a value into a name's place, where it is active -/
theorem se_153 {Q : sh_Q279} {ix n a f : Nat} {ac : Bool} {m : sh_X} {v : Nat → Int64} (hix : ix < 3000) (h57 : m.I 66 57 = sh_b2 ac) (i96 : m.I 96 ix = Int32.ofNat n) (i97 : m.I 97 ix = Int32.ofNat a) (hn : n ≤ 32) (ha : a + 32 ≤ 70000) (v0 : n = 0 → m.J 66 46 = v 0) (vn : 0 < n → m.J 66 46 = Int64.ofNat f ∧ a ≤ f ∧ f + n ≤ 70000 ∧ ∀ i, i < n → m.J 92 (f + i) = v i) :
    ∃ J2, sf_319_153 Q (Int32.ofNat ix) m = some (true, (m.T, m.I, J2, m.s)) ∧ (∀ c, c ≠ 92 → J2 c = m.J c) ∧ (∀ j, j < a ∨ a + sh_mx n ≤ j → J2 92 j = m.J 92 j) ∧ (∀ i, i < sh_mx n → J2 92 (a + i) = if ac = true then v i else m.J 92 (a + i)) := by
  have o : sh_okb (Int32.ofNat ix) 3000 = true := sh_okn' hix (by omega)
  cases ac with
  | false =>
    refine ⟨m.J, ?_, fun _ _ => rfl, fun _ _ => rfl, fun i _ => by rw [if_neg (by decide)]⟩
    unfold sf_319_153
    rw [h57, if_pos (by decide)]
  | true =>
    by_cases hn0 : n = 0
    · subst hn0
      refine ⟨sh_u2 m.J 92 a (m.J 66 46), ?_, fun c hc => sh_u2_cell hc, fun j hj => sh_u2_idx (by have e : sh_mx 0 = 1 := rfl; omega), fun i hi => ?_⟩
      · unfold sf_319_153 sf_319_186
        rw [h57, if_neg (by decide), if_pos o, sh_nIc (by omega), i96, if_pos (by decide), if_pos o, i97, if_pos (sh_okn' (by omega) (by omega)), sh_nIc (by omega)]
        unfold sf_319_189
        refine se_whileU ?_
        show sf_319_189s Q (Int32.ofNat ix) 0 (m.T, m.I, sh_u2 m.J 92 a (m.J 66 46), m.s) = _
        unfold sf_319_189s
        simp only [sh_X.I]
        rw [if_pos o, sh_nIc (by omega), show m.2.1 = m.I from rfl, i96, if_neg (by decide)]
        rfl
      · have : i = 0 := by have e : sh_mx 0 = 1 := rfl; omega
        subst this
        show sh_u2 m.J 92 a (m.J 66 46) 92 a = _
        rw [sh_u2_same, if_pos rfl]
        exact v0 rfl
    · obtain ⟨f1, f2, f3, f4⟩ := vn (by omega)
      have mxn : sh_mx n = n := sh_mx_pos (by omega)
      refine ⟨se_cp m.J a f n, ?_, fun c hc => se_cp_c hc, fun j hj => se_cp_out (by omega), fun i hi => ?_⟩
      · unfold sf_319_153 sf_319_186
        rw [h57, if_neg (by decide), if_pos o, sh_nIc (by omega), i96, if_neg (show ¬ Int32.ofNat n = 0 from fun w => hn0 ((sh_nIeq (b := 0) (by omega) (by omega)).mp w))]
        have main : ∀ d x, x + d = n → sf_319_189 Q (Int32.ofNat ix) (Int32.ofNat x) (m.T, m.I, se_cp m.J a f x, m.s) = some (true, (m.T, m.I, se_cp m.J a f n, m.s)) := by
          intro d
          induction d with
          | zero =>
            intro x hx
            have : x = n := by omega
            subst this
            unfold sf_319_189
            refine se_whileU ?_
            show sf_319_189s Q (Int32.ofNat ix) (Int32.ofNat x) (m.T, m.I, se_cp m.J a f x, m.s) = _
            unfold sf_319_189s
            simp only [sh_X.I]
            rw [if_pos o, sh_nIc (by omega), show m.2.1 = m.I from rfl, i96, if_neg (sh_nlt0 x)]
            rfl
          | succ d ih =>
            intro x hx
            rw [← ih (x + 1) (by omega)]
            have e46 : se_cp m.J a f x 66 46 = Int64.ofNat f := by rw [se_cp_c (by omega)]; exact f1
            have st : sf_319_189s Q (Int32.ofNat ix) (Int32.ofNat x) (m.T, m.I, se_cp m.J a f x, m.s) = some (.inl (Int32.ofNat (x + 1), (m.T, m.I, se_cp m.J a f (x + 1), m.s))) := by
              unfold sf_319_189s
              simp only [sh_X.I, sh_X.J]
              rw [if_pos o, sh_nIc (by omega), show m.2.1 = m.I from rfl, i96, if_pos ((sh_nIlt (by omega) (by omega)).mpr (by omega)), if_pos o]
              rw [show m.2.2.1 = m.J from rfl, e46, se_c64 (by omega), sh_nIadd, if_pos (sh_okn' (by omega) (by omega)), i97, sh_nIadd, if_pos (sh_okn' (by omega) (by omega)), sh_nIc (by omega), sh_nIc (by omega), sh_nI1, se_cp_1 (by omega)]
            unfold sf_319_189
            rw [sh_while_eq, st]
        have := main n 0 (by omega)
        rw [se_cp_0] at this
        exact this
      · rw [mxn] at hi
        rw [se_cp_in hi, if_pos rfl]
        exact f4 i hi
/-- a name of the class is found alike in two memories -/
theorem se_92c {m m2 : sh_X} {q B : Nat} {x : Int32} (hq : m.I 53 4 = Int32.ofNat q) (hq2 : m2.I 53 4 = Int32.ofNat q) (hB : m2.I 53 5 = m.I 53 5) (h : ∀ j, j < q → m2.I 54 j = m.I 54 j) (q1 : q ≤ 1024) : sf_92 x m2 = sf_92 x m := by
  have main : ∀ i, i ≤ q → sf_92_7 x (Int32.ofNat i - 1) m2 = sf_92_7 x (Int32.ofNat i - 1) m := by
    intro i
    induction i with
    | zero =>
      intro _
      have e : sf_92_7s x (Int32.ofNat 0 - 1) m2 = some (.inr (-1)) ∧ sf_92_7s x (Int32.ofNat 0 - 1) m = some (.inr (-1)) := by
        unfold sf_92_7s
        rw [hB]
        constructor
        · by_cases w : Int32.ofNat 0 - 1 < m.I 53 5
          · rw [if_pos w]
          · rw [if_neg w, if_pos (by decide)]
        · by_cases w : Int32.ofNat 0 - 1 < m.I 53 5
          · rw [if_pos w]
          · rw [if_neg w, if_pos (by decide)]
      unfold sf_92_7
      rw [sh_while_eq, sh_while_eq, e.1, e.2]
    | succ i ih =>
      intro hi
      rw [se_um1]
      have e : sf_92_7s x (Int32.ofNat i) m2 = sf_92_7s x (Int32.ofNat i) m := by
        unfold sf_92_7s
        rw [hB, sh_nIc (by omega), h i (by omega)]
      unfold sf_92_7
      rw [sh_while_eq, sh_while_eq, e]
      cases hs : sf_92_7s x (Int32.ofNat i) m with
      | none => rfl
      | some w =>
        cases w with
        | inr r => rfl
        | inl r =>
          have : r = Int32.ofNat i - 1 := by
            unfold sf_92_7s at hs
            rw [if_pos (sh_okn' (by omega) (by omega))] at hs
            split at hs
            · cases hs
            · split at hs
              · cases hs
              · split at hs
                · exact absurd (Option.some.inj hs) (fun w => by cases w)
                · have hr := Sum.inl.inj (Option.some.inj hs)
                  rw [← hr, Int32.sub_eq_add_neg]
          subst this
          exact ih (by omega)
  unfold sf_92
  rw [hq, hq2]
  exact main q (Nat.le_refl _)
