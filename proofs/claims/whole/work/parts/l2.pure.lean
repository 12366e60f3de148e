/-! CIRCUITS: the model reckons a circuit -/
def sj_b1 (b : Bool) : Int32 := if b = true then 1 else 0
theorem sj_b1n (b : Bool) : vp_nar .boolean (sh_b2 b) = sj_b1 b := by cases b <;> decide
theorem sj_b1z (b : Bool) : sj_b1 b = 0 ↔ b = false := by cases b <;> decide
theorem sj_b1e (b c : Bool) : sj_b1 b = sj_b1 c ↔ b = c := by cases b <;> cases c <;> decide
theorem sj_b1m (b : Bool) : vp_nar .boolean (sj_b1 b) = sj_b1 b := by cases b <;> decide
/-- the worths that a reckoning starts from -/
def sj_v (a b : Nat) (D : Nat → Int64) (S : Nat → Int32) (w : Nat) : Bool := if w < a then (D (w / 64)).toBitVec.getLsbD (w % 64) else if w < a + b then (D (256 + (w - a) / 64)).toBitVec.getLsbD ((w - a) % 64) else decide (S w = 1)
/-- one input's bit -/
theorem sj_51 {w u : Nat} {x2 : Bool} {m : sh_X} (hw : w < 4000) (hu : u < 1000) : sf_339_51 (Int32.ofNat w) x2 (Int32.ofNat u) m = some (.inl (Int32.ofNat (w + 1), (m.T, sh_u2 m.I 122 w (sj_b1 ((m.J 103 ((if x2 = true then 256 else 0) + u / 64)).toBitVec.getLsbD (u % 64))), m.J, m.s))) := by
  have e1 : Int32.ofNat u / 64 = Int32.ofNat (u / 64) := sh_idiv (b := 64) (by omega) (by omega)
  have e2 : Int32.ofNat u - Int32.ofNat (u / 64) * 64 = Int32.ofNat (u % 64) := by
    rw [show Int32.ofNat (u / 64) * 64 = Int32.ofNat (u / 64 * 64) from sh_nImul (b := 64), sh_nIs (by omega), show u - u / 64 * 64 = u % 64 by omega]
  have e3 : 256 * sh_b2 x2 + Int32.ofNat (u / 64) = Int32.ofNat ((if x2 = true then 256 else 0) + u / 64) := by
    cases x2 with
    | true => exact sh_nIadd (a := 256)
    | false => exact sh_nIadd (a := 0)
  have l5 : (if x2 = true then 256 else 0) + u / 64 < 512 := by cases x2 <;> simp <;> omega
  have ow : sh_okb (Int32.ofNat w) 4000 = true := sh_okn' hw (by omega)
  unfold sf_339_51 sf_339_89
  rw [e1, e2, e3, if_pos (sh_okn' l5 (by omega)), sh_nIc (by omega), sh_ubit _ (Nat.mod_lt u (by omega)), if_pos ow, if_pos ow, sh_nIc (by omega), sh_nI1, sj_b1n, sj_b1n]
  by_cases q : (m.J 103 ((if x2 = true then 256 else 0) + u / 64)).toBitVec.getLsbD (u % 64) = true
  · rw [if_pos q, if_pos rfl, q]
  · rw [if_neg q, if_neg (by decide), Bool.eq_false_iff.mpr q]
/-- the inputs -/
theorem sj_in {a b : Nat} {m : sh_X} (ha : a ≤ 500) (hb : b ≤ 500) (h0 : m.I 121 0 = Int32.ofNat a) (h1 : m.I 121 1 = Int32.ofNat b) (hS : ∀ w, w < 4000 → m.I 122 w = 0 ∨ m.I 122 w = 1) :
    ∃ m2, sf_339 m = sf_339_98 0 m2 ∧ m2.T = m.T ∧ m2.J = m.J ∧ m2.s = m.s ∧ (∀ c, c ≠ 122 → m2.I c = m.I c) ∧ ∀ w, w < 4000 → m2.I 122 w = sj_b1 (sj_v a b (m.J 103) (m.I 122) w) := by
  have lp : ∀ (d i : Nat) (m1 : sh_X), i + d = a + b → m1.T = m.T → m1.J = m.J → m1.s = m.s → (∀ c, c ≠ 122 → m1.I c = m.I c) → (∀ w, w < i → m1.I 122 w = sj_b1 (sj_v a b (m.J 103) (m.I 122) w)) → (∀ w, i ≤ w → m1.I 122 w = m.I 122 w) → ∃ m2 : sh_X, sf_339_2 (Int32.ofNat i) m1 = sf_339_98 0 m2 ∧ m2.T = m.T ∧ m2.J = m.J ∧ m2.s = m.s ∧ (∀ c, c ≠ 122 → m2.I c = m.I c) ∧ (∀ w, w < a + b → m2.I 122 w = sj_b1 (sj_v a b (m.J 103) (m.I 122) w)) ∧ ∀ w, a + b ≤ w → m2.I 122 w = m.I 122 w := by
    intro d
    induction d with
    | zero =>
      intro i m1 hi r1 r2 r3 r4 r5 r6
      have e : i = a + b := by omega
      subst e
      refine ⟨m1, ?_, r1, r2, r3, r4, r5, r6⟩
      have hs : sf_339_2s (Int32.ofNat (a + b)) m1 = sh_up (sf_339_98 0 m1) := by
        unfold sf_339_2s
        rw [r4 121 (by omega), h0, h1, sh_nIadd, if_neg (sh_nlt0 _)]
      cases hq : sf_339_98 0 m1 with
      | none => exact sh_wnone (by show sf_339_2s (Int32.ofNat (a + b)) m1 = none; rw [hs, hq]; rfl)
      | some r => exact sh_wend (by show sf_339_2s (Int32.ofNat (a + b)) m1 = _; rw [hs, hq]; rfl)
    | succ d ih =>
      intro i m1 hi r1 r2 r3 r4 r5 r6
      have hs : sf_339_2s (Int32.ofNat i) m1 = some (.inl (Int32.ofNat (i + 1), (m1.T, sh_u2 m1.I 122 i (sj_b1 (sj_v a b (m.J 103) (m.I 122) i)), m1.J, m1.s))) := by
        unfold sf_339_2s sf_339_34
        rw [r4 121 (by omega), h0, h1, sh_nIadd, if_pos ((sh_nIlt (by omega) (by omega)).mpr (by omega))]
        by_cases q : i < a
        · rw [if_pos ((sh_nIlt (by omega) (by omega)).mpr q), if_neg (by decide), sj_51 (by omega) (by omega), r2]
          have e : sj_v a b (m.J 103) (m.I 122) i = (m.J 103 ((if false = true then 256 else 0) + i / 64)).toBitVec.getLsbD (i % 64) := by
            unfold sj_v
            rw [if_pos q, if_neg (by decide), Nat.zero_add]
          rw [e]
        · rw [if_neg (fun r => q ((sh_nIlt (by omega) (by omega)).mp r)), if_pos rfl, sh_nIs (by omega), sj_51 (by omega) (by omega), r2]
          have e : sj_v a b (m.J 103) (m.I 122) i = (m.J 103 ((if true = true then 256 else 0) + (i - a) / 64)).toBitVec.getLsbD ((i - a) % 64) := by
            unfold sj_v
            rw [if_neg q, if_pos (by omega), if_pos rfl]
          rw [e]
      have st : sf_339_2 (Int32.ofNat i) m1 = sf_339_2 (Int32.ofNat (i + 1)) (m1.T, sh_u2 m1.I 122 i (sj_b1 (sj_v a b (m.J 103) (m.I 122) i)), m1.J, m1.s) := sh_wstep hs
      rw [st]
      exact ih (i + 1) _ (by omega) r1 r2 r3 (fun c hc => by rw [se_Ic hc]; exact r4 c hc) (fun w hw => by
        by_cases q : w = i
        · subst q; exact se_Is
        · rw [se_In (fun _ => q)]; exact r5 w (by omega)) (fun w hw => by rw [se_In (by omega)]; exact r6 w (by omega))
  obtain ⟨m2, a1, a2, a3, a4, a5, a6, a7⟩ := lp (a + b) 0 m (by omega) rfl rfl rfl (fun _ _ => rfl) (fun w hw => absurd hw (by omega)) (fun _ _ => rfl)
  refine ⟨m2, a1, a2, a3, a4, a5, fun w hw => ?_⟩
  by_cases q : w < a + b
  · exact a6 w q
  · rw [a7 w (by omega)]
    unfold sj_v
    rw [if_neg (by omega), if_neg q]
    rcases hS w hw with e | e
    · rw [e]; decide
    · rw [e]; decide
/-- the gates -/
theorem sj_gts {nw ng : Nat} {v : Nat → Bool} {m : sh_X} (hw4 : nw ≤ 4000) (hg : ng ≤ 2000) (h85 : m.I 66 85 = Int32.ofNat ng) (ga : ∀ i, i < ng → ∀ c, 118 ≤ c → c ≤ 120 → ∃ w, w < nw ∧ m.I c i = Int32.ofNat w) (hv : ∀ w, w < 4000 → m.I 122 w = sj_b1 (v w)) :
    ∃ m2, sf_339_98 0 m = sf_339_220 0 m2 ∧ m2.T = m.T ∧ m2.J = m.J ∧ m2.s = m.s ∧ (∀ c, c ≠ 122 → m2.I c = m.I c) ∧ ∀ w, w < 4000 → m2.I 122 w = sj_b1 (sj_cv m.I v ng w) := by
  have lp : ∀ (d i : Nat) (m1 : sh_X), i + d = ng → m1.T = m.T → m1.J = m.J → m1.s = m.s → (∀ c, c ≠ 122 → m1.I c = m.I c) → (∀ w, w < 4000 → m1.I 122 w = sj_b1 (sj_cv m.I v i w)) → ∃ m2 : sh_X, sf_339_98 (Int32.ofNat i) m1 = sf_339_220 0 m2 ∧ m2.T = m.T ∧ m2.J = m.J ∧ m2.s = m.s ∧ (∀ c, c ≠ 122 → m2.I c = m.I c) ∧ ∀ w, w < 4000 → m2.I 122 w = sj_b1 (sj_cv m.I v ng w) := by
    intro d
    induction d with
    | zero =>
      intro i m1 hi r1 r2 r3 r4 r5
      have e : i = ng := by omega
      subst e
      refine ⟨m1, ?_, r1, r2, r3, r4, r5⟩
      have hs : sf_339_98s (Int32.ofNat i) m1 = sh_up (sf_339_220 0 m1) := by
        unfold sf_339_98s
        rw [r4 66 (by omega), h85, if_neg (sh_nlt0 _)]
      cases hq : sf_339_220 0 m1 with
      | none => exact sh_wnone (by show sf_339_98s (Int32.ofNat i) m1 = none; rw [hs, hq]; rfl)
      | some r => exact sh_wend (by show sf_339_98s (Int32.ofNat i) m1 = _; rw [hs, hq]; rfl)
    | succ d ih =>
      intro i m1 hi r1 r2 r3 r4 r5
      obtain ⟨x, hx, e8⟩ := ga i (by omega) 118 (by omega) (by omega)
      obtain ⟨y, hy, e9⟩ := ga i (by omega) 119 (by omega) (by omega)
      obtain ⟨z, hz, e0⟩ := ga i (by omega) 120 (by omega) (by omega)
      have ok : sh_okb (Int32.ofNat i) 2000 = true := sh_okn' (by omega) (by omega)
      have ox : sh_okb (Int32.ofNat x) 4000 = true := sh_okn' (by omega) (by omega)
      have oy : sh_okb (Int32.ofNat y) 4000 = true := sh_okn' (by omega) (by omega)
      have oz : sh_okb (Int32.ofNat z) 4000 = true := sh_okn' (by omega) (by omega)
      have hs : sf_339_98s (Int32.ofNat i) m1 = some (.inl (Int32.ofNat (i + 1), (m1.T, sh_u2 m1.I 122 z (sj_b1 (sj_cg (m.I 117 i) (sj_cv m.I v i x) (sj_cv m.I v i y))), m1.J, m1.s))) := by
        unfold sf_339_98s sf_339_184 sf_339_211
        rw [r4 66 (by omega), h85, if_pos ((sh_nIlt (by omega) (by omega)).mpr (by omega)), if_pos ok, sh_nIc (by omega), r4 118 (by omega), e8, if_pos ox, if_pos ok, r4 119 (by omega), e9, if_pos oy, if_pos ok, if_pos ok, r4 117 (by omega), sh_nIc (by omega), sh_nIc (by omega), r5 x (by omega), r5 y (by omega), r4 120 (by omega), e0]
        simp only [if_pos oz, if_pos ok]
        rw [sh_nIc (show z < 2147483648 by omega), sh_nI1, show vp_nar .boolean (0 : Int32) = sj_b1 false by decide, show vp_nar .boolean (1 : Int32) = sj_b1 true by decide, sj_b1m]
        generalize sj_cv m.I v i x = X
        generalize sj_cv m.I v i y = Y
        unfold sj_cg
        by_cases q0 : m.I 117 i = 0
        · rw [if_pos q0, if_pos q0]
          cases X <;> cases Y <;> rfl
        · rw [if_neg q0, if_neg q0]
          by_cases q1 : m.I 117 i = 1
          · rw [if_pos q1, if_pos q1]
            cases X <;> cases Y <;> rfl
          · rw [if_neg q1, if_neg q1]
            by_cases q2 : m.I 117 i = 2
            · rw [if_pos q2, if_pos q2]
              cases X <;> rfl
            · rw [if_neg q2, if_neg q2]
      have st : sf_339_98 (Int32.ofNat i) m1 = sf_339_98 (Int32.ofNat (i + 1)) (m1.T, sh_u2 m1.I 122 z (sj_b1 (sj_cg (m.I 117 i) (sj_cv m.I v i x) (sj_cv m.I v i y))), m1.J, m1.s) := sh_wstep hs
      rw [st]
      refine ih (i + 1) _ (by omega) r1 r2 r3 (fun c hc => by rw [se_Ic hc]; exact r4 c hc) (fun w hw => ?_)
      have cz : sj_cv m.I v (i + 1) w = if w = z then sj_cg (m.I 117 i) (sj_cv m.I v i x) (sj_cv m.I v i y) else sj_cv m.I v i w := by
        show (if w = (m.I 120 i).toNatClampNeg then sj_cg (m.I 117 i) (sj_cv m.I v i (m.I 118 i).toNatClampNeg) (sj_cv m.I v i (m.I 119 i).toNatClampNeg) else sj_cv m.I v i w) = _
        rw [e0, e8, e9, sh_nIc (by omega), sh_nIc (by omega), sh_nIc (by omega)]
      rw [cz]
      by_cases q : w = z
      · subst q; rw [if_pos rfl]; exact se_Is
      · rw [if_neg q, se_In (fun _ => q)]; exact r5 w hw
  exact lp ng 0 m (by omega) rfl rfl rfl (fun _ _ => rfl) hv
