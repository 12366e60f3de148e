/-! CIRCUITS: the head -/
theorem sj_nu_hi {B : Nat → Int32} {lo hi hi2 : Int32} {s : Nat} (hh : ∀ v : Int32, hi < v → hi2 < v) : ∀ (f p k : Nat) (v : Int32), sj_nu B lo hi2 s f p k v = match sj_nu B lo hi s f p k v with
    | .inl q => .inl q
    | .inr r => if hi2 < r.1 then .inl s else .inr r := by
  intro f
  induction f with
  | zero => intro p k v; rfl
  | succ f ih =>
    intro p k v
    unfold sj_nu
    by_cases hd : sf_31 (B p) = true
    · rw [if_pos hd, if_pos hd]
      by_cases hz : k = 9 ∨ (k = 1 ∧ v = 0)
      · rw [if_pos hz, if_pos hz]
      · rw [if_neg hz, if_neg hz]
        exact ih _ _ _
    · rw [if_neg hd, if_neg hd]
      by_cases a : k = 0 ∨ v < lo
      · rw [if_pos (a.elim Or.inl (fun q => Or.inr (Or.inl q))), if_pos (a.elim Or.inl (fun q => Or.inr (Or.inl q)))]
      · by_cases b : hi < v
        · rw [if_pos (Or.inr (Or.inr b)), if_pos (Or.inr (Or.inr (hh v b)))]
        · rw [if_neg (show ¬ (k = 0 ∨ v < lo ∨ hi < v) from fun q => q.elim (fun q => a (Or.inl q)) (fun q => q.elim (fun q => a (Or.inr q)) b))]
          by_cases c : hi2 < v
          · rw [if_pos (Or.inr (Or.inr c))]
            show _ = if hi2 < v then _ else _
            rw [if_pos c]
          · rw [if_neg (show ¬ (k = 0 ∨ v < lo ∨ hi2 < v) from fun q => q.elim (fun q => a (Or.inl q)) (fun q => q.elim (fun q => a (Or.inr q)) c))]
            show _ = if hi2 < v then _ else _
            rw [if_neg c]
/-- a number that the class bounds closer -/
theorem sj_num2 {n p lo hi : Nat} {hi2 : Int32} {B : Nat → Int32} {mc mm : sh_X} (h : sj_P n B p mc mm) (hl : lo < 1000000) (hh : hi < 1000000) (hb : ∀ v : Int32, Int32.ofNat hi < v → hi2 < v) :
    sj_bd (sf_201 (Int32.ofNat lo) hi2 mc) (sf_326 (Int32.ofNat lo) (Int32.ofNat hi) mm) mc mm ∨
    ∃ v p2 m2, sf_326 (Int32.ofNat lo) (Int32.ofNat hi) mm = some (true, m2) ∧ lo ≤ v ∧ v ≤ hi ∧ sj_Mf mm m2 ∧ m2.I 66 92 = Int32.ofNat v ∧ m2.I 66 93 = Int32.ofNat p ∧
      ((hi2 < Int32.ofNat v ∧ ∃ m1, sf_201 (Int32.ofNat lo) hi2 mc = some (none, sj_ft (Int32.ofNat p) m1) ∧ sj_Cf mc m1) ∨ (¬ hi2 < Int32.ofNat v ∧ ∃ m1, sf_201 (Int32.ofNat lo) hi2 mc = some (some (Int32.ofNat v), m1) ∧ sj_P n B p2 m1 m2 ∧ sj_Cf mc m1)) := by
  have n4 := h.n4
  have pn := h.pn
  have ec : sf_201 (Int32.ofNat lo) hi2 mc = sf_201_11 (Int32.ofNat lo) hi2 (Int32.ofNat p) (Int32.ofNat 0) 0 mc := by
    unfold sf_201
    rw [h.c.at_]
    rfl
  have ec0 : sf_201 (Int32.ofNat lo) (Int32.ofNat hi) mc = sf_201_11 (Int32.ofNat lo) (Int32.ofNat hi) (Int32.ofNat p) (Int32.ofNat 0) 0 mc := by
    unfold sf_201
    rw [h.c.at_]
    rfl
  have rc := sj_201l (B := B) (lo := Int32.ofNat lo) (hi := hi2) (s := p) n4 10 p 0 0 mc (by omega) (by omega) h.c h.bc pn (by have := h.tl; omega)
  have rc0 := sj_201l (B := B) (lo := Int32.ofNat lo) (hi := Int32.ofNat hi) (s := p) n4 10 p 0 0 mc (by omega) (by omega) h.c h.bc pn (by have := h.tl; omega)
  have e := sj_nu_hi (B := B) (lo := Int32.ofNat lo) (s := p) hb 10 p 0 0
  rcases sj_num (lo := lo) (hi := hi) h hl hh with ⟨q, m1, m2, e1, e2, f1, f2⟩ | ⟨v, p2, m1, m2, e1, e2, l1, l2, P2, f1, f2, v92, v93⟩
  · cases hq : sj_nu B (Int32.ofNat lo) (Int32.ofNat hi) p 10 p 0 0 with
    | inl q2 =>
      rw [hq] at e rc0
      have e : sj_nu B (Int32.ofNat lo) hi2 p 10 p 0 0 = .inl q2 := e
      rw [e] at rc
      obtain ⟨m3, c1, c2⟩ := rc
      obtain ⟨m4, c3, c4⟩ := rc0
      rw [← ec0, e1] at c3
      have t := congrArg (fun x : Option (Option Int32 × sh_X) => (x.map (fun y => y.2.I 58 11))) c3
      have t : some ((sj_ft (Int32.ofNat q) m1).I 58 11) = some ((sj_ft (Int32.ofNat q2) m4).I 58 11) := t
      have t1 : (sj_ft (Int32.ofNat q) m1).I 58 11 = Int32.ofNat q := se_Is
      have t2 : (sj_ft (Int32.ofNat q2) m4).I 58 11 = Int32.ofNat q2 := se_Is
      rw [t1, t2] at t
      refine Or.inl ⟨q, m3, m2, ?_, e2, c2, f2⟩
      rw [ec, c1, Option.some.inj t]
    | inr r =>
      obtain ⟨v, p2⟩ := r
      rw [hq] at rc0
      obtain ⟨m4, c3, _⟩ := rc0
      rw [← ec0, e1] at c3
      cases c3
  · refine Or.inr ⟨v, p2, m2, e2, l1, l2, f2, v92, v93, ?_⟩
    cases hq : sj_nu B (Int32.ofNat lo) (Int32.ofNat hi) p 10 p 0 0 with
    | inl q2 =>
      rw [hq] at rc0
      obtain ⟨m4, c3, _⟩ := rc0
      rw [← ec0, e1] at c3
      cases c3
    | inr r =>
      obtain ⟨v', p2'⟩ := r
      rw [hq] at e rc0
      obtain ⟨m4, c3, c4, c5, _⟩ := rc0
      rw [← ec0, e1] at c3
      have t := Option.some.inj c3
      have t1 : Int32.ofNat v = v' := Option.some.inj (congrArg Prod.fst t)
      have t2 : m1 = m4 := congrArg Prod.snd t
      subst t2
      have e : sj_nu B (Int32.ofNat lo) hi2 p 10 p 0 0 = if hi2 < v' then .inl p else .inr (v', p2') := e
      rw [← t1] at e
      by_cases c : hi2 < Int32.ofNat v
      · rw [if_pos c] at e
        rw [e] at rc
        obtain ⟨m5, d1, d2⟩ := rc
        exact Or.inl ⟨c, m5, by rw [ec]; exact d1, d2⟩
      · rw [if_neg c] at e
        rw [e] at rc
        obtain ⟨m5, d1, d2, d3, d4, _⟩ := rc
        refine Or.inr ⟨c, m5, by rw [ec]; exact d1, ?_, d3⟩
        have at1 := P2.c.at_
        have at2 := c4.at_
        have pe : p2 = p2' := by
          have hh1 := P2.pn
          rw [at1] at at2
          exact (sh_nIeq (by omega) (by omega)).mp at2
        subst pe
        exact sj_P.mk d2 P2.m (by rw [d3.I 1 (by omega)]; exact h.bc) P2.bm d4 n4 (by rw [d3.T]; exact h.tl)
/-- the model's wires: the inputs stand -/
theorem sj_231 {a b : Nat} {m : sh_X} (ha : a ≤ 500) (hb : b ≤ 500) (h0 : m.I 121 0 = Int32.ofNat a) (h1 : m.I 121 1 = Int32.ofNat b) : ∃ m2, sf_324_231 0 m = sf_324_279 0 m2 ∧ m2.T = m.T ∧ m2.J = m.J ∧ m2.s = m.s ∧ (∀ c, c ≠ 66 → c ≠ 123 → m2.I c = m.I c) ∧ (∀ f, f ≠ 87 → m2.I 66 f = m.I 66 f) ∧ m2.I 66 87 = 0 ∧ ∀ w, w < 4000 → m2.I 123 w = if w < a + b then 1 else 0 := by
  have nt : vp_nar .boolean (sh_b2 true) = 1 := by decide
  have nf : vp_nar .boolean (sh_b2 false) = 0 := by decide
  have e121 : (121 : Nat) ≠ 123 := by omega
  have lp : ∀ (d i : Nat) (m1 : sh_X), i + d = 4000 → m1.T = m.T → m1.J = m.J → m1.s = m.s → (∀ c, c ≠ 123 → m1.I c = m.I c) → (∀ w, w < i → m1.I 123 w = if w < a + b then 1 else 0) → ∃ m2 : sh_X, sf_324_231 (Int32.ofNat i) m1 = sf_324_279 0 (m2.T, sh_u2 m2.I 66 87 0, m2.J, m2.s) ∧ m2.T = m.T ∧ m2.J = m.J ∧ m2.s = m.s ∧ (∀ c, c ≠ 123 → m2.I c = m.I c) ∧ ∀ w, w < 4000 → m2.I 123 w = if w < a + b then 1 else 0 := by
    intro d
    induction d with
    | zero =>
      intro i m1 hi r1 r2 r3 r4 r5
      have e : i = 4000 := by omega
      subst e
      refine ⟨m1, ?_, r1, r2, r3, r4, r5⟩
      have hs : sf_324_231s (Int32.ofNat 4000) m1 = sh_up (sf_324_279 0 (m1.T, sh_u2 m1.I 66 87 0, m1.J, m1.s)) := by
        unfold sf_324_231s
        rw [if_neg (by decide)]
      cases hq : sf_324_279 0 (m1.T, sh_u2 m1.I 66 87 0, m1.J, m1.s) with
      | none => exact sh_wnone (by show sf_324_231s (Int32.ofNat 4000) m1 = none; rw [hs, hq]; rfl)
      | some r => exact sh_wend (by show sf_324_231s (Int32.ofNat 4000) m1 = _; rw [hs, hq]; rfl)
    | succ d ih =>
      intro i m1 hi r1 r2 r3 r4 r5
      have hs : sf_324_231s (Int32.ofNat i) m1 = some (.inl (Int32.ofNat (i + 1), (m1.T, sh_u2 m1.I 123 i (if i < a + b then 1 else 0), m1.J, m1.s))) := by
        unfold sf_324_231s
        rw [if_pos (show Int32.ofNat i < 4000 from (sh_nIlt (b := 4000) (by omega) (by omega)).mpr (by omega)), r4 121 e121, h0, h1, sh_nIadd]
        unfold sf_324_265
        rw [if_pos (sh_okn' (by omega) (by omega)), if_pos (sh_okn' (by omega) (by omega)), sh_nIc (by omega), nt, nf, sh_nI1]
        by_cases q : i < a + b
        · rw [if_pos ((sh_nIlt (by omega) (by omega)).mpr q), if_pos q]
        · rw [if_neg (fun r => q ((sh_nIlt (by omega) (by omega)).mp r)), if_neg q]
      have st : sf_324_231 (Int32.ofNat i) m1 = sf_324_231 (Int32.ofNat (i + 1)) (m1.T, sh_u2 m1.I 123 i (if i < a + b then 1 else 0), m1.J, m1.s) := sh_wstep hs
      rw [st]
      exact ih (i + 1) _ (by omega) r1 r2 r3 (fun c hc => by rw [se_Ic hc]; exact r4 c hc) (fun w hw => by
        by_cases q : w = i
        · subst q; exact se_Is
        · rw [se_In (fun _ => q)]; exact r5 w (by omega))
  obtain ⟨m2, a1, a2, a3, a4, a5, a6⟩ := lp 4000 0 m (by omega) rfl rfl rfl (fun _ _ => rfl) (fun w hw => absurd hw (by omega))
  exact ⟨_, a1, a2, a3, a4, fun c q1 q2 => by rw [se_Ic q1]; exact a5 c q2, fun f q => by rw [se_In (fun _ => q), a5 66 (by omega)], se_Is, fun w hw => by rw [se_Ic (by omega)]; exact a6 w hw⟩
/-- only inputs: their worths -/
theorem sj_va0 {gs : sh_gL} {p : Nat → Bool} {w : Nat} (hwf : sh_gw0 gs) (hz : ∀ g ∈ gs, g.1 = 0) (hw : w < gs.length) (h2 : 2 ≤ w) : sh_va p gs w = p w := by
  have e : (sh_ga gs w).1 = 0 := by
    unfold sh_ga
    rw [List.getD_eq_getElem?_getD, List.getElem?_eq_getElem (by omega)]
    exact hz _ (List.getElem_mem _)
  rw [sh_va_at p hwf hw, e]
  show (if w = 0 then false else if w = 1 then true else p w) = p w
  rw [if_neg (by omega), if_neg (by omega)]
