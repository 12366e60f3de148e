/-! CIRCUITS: both run a circuit -/
theorem sj_Y.mm {a b o nw ng : Nat} {f : Nat → Nat → Nat} {gs : sh_gL} {mc mm m2 : sh_X} (Y : sj_Y a b o nw ng f gs mc mm) (hI : ∀ c, c ≠ 66 → c ≠ 122 → m2.I c = mm.I c) (hF : ∀ f, 85 ≤ f → m2.I 66 f = mm.I 66 f) : sj_Y a b o nw ng f gs mc m2 := by
  have cvE : ∀ v w, sj_cv m2.I v ng w = sj_cv mm.I v ng w := fun v w => sj_cv_cong ng (fun c i q1 q2 _ => by rw [hI c (by omega) (by omega)]) w
  exact sj_Y.mk Y.g Y.z Y.k0 Y.gl Y.bd (fun X hX => by
    obtain ⟨s1, s2, s3, s4⟩ := Y.e X hX
    exact ⟨s1, by rw [hI 99 (by omega) (by omega)]; exact s2, by rw [hI 102 (by omega) (by omega)]; exact s3, fun k hk => by rw [hI 101 (by omega) (by omega)]; exact s4 k hk⟩) (fun k i hi => by
    obtain ⟨s1, s2⟩ := Y.ou k i hi
    exact ⟨s1, fun p => by rw [s2, cvE]⟩) (fun i hi c h1 h2 => by rw [hI c (by omega) (by omega)]; exact Y.ga i hi c h1 h2) ⟨by rw [hI 121 (by omega) (by omega)]; exact Y.md.1, by rw [hI 121 (by omega) (by omega)]; exact Y.md.2.1, by rw [hI 121 (by omega) (by omega)]; exact Y.md.2.2.1, by rw [hF 85 (by omega)]; exact Y.md.2.2.2.1, by rw [hF 86 (by omega)]; exact Y.md.2.2.2.2⟩ ⟨Y.cl.1, Y.cl.2.1, by rw [hF 87 (by omega)]; exact Y.cl.2.2⟩
theorem sj_bits {x y : Int64} (h : ∀ j, j < 64 → x.toBitVec.getLsbD j = y.toBitVec.getLsbD j) : x = y := by
  apply Int64.toBitVec_inj.mp
  apply BitVec.eq_of_getLsbD_eq
  intro j hj
  exact h j hj
theorem sj_run2 {a b o nw ng ra rb : Nat} {f : Nat → Nat → Nat} {gs : sh_gL} {mc mm : sh_X} (Y : sj_Y a b o nw ng f gs mc mm) (hY : sh_Yp gs ra rb mc) (hS : ∀ w, w < 4000 → mm.I 122 w = 0 ∨ mm.I 122 w = 1) (h13 : mc.I 0 13 = 2) (h4 : mm.I 66 4 = 2) (D1 : ∀ k, k < sj_n a → mc.J 16 k = mm.J 103 k) (D2 : ∀ k, k < sj_n b → mc.J 21 k = mm.J 103 (256 + k)) :
    ∃ (a2 b2 : Nat) (m1 mc2 mm2 : sh_X), sf_219 mc = some (true, mc2) ∧ sf_338 mm = some (true, mm2) ∧ mc2 = (m1.T, sh_u2 m1.I 0 14 1, m1.J, m1.s) ∧ m1.I = mc.I ∧ (∀ c, c < 125 → c ≠ 26 → c ≠ 61 → c ≠ 62 → c ≠ 63 → c ≠ 64 → c ≠ 65 → m1.J c = mc.J c) ∧ ((m1.T = mc.T ∧ m1.s = mc.s ∧ a2 = ra ∧ b2 = rb) ∨ (sh_ln mc.T ra < gs.length ∧ m1.T.length = mc.T.length + 2 ∧ a2 = mc.T.length ∧ b2 = mc.T.length + 1 ∧ sh_ln m1.T a2 = sh_ln mc.T (sh_rf mc.T 9 0) ∧ sh_ln m1.T b2 = sh_ln mc.T (sh_rf mc.T 9 0) ∧ m1.T[61]? = some (sh_gb a2 b2) ∧ (∀ c t, c ≠ 61 → mc.T[c]? = some t → m1.T[c]? = some t) ∧ m1.s = mc.s + 2 * sh_ln mc.T (sh_rf mc.T 9 0))) ∧
      mm2.T = mm.T ∧ mm2.s = mm.s ∧ (∀ c, c ≠ 66 → c ≠ 122 → mm2.I c = mm.I c) ∧ (∀ c, c ≠ 104 → mm2.J c = mm.J c) ∧ (∀ w, w < 4000 → mm2.I 122 w = 0 ∨ mm2.I 122 w = 1) ∧ mm2.I 66 0 = 0 ∧ mm2.I 66 5 = 1 ∧ (∀ f, f ≠ 0 → f ≠ 5 → mm2.I 66 f = mm.I 66 f) ∧ ∀ k, k < sj_n o → mc2.J 26 k = mm2.J 104 k := by
  obtain ⟨q1, q2, q3, q4, q5, q6, q7, q8, q9⟩ := Y.bd
  have gl := Y.gl
  -- the model
  obtain ⟨n0, hn0⟩ : ∃ n0 : sh_X, (mm.T, sh_u2 mm.I 66 0 0, mm.J, mm.s) = n0 := ⟨_, rfl⟩
  have z66 : ∀ f, f ≠ 0 → n0.I 66 f = mm.I 66 f := fun f hf => by rw [← hn0]; exact se_In (by omega)
  have zI : ∀ c, c ≠ 66 → n0.I c = mm.I c := fun c hc => by rw [← hn0]; exact se_Ic hc
  have J0 : n0.J = mm.J := by rw [← hn0]
  have Y0 : sj_Y a b o nw ng f gs mc n0 := Y.mm (fun c h _ => zI c h) (fun f h => z66 f (by omega))
  obtain ⟨n1, e1, e2, e3, e4, e5, e6, e7⟩ := sj_339 Y0 (fun w hw => by rw [zI 122 (by omega)]; exact hS w hw)
  obtain ⟨n2, hn2⟩ : ∃ n2 : sh_X, (n1.T, sh_u2 n1.I 66 5 1, n1.J, n1.s) = n2 := ⟨_, rfl⟩
  have md : sf_338 mm = some (true, n2) := by
    unfold sf_338 sf_338_34
    rw [h4, if_neg (by decide), if_pos rfl, hn0, e1, sh_bn_some, hn2]
  -- what the inputs are worth
  obtain ⟨v, hv⟩ : ∃ v, sj_v a b (n0.J 103) (n0.I 122) = v := ⟨_, rfl⟩
  obtain ⟨p, hp⟩ : ∃ p : Nat → Bool, p = fun w => if w = 0 then false else if w = 1 then true else v (w - 2) := ⟨_, rfl⟩
  have p2 : (fun j => p (2 + j)) = v := by
    funext j
    rw [hp]
    show (if 2 + j = 0 then false else if 2 + j = 1 then true else v (2 + j - 2)) = v j
    rw [if_neg (by omega), if_neg (by omega), show 2 + j - 2 = j by omega]
  have v1 : ∀ k i, i < sj_w a k → v (64 * k + i) = (mc.J 16 k).toBitVec.getLsbD i := fun k i hi => by
    obtain ⟨t1, t2, t3, t4⟩ := sj_wat hi
    rw [← hv, D1 k t4, J0]
    unfold sj_v
    rw [if_pos t2, show (64 * k + i) / 64 = k by omega, show (64 * k + i) % 64 = i by omega]
  have v2 : ∀ k i, i < sj_w b k → v (a + (64 * k + i)) = (mc.J 21 k).toBitVec.getLsbD i := fun k i hi => by
    obtain ⟨t1, t2, t3, t4⟩ := sj_wat hi
    rw [← hv, D2 k t4, J0]
    unfold sj_v
    rw [if_neg (by omega), if_pos (by omega), show (a + (64 * k + i) - a) / 64 = k by omega, show (a + (64 * k + i) - a) % 64 = i by omega]
  have E1 : sh_Ev 13 (sj_n a) (sj_w a) (fun k i => 2 + (64 * k + i)) mc := (Y.e 0 (by omega)).1
  have E2 : sh_Ev 18 (sj_n b) (sj_w b) (fun k i => 2 + a + (64 * k + i)) mc := (Y.e 1 (by omega)).1
  have E3 : sh_Ev 23 (sj_n o) (sj_w o) f mc := (Y.e 2 (by omega)).1
  obtain ⟨a2, b2, m1, r1, r2, r3, r4, r5⟩ := sh_220 (p := p) hY Y.z E1 E2 E3 (fun k _ i hi => by obtain ⟨t1, t2, t3, t4⟩ := sj_wat hi; omega) (fun k _ i hi => by obtain ⟨t1, t2, t3, t4⟩ := sj_wat hi; omega) (fun k _ i hi => (Y.ou k i hi).1) (fun k _ i hi => by rw [show p (2 + (64 * k + i)) = v (64 * k + i) from congrFun p2 (64 * k + i)]; exact v1 k i hi) (fun k _ i hi => by rw [show 2 + a + (64 * k + i) = 2 + (a + (64 * k + i)) by omega, show p (2 + (a + (64 * k + i))) = v (a + (64 * k + i)) from congrFun p2 (a + (64 * k + i))]; exact v2 k i hi) (by rw [hp]; rfl) (by rw [hp]; rfl) (fun w hw hk h2 => by
    have hlt := Y.k0 w hw hk h2
    by_cases q : w < 2 + a
    · exact Or.inl ⟨(w - 2) / 64, (w - 2) % 64, by unfold sj_n; omega, by unfold sj_w; omega, by show w = 2 + (64 * ((w - 2) / 64) + (w - 2) % 64); omega⟩
    · exact Or.inr ⟨(w - 2 - a) / 64, (w - 2 - a) % 64, by unfold sj_n; omega, by unfold sj_w; omega, by show w = 2 + a + (64 * ((w - 2 - a) / 64) + (w - 2 - a) % 64); omega⟩)
  have cl : sf_219 mc = some (true, (m1.T, sh_u2 m1.I 0 14 1, m1.J, m1.s)) := by
    unfold sf_219
    rw [h13, if_neg (by decide), r1, sh_bn_some]
  refine ⟨a2, b2, m1, _, n2, cl, md, rfl, r2, r3, r5, ?_, ?_, fun c h1 h2 => ?_, fun c hc => ?_, fun w hw => ?_, ?_, ?_, fun f h1 h2 => ?_, fun k hk => ?_⟩
  · rw [← hn2]; show n1.T = _; rw [e2, ← hn0]
  · rw [← hn2]; show n1.s = _; rw [e3, ← hn0]
  · rw [← hn2, se_Ic h1, e4 c h2, zI c h1]
  · rw [← hn2]; show n1.J c = _; rw [e5 c hc, J0]
  · rw [← hn2, se_Ic (by omega)]; exact e6 w hw
  · rw [← hn2, se_In (by omega), e4 66 (by omega), ← hn0]; exact se_Is
  · rw [← hn2]; exact se_Is
  · rw [← hn2, se_In (fun _ => h2), e4 66 (by omega), z66 f h1]
  · rw [← hn2]
    show m1.J 26 k = n1.J 104 k
    refine sj_bits (fun j hj => ?_)
    rw [r4 k hk j hj, e7 k hk j hj, hv]
    by_cases q : j < sj_w o k
    · rw [decide_eq_true q, Bool.true_and, Bool.true_and, (Y0.ou k j q).2 p, p2]
    · rw [decide_eq_false q, Bool.false_and, Bool.false_and]
