/-! CIRCUITS: outputs; the model's elements -/
/-- what a circuit's reading leaves as it was, in short: the class, the model -/
def sj_Cs (m m2 : sh_X) : Prop := (sj_K 0 m m2) ∧ (m2.I 0 = m.I 0)
theorem sj_Cs.K {m m2 : sh_X} (h : sj_Cs m m2) : sj_K 0 m m2 := h.1
theorem sj_Cs.z {m m2 : sh_X} (h : sj_Cs m m2) : m2.I 0 = m.I 0 := h.2
theorem sj_Cs.mk {m m2 : sh_X} (K : sj_K 0 m m2) (z : m2.I 0 = m.I 0) : sj_Cs m m2 := ⟨K, z⟩
def sj_Ms (m m2 : sh_X) : Prop := (m2.T = m.T) ∧ (m2.J = m.J) ∧ (m2.s = m.s) ∧ (∀ c, c ≠ 66 → (c < 68 ∨ 123 < c ∨ c = 122) → m2.I c = m.I c) ∧ (∀ f, f < 85 → m2.I 66 f = m.I 66 f)
theorem sj_Ms.T {m m2 : sh_X} (h : sj_Ms m m2) : m2.T = m.T := h.1
theorem sj_Ms.J {m m2 : sh_X} (h : sj_Ms m m2) : m2.J = m.J := h.2.1
theorem sj_Ms.s {m m2 : sh_X} (h : sj_Ms m m2) : m2.s = m.s := h.2.2.1
theorem sj_Ms.I {m m2 : sh_X} (h : sj_Ms m m2) : ∀ c, c ≠ 66 → (c < 68 ∨ 123 < c ∨ c = 122) → m2.I c = m.I c := h.2.2.2.1
theorem sj_Ms.F {m m2 : sh_X} (h : sj_Ms m m2) : ∀ f, f < 85 → m2.I 66 f = m.I 66 f := h.2.2.2.2
theorem sj_Ms.mk {m m2 : sh_X} (T : m2.T = m.T) (J : m2.J = m.J) (s : m2.s = m.s) (I : ∀ c, c ≠ 66 → (c < 68 ∨ 123 < c ∨ c = 122) → m2.I c = m.I c) (F : ∀ f, f < 85 → m2.I 66 f = m.I 66 f) : sj_Ms m m2 := ⟨T, J, s, I, F⟩
theorem sj_Cs.refl (m : sh_X) : sj_Cs m m := sj_Cs.mk (sj_K.refl m) rfl
theorem sj_Cs.trans {m m2 m3 : sh_X} (h : sj_Cs m m2) (g : sj_Cs m2 m3) : sj_Cs m m3 := sj_Cs.mk (h.K.trans g.K) (g.z.trans h.z)
theorem sj_Ms.refl (m : sh_X) : sj_Ms m m := sj_Ms.mk rfl rfl rfl (fun _ _ _ => rfl) (fun _ _ => rfl)
theorem sj_Ms.trans {m m2 m3 : sh_X} (h : sj_Ms m m2) (g : sj_Ms m2 m3) : sj_Ms m m3 := sj_Ms.mk (g.T.trans h.T) (g.J.trans h.J) (g.s.trans h.s) (fun c a b => (g.I c a b).trans (h.I c a b)) (fun f a => (g.F f a).trans (h.F f a))
theorem sj_Cl.s_ {m m2 : sh_X} (h : sj_Cl m m2) : sj_Cs m m2 := sj_Cs.mk h.K (h.I 0 (by omega) (by omega) (by omega) (by omega))
theorem sj_B.s_ {m m2 : sh_X} (h : sj_B m m2) : sj_Cs m m2 := sj_Cs.mk h.K (h.I 0 (by omega) (by omega) (by omega))
theorem sj_Ml.s_ {m m2 : sh_X} (h : sj_Ml m m2) : sj_Ms m m2 := sj_Ms.mk h.T h.J h.s (fun c a b => h.I c a (by omega) (by omega)) (fun f a => h.F f (by omega) (by omega) (by omega) (by omega))
def sj_bw {α : Type} (ec : Option (Option α × sh_X)) (em : Option (Bool × sh_X)) (mc mm : sh_X) : Prop := ∃ q m1 m2 gs, ec = some (none, sj_ft (Int32.ofNat q) m1) ∧ em = some (false, sh_mft 2 (Int32.ofNat q) m2) ∧ sh_GS gs m1 ∧ sj_Cs mc m1 ∧ sj_Ms mm m2
theorem sj_bw.pre {α : Type} {ec : Option (Option α × sh_X)} {em : Option (Bool × sh_X)} {mc mm mc0 mm0 : sh_X} (h : sj_bw ec em mc mm) (a : sj_Cs mc0 mc) (b : sj_Ms mm0 mm) : sj_bw ec em mc0 mm0 := by
  obtain ⟨q, m1, m2, gs, h1, h2, h3, h4, h5⟩ := h
  exact ⟨q, m1, m2, gs, h1, h2, h3, a.trans h4, b.trans h5⟩
theorem sj_bx.w {α : Type} {ec : Option (Option α × sh_X)} {em : Option (Bool × sh_X)} {mc mm : sh_X} (h : sj_bx ec em mc mm) : sj_bw ec em mc mm := by
  obtain ⟨q, m1, m2, gs, h1, h2, h3, h4, h5⟩ := h
  exact ⟨q, m1, m2, gs, h1, h2, h3, h4.s_, h5.s_⟩
/-- the outputs -/
theorem sj_outs {n nw ng L o : Nat} {B : Nat → Int32} {gs : sh_gL} {mc mm : sh_X} (h : sj_G n nw ng ng L B n gs mc mm) (hw4 : nw ≤ 4000) (hL : gs.length < 100000) (ho : o ≤ nw) (ho5 : o ≤ 500) (h121 : mm.I 121 2 = Int32.ofNat o) (h4 : mc.I 23 4 = 0) (h5 : mc.I 23 5 = 0) :
    sj_bw (sf_200_155 (Int32.ofNat o) mc) (sf_324_336 (mm.I 66 86 - mm.I 121 2) mm) mc mm ∨
    ∃ f m1, sf_200_155 (Int32.ofNat o) mc = some (some (), m1) ∧ sf_324_336 (mm.I 66 86 - mm.I 121 2) mm = sf_324_371 0 mm ∧ sh_Ev 23 (sj_n o) (sj_w o) f m1 ∧ (∀ k i, i < sj_w o k → f k i < gs.length ∧ ∀ p, sh_va p gs (f k i) = sj_cv mm.I (fun j => p (2 + j)) ng (nw - o + (64 * k + i))) ∧ sh_GS gs m1 ∧ sj_B mc m1 ∧ (∀ c, c < 23 ∨ 27 < c → m1.I c = mc.I c) ∧ (∀ c, c ≠ 26 → m1.J c = mc.J c) := by
  obtain ⟨f, hf⟩ : ∃ f : Nat → Nat → Nat, f = fun k i => (mc.I 59 (nw - o + (64 * k + i))).toNatClampNeg := ⟨_, rfl⟩
  obtain ⟨m1, a1, a2, a3, a4⟩ := sj_207 (x := 23) (f := f) ho5 h4 h5
  have g1 : sh_GS gs m1 := h.g.cong a3.T (fun c hc => a3.I c (by omega) (by omega) (by omega) (by omega))
  have n4 := h.P.n4
  have hd := h.hd hL
  rw [h.m86, h121, sh_nIs ho]
  have e8 : ∀ m, sh_Ef 23 m1 m → m.I 58 = mc.I 58 ∧ m.I 59 = mc.I 59 := fun m q => ⟨(q.I 58 (by omega) (by omega) (by omega) (by omega)).trans (a3.I 58 (by omega) (by omega) (by omega) (by omega)), (q.I 59 (by omega) (by omega) (by omega) (by omega)).trans (a3.I 59 (by omega) (by omega) (by omega) (by omega))⟩
  have C1 : sf_200_155 (Int32.ofNat o) mc = sh_bt (sf_212_20 (Int32.ofNat (nw - o + 0)) m1) (fun m => (none, m)) fun _ m11 => some (some (), m11) := by
    unfold sf_200_155 sf_212
    rw [a1, sh_bn_some, (e8 m1 (sh_Ef.refl m1)).1, h.c8, sh_nIs ho]
    have e42 : sf_42 0 (Int32.ofNat (nw - o)) = Int32.ofNat (nw - o + 0) := by
      unfold sf_42
      by_cases q : 0 < nw - o
      · rw [if_pos (show (0 : Int32) < Int32.ofNat (nw - o) from (sh_nIlt (a := 0) (by omega) (by omega)).mpr q)]; rfl
      · rw [if_neg (show ¬ (0 : Int32) < Int32.ofNat (nw - o) from fun r => q ((sh_nIlt (a := 0) (by omega) (by omega)).mp r)), show nw - o = 0 by omega]; rfl
    rw [e42]
  have lp : ∀ (d j : Nat) (m : sh_X), j + d = o → sh_Eq 23 (sj_n o) j (sj_w o) f m → sh_Ef 23 m1 m → (∀ w, nw - o ≤ w → w < nw - o + j → ¬ mm.I 123 w = 0) →
      (∃ m2, sf_212_20 (Int32.ofNat (nw - o + j)) m = some (none, sj_ft (Int32.ofNat n) m2) ∧ sf_324_336 (Int32.ofNat (nw - o + j)) mm = some (false, sh_mft 2 (Int32.ofNat n) mm) ∧ sh_Ef 23 m1 m2) ∨
      ∃ m2, sf_212_20 (Int32.ofNat (nw - o + j)) m = some (some (), m2) ∧ sf_324_336 (Int32.ofNat (nw - o + j)) mm = sf_324_371 0 mm ∧ sh_Eq 23 (sj_n o) o (sj_w o) f m2 ∧ sh_Ef 23 m1 m2 ∧ ∀ w, nw - o ≤ w → w < nw → ¬ mm.I 123 w = 0 := by
    intro d
    induction d with
    | zero =>
      intro j m hj hE hF hz
      have e : j = o := by omega
      subst e
      have en : nw - j + j = nw := by omega
      refine Or.inr ⟨m, ?_, ?_, hE, hF, fun w q1 q2 => hz w q1 (by omega)⟩
      · refine sh_wend ?_
        show sf_212_20s (Int32.ofNat (nw - j + j)) m = _
        unfold sf_212_20s
        rw [(e8 m hF).1, h.c8, en, if_neg (sh_nlt0 nw)]
      · have ms : sf_324_336s (Int32.ofNat (nw - j + j)) mm = sh_up (sf_324_371 0 mm) := by
          unfold sf_324_336s
          rw [h.m86, en, if_neg (sh_nlt0 nw)]
        cases hq : sf_324_371 0 mm with
        | none => exact sh_wnone (by show sf_324_336s (Int32.ofNat (nw - j + j)) mm = none; rw [ms, hq]; rfl)
        | some r => exact sh_wend (by show sf_324_336s (Int32.ofNat (nw - j + j)) mm = _; rw [ms, hq]; rfl)
    | succ d ih =>
      intro j m hj hE hF hz
      have hw : nw - o + j < nw := by omega
      have ok : sh_okb (Int32.ofNat (nw - o + j)) 4000 = true := sh_okn' (by omega) (by omega)
      have lt : Int32.ofNat (nw - o + j) < Int32.ofNat nw := (sh_nIlt (by omega) (by omega)).mpr hw
      have lt4 : Int32.ofNat (nw - o + j) < 4000 := (sh_nIlt (b := 4000) (by omega) (by omega)).mpr (by omega)
      have cs : sf_212_20s (Int32.ofNat (nw - o + j)) m = if mc.I 59 (nw - o + j) = -1 then (sh_bt (sf_203 (Int32.ofNat n) m) (fun m => .inr ((none, m))) fun _ m11 => sf_212_53 (Int32.ofNat (nw - o + j)) m11) else sf_212_53 (Int32.ofNat (nw - o + j)) m := by
        unfold sf_212_20s
        rw [(e8 m hF).1, h.c8, if_pos lt, if_pos lt4, if_pos ok, sh_nIc (by omega), (e8 m hF).2, h.P.c.le]
      have ms : sf_324_336s (Int32.ofNat (nw - o + j)) mm = if mm.I 123 (nw - o + j) = 0 then some (.inr (false, sh_mft 2 (Int32.ofNat n) mm)) else some (.inl (Int32.ofNat (nw - o + (j + 1)), mm)) := by
        unfold sf_324_336s
        rw [h.m86, if_pos lt, if_pos ok, sh_nIc (by omega), h.P.m.le, sj_252, sh_nI1]
        rfl
      by_cases q : mm.I 123 (nw - o + j) = 0
      · rw [if_pos q] at ms
        rw [if_pos ((hd _ hw).mp q)] at cs
        refine Or.inl ⟨m, sh_wend ?_, sh_wend ms, hF⟩
        show sf_212_20s (Int32.ofNat (nw - o + j)) m = _
        rw [cs, sj_203 (by rw [hF.T]; have := g1.tl; omega)]
        rfl
      · rw [if_neg q] at ms
        rw [if_neg (fun r => q ((hd _ hw).mpr r))] at cs
        obtain ⟨x, hx, e1, _⟩ := h.at_ hw q
        obtain ⟨m2, b1, b2, b3, b4⟩ := sj_104 (y := x) hE (fun k i r1 r2 => by
          obtain ⟨t1, t2, t3, t4⟩ := sj_wat r1
          rw [hf]
          show (mc.I 59 (nw - o + (64 * k + i))).toNatClampNeg = x
          rw [show 64 * k + i = j by omega, e1, sh_nIc (by omega)]) (by omega)
        have c2 : sf_212_20 (Int32.ofNat (nw - o + j)) m = sf_212_20 (Int32.ofNat (nw - o + (j + 1))) m2 := by
          refine sh_wstep ?_
          show sf_212_20s (Int32.ofNat (nw - o + j)) m = _
          rw [cs]
          unfold sf_212_53
          rw [if_pos ok, sh_nIc (by omega), (e8 m hF).2, e1, b1, sh_bn_some, sh_nI1]
          rfl
        have d2 : sf_324_336 (Int32.ofNat (nw - o + j)) mm = sf_324_336 (Int32.ofNat (nw - o + (j + 1))) mm := sh_wstep ms
        rw [c2, d2]
        exact ih (j + 1) m2 (by omega) b2 (hF.trans b3) (fun w r1 r2 => by
          by_cases r3 : w = nw - o + j
          · subst r3; exact q
          · exact hz w r1 (by omega))
  rcases lp o 0 m1 (by omega) a2 (sh_Ef.refl m1) (fun w r1 r2 => absurd r2 (by omega)) with ⟨m2, b1, b2, b3⟩ | ⟨m2, b1, b2, b3, b4, b5⟩
  · refine Or.inl ⟨n, m2, mm, gs, ?_, b2, g1.cong b3.T (fun c hc => b3.I c (by omega) (by omega) (by omega) (by omega)), ((a3.trans b3).B (by omega)).s_, sj_Ms.refl mm⟩
    rw [C1, b1]
    rfl
  · have E2 : sh_Eq 23 (sj_n o) (sh_sum (sj_w o) (sj_n o)) (sj_w o) f m2 := by rw [sj_wsum2]; exact b3
    refine Or.inr ⟨f, m2, ?_, b2, E2.Ev (by unfold sj_n; omega) (by rw [sj_wsum2]; omega) (fun k _ => by unfold sj_w; omega), fun k i hi => ?_, g1.cong b4.T (fun c hc => b4.I c (by omega) (by omega) (by omega) (by omega)), (a3.trans b4).B (by omega), fun c hc => (a3.trans b4).I c (by omega) (by omega) (by omega) (by omega), fun c hc => (a3.trans b4).J c hc⟩
    · rw [C1, b1]
      rfl
    · obtain ⟨t1, t2, t3, t4⟩ := sj_wat hi
      obtain ⟨x, hx, e1, y⟩ := h.at_ (w := nw - o + (64 * k + i)) (by omega) (b5 _ (by omega) (by omega))
      have e2 : f k i = x := by
        rw [hf]
        show (mc.I 59 (nw - o + (64 * k + i))).toNatClampNeg = x
        rw [e1, sh_nIc (by omega)]
      rw [e2]
      exact ⟨hx, y⟩
/-- the model's elements of one side -/
theorem sj_392 {X N : Nat} {m : sh_X} (hX : X < 3) (hN : N ≤ 500) (h121 : m.I 121 X = Int32.ofNat N) (h99 : m.I 99 X = 0) (h102 : m.I 102 X = 0) :
    ∃ m2, sf_324_392 (Int32.ofNat X) 0 m = some (.inl (Int32.ofNat (X + 1), m2)) ∧ m2.I 99 X = Int32.ofNat (sj_n N) ∧ m2.I 102 X = Int32.ofNat (sh_sum (sj_w N) (sj_n N)) ∧ (∀ k, k < sj_n N → m2.I 101 (256 * X + k) = Int32.ofNat (sj_w N k)) ∧ m2.T = m.T ∧ m2.J = m.J ∧ m2.s = m.s ∧ (∀ c, c ≠ 99 → c ≠ 100 → c ≠ 101 → c ≠ 102 → m2.I c = m.I c) ∧ (∀ Y, Y ≠ X → m2.I 99 Y = m.I 99 Y ∧ m2.I 102 Y = m.I 102 Y) ∧ ∀ j, j < 256 * X ∨ 256 * X + 256 ≤ j → m2.I 101 j = m.I 101 j := by
  have hn : sj_n N ≤ 8 := by unfold sj_n; omega
  have oX : sh_okb (Int32.ofNat X) 3 = true := sh_okn' hX (by omega)
  unfold sf_324_392
  obtain ⟨⟨c, m2⟩, ⟨t1, t2, t3, t4, t5, t6, t7, t8, t9, t10⟩, t11⟩ := sh_loop (f := fun q => sf_324_392s (Int32.ofNat X) q.1 q.2) (n := sj_n N) (i := 0) (s := ((0 : Int32), m))
    (fun i s => s.1 = Int32.ofNat (64 * i) ∧ s.2.I 99 X = Int32.ofNat i ∧ s.2.I 102 X = Int32.ofNat (sh_sum (sj_w N) i) ∧ (∀ k, k < i → s.2.I 101 (256 * X + k) = Int32.ofNat (sj_w N k)) ∧ s.2.T = m.T ∧ s.2.J = m.J ∧ s.2.s = m.s ∧ (∀ c, c ≠ 99 → c ≠ 100 → c ≠ 101 → c ≠ 102 → s.2.I c = m.I c) ∧ (∀ Y, Y ≠ X → s.2.I 99 Y = m.I 99 Y ∧ s.2.I 102 Y = m.I 102 Y) ∧ ∀ j, j < 256 * X ∨ 256 * X + 256 ≤ j → s.2.I 101 j = m.I 101 j) (by
      rintro i ⟨c, m2⟩ hi ⟨r1, r2, r3, r4, r5, r6, r7, r8, r9, r10⟩
      have r1 : c = Int32.ofNat (64 * i) := r1
      subst r1
      have r2 : m2.I 99 X = Int32.ofNat i := r2
      have r3 : m2.I 102 X = Int32.ofNat (sh_sum (sj_w N) i) := r3
      have hi2 : 64 * i < N := by unfold sj_n at hi; omega
      have e1 : m2.I 121 X = Int32.ofNat N := (congrFun (r8 121 (by omega) (by omega) (by omega) (by omega)) X).trans h121
      have ix : 256 * Int32.ofNat X + Int32.ofNat i = Int32.ofNat (256 * X + i) := (congrArg (· + Int32.ofNat i) (sh_nImul (a := 256) (b := X))).trans sh_nIadd
      have oi : sh_okb (Int32.ofNat (256 * X + i)) 768 = true := sh_okn' (by omega) (by omega)
      have e289 : sf_289 (Int32.ofNat X) (sh_b2 true) (Int32.ofNat (sj_w N i)) m2 = some ((), (m2.T, sh_u2 (sh_u2 (sh_u2 (sh_u2 m2.I 100 (256 * X + i) (sh_b2 true)) 101 (256 * X + i) (Int32.ofNat (sj_w N i))) 99 X (Int32.ofNat (i + 1))) 102 X (Int32.ofNat (sh_sum (sj_w N) i + sj_w N i)), m2.J, m2.s)) := by
        unfold sf_289
        rw [if_pos oX, sh_nIc (by omega), r2, ix, if_pos oi, if_pos oX, if_pos oi, if_pos oX, if_pos oX, if_pos oX, if_pos oX, sh_nIc (by omega), sh_nI1, r3, sh_nIadd]
      refine ⟨(Int32.ofNat (64 * (i + 1)), (m2.T, sh_u2 (sh_u2 (sh_u2 (sh_u2 m2.I 100 (256 * X + i) (sh_b2 true)) 101 (256 * X + i) (Int32.ofNat (sj_w N i))) 99 X (Int32.ofNat (i + 1))) 102 X (Int32.ofNat (sh_sum (sj_w N) i + sj_w N i)), m2.J, m2.s)), ?_, rfl, ?_, se_Is, fun k hk => ?_, r5, r6, r7, fun c q1 q2 q3 q4 => ?_, fun Y hY => ?_, fun j hj => ?_⟩
      · show sf_324_392s (Int32.ofNat X) (Int32.ofNat (64 * i)) m2 = _
        unfold sf_324_392s
        rw [if_pos oX, sh_nIc (by omega), e1, if_pos ((sh_nIlt (by omega) (by omega)).mpr hi2), if_pos oX, if_pos oX, sh_nIs (by omega)]
        have e64 : Int32.ofNat (64 * i) + 64 = Int32.ofNat (64 * (i + 1)) := (sh_nIadd (b := 64)).trans (by rw [Nat.mul_succ])
        unfold sf_324_431
        by_cases q : N - 64 * i < 64
        · have ew : sj_w N i = N - 64 * i := by unfold sj_w; omega
          rw [if_pos (show Int32.ofNat (N - 64 * i) < 64 from (sh_nIlt (b := 64) (by omega) (by omega)).mpr q), ← ew, e289, sh_bn_some, e64]
        · have ew : sj_w N i = 64 := by unfold sj_w; omega
          rw [if_neg (show ¬ Int32.ofNat (N - 64 * i) < 64 from fun r => q ((sh_nIlt (b := 64) (by omega) (by omega)).mp r)), show (64 : Int32) = Int32.ofNat (sj_w N i) by rw [ew]; rfl, e289, sh_bn_some, show Int32.ofNat (sj_w N i) = 64 by rw [ew]; rfl, e64]
      · rw [se_Ic (by omega), sh_u2_same]
      · rw [se_Ic (by omega), sh_u2_cell (by omega)]
        by_cases q : k = i
        · subst q; rw [sh_u2_same]
        · rw [sh_u2_idx (by omega), sh_u2_cell (by omega)]; exact r4 k (by omega)
      · rw [se_Ic q4, sh_u2_cell q1, sh_u2_cell q3, sh_u2_cell q2]; exact r8 c q1 q2 q3 q4
      · refine ⟨?_, ?_⟩
        · rw [se_Ic (by omega), sh_u2_idx hY, sh_u2_cell (by omega), sh_u2_cell (by omega)]; exact (r9 Y hY).1
        · rw [se_In (fun _ => hY), sh_u2_cell (by omega), sh_u2_cell (by omega), sh_u2_cell (by omega)]; exact (r9 Y hY).2
      · rw [se_Ic (by omega), sh_u2_cell (by omega), sh_u2_idx (by omega), sh_u2_cell (by omega)]; exact r10 j hj) (Nat.zero_le _) ⟨rfl, h99, h102, fun k hk => absurd hk (by omega), rfl, rfl, rfl, fun _ _ _ _ _ => rfl, fun _ _ => ⟨rfl, rfl⟩, fun _ _ => rfl⟩
  have t1 : c = Int32.ofNat (64 * sj_n N) := t1
  subst t1
  refine ⟨m2, t11 _ ?_, t2, t3, t4, t5, t6, t7, t8, t9, t10⟩
  have e1 : m2.I 121 X = Int32.ofNat N := (congrFun (t8 121 (by omega) (by omega) (by omega) (by omega)) X).trans h121
  show sf_324_392s (Int32.ofNat X) (Int32.ofNat (64 * sj_n N)) m2 = _
  unfold sf_324_392s
  rw [if_pos oX, sh_nIc (by omega), e1, if_neg (fun q => by have := (sh_nIlt (by omega) (by omega)).mp q; unfold sj_n at this; omega), sh_nI1]
/-- the model's elements -/
theorem sj_371 {N : Nat → Nat} {m : sh_X} (hN : ∀ X, X < 3 → N X ≤ 500 ∧ m.I 121 X = Int32.ofNat (N X)) :
    ∃ m2, sf_324_371 0 m = some (true, m2) ∧ (∀ X, X < 3 → m2.I 99 X = Int32.ofNat (sj_n (N X)) ∧ m2.I 102 X = Int32.ofNat (sh_sum (sj_w (N X)) (sj_n (N X))) ∧ ∀ k, k < sj_n (N X) → m2.I 101 (256 * X + k) = Int32.ofNat (sj_w (N X) k)) ∧ m2.T = m.T ∧ m2.J = m.J ∧ m2.s = m.s ∧ (∀ c, c ≠ 99 → c ≠ 100 → c ≠ 101 → c ≠ 102 → m2.I c = m.I c) := by
  unfold sf_324_371
  obtain ⟨⟨c, m2⟩, ⟨t1, t2, t3, t4, t5, t6⟩, t7⟩ := sh_loop (f := fun q => sf_324_371s q.1 q.2) (n := 3) (i := 0) (s := ((0 : Int32), m))
    (fun i s => s.1 = Int32.ofNat i ∧ (∀ X, X < i → s.2.I 99 X = Int32.ofNat (sj_n (N X)) ∧ s.2.I 102 X = Int32.ofNat (sh_sum (sj_w (N X)) (sj_n (N X))) ∧ ∀ k, k < sj_n (N X) → s.2.I 101 (256 * X + k) = Int32.ofNat (sj_w (N X) k)) ∧ s.2.T = m.T ∧ s.2.J = m.J ∧ s.2.s = m.s ∧ (∀ c, c ≠ 99 → c ≠ 100 → c ≠ 101 → c ≠ 102 → s.2.I c = m.I c)) (by
      rintro i ⟨c, m2⟩ hi ⟨r1, r2, r3, r4, r5, r6⟩
      have r1 : c = Int32.ofNat i := r1
      subst r1
      have oX : sh_okb (Int32.ofNat i) 3 = true := sh_okn' hi (by omega)
      obtain ⟨m3, hm3⟩ : ∃ m3 : sh_X, (m2.T, sh_u2 (sh_u2 m2.I 99 i 0) 102 i 0, m2.J, m2.s) = m3 := ⟨_, rfl⟩
      have c3 : ∀ c, c ≠ 99 → c ≠ 102 → m3.I c = m2.I c := fun c q1 q2 => by rw [← hm3, se_Ic q2, sh_u2_cell q1]
      have nn : ∀ X, X < 3 → sj_n (N X) ≤ 8 := fun X hX => by have := (hN X hX).1; unfold sj_n; omega
      obtain ⟨m4, b1, b2, b3, b4, b5, b6, b7, b8, b9, b10⟩ := sj_392 (X := i) (N := N i) (m := m3) hi (hN i hi).1 (by rw [c3 121 (by omega) (by omega)]; exact (congrFun (r6 121 (by omega) (by omega) (by omega) (by omega)) i).trans (hN i hi).2) (by rw [← hm3, se_Ic (by omega), sh_u2_same]) (by rw [← hm3]; exact se_Is)
      refine ⟨(Int32.ofNat (i + 1), m4), ?_, rfl, fun X hX => ?_, by rw [← hm3] at b5; exact b5.trans r3, by rw [← hm3] at b6; exact b6.trans r4, by rw [← hm3] at b7; exact b7.trans r5, fun c q1 q2 q3 q4 => (b8 c q1 q2 q3 q4).trans ((c3 c q1 q4).trans (r6 c q1 q2 q3 q4))⟩
      · show sf_324_371s (Int32.ofNat i) m2 = _
        unfold sf_324_371s
        rw [if_pos (show Int32.ofNat i < 3 from (sh_nIlt (b := 3) (by omega) (by omega)).mpr hi), if_pos oX, if_pos oX, sh_nIc (by omega), hm3, b1]
      · by_cases q : X = i
        · subst q; exact ⟨b2, b3, b4⟩
        · obtain ⟨s1, s2, s3⟩ := r2 X (by omega)
          obtain ⟨u1, u2⟩ := b9 X q
          have nx := nn X (by omega)
          refine ⟨by rw [u1, ← hm3, se_Ic (by omega), sh_u2_idx q]; exact s1, by rw [u2, ← hm3, se_In (fun _ => q), sh_u2_cell (by omega)]; exact s2, fun k hk => ?_⟩
          have hj : 256 * X + k < 256 * i := by omega
          rw [b10 (256 * X + k) (Or.inl hj), c3 101 (by omega) (by omega)]
          exact s3 k hk) (Nat.zero_le _) ⟨rfl, fun X hX => absurd hX (by omega), rfl, rfl, rfl, fun _ _ _ _ _ => rfl⟩
  have t1 : c = Int32.ofNat 3 := t1
  subst t1
  refine ⟨m2, t7 _ ?_, t2, t3, t4, t5, t6⟩
  show sf_324_371s (Int32.ofNat 3) m2 = _
  unfold sf_324_371s
  rw [if_neg (by decide)]
