/-! CIRCUITS: the head's lines -/
def sj_Ch (m m2 : sh_X) : Prop := (m2.T = m.T) ∧ (m2.J = m.J) ∧ (m2.s = m.s) ∧ (∀ c, c ≠ 58 → m2.I c = m.I c)
theorem sj_Ch.T {m m2 : sh_X} (h : sj_Ch m m2) : m2.T = m.T := h.1
theorem sj_Ch.J {m m2 : sh_X} (h : sj_Ch m m2) : m2.J = m.J := h.2.1
theorem sj_Ch.s {m m2 : sh_X} (h : sj_Ch m m2) : m2.s = m.s := h.2.2.1
theorem sj_Ch.I {m m2 : sh_X} (h : sj_Ch m m2) : ∀ c, c ≠ 58 → m2.I c = m.I c := h.2.2.2
theorem sj_Ch.mk {m m2 : sh_X} (T : m2.T = m.T) (J : m2.J = m.J) (s : m2.s = m.s) (I : ∀ c, c ≠ 58 → m2.I c = m.I c) : sj_Ch m m2 := ⟨T, J, s, I⟩
theorem sj_Ch.trans {m m2 m3 : sh_X} (h : sj_Ch m m2) (g : sj_Ch m2 m3) : sj_Ch m m3 := sj_Ch.mk (g.T.trans h.T) (g.J.trans h.J) (g.s.trans h.s) (fun c a => (g.I c a).trans (h.I c a))
theorem sj_Cf.h {m m2 : sh_X} (h : sj_Cf m m2) : sj_Ch m m2 := sj_Ch.mk h.T h.J h.s h.I
theorem sj_Ch.w {m : sh_X} {f : Nat} {x : Int32} : sj_Ch m (m.T, sh_u2 m.I 58 f x, m.J, m.s) := sj_Ch.mk rfl rfl rfl (fun _ a => se_Ic a)
theorem sj_Ch.s_ {m m2 : sh_X} (h : sj_Ch m m2) : sj_Cs m m2 := sj_Cs.mk (sj_K.of h.T h.s (fun c _ b => h.I c (by omega)) (h.I 1 (by omega)) (fun _ _ => by rw [h.J])) (h.I 0 (by omega))
theorem sj_Ch.GS {gs : sh_gL} {m m2 : sh_X} (h : sj_Ch m m2) (g : sh_GS gs m) : sh_GS gs m2 := g.cong h.T (fun c hc => h.I c (by omega))
theorem sj_Mf.s_ {m m2 : sh_X} (h : sj_Mf m m2) : sj_Ms m m2 := h.l.s_
theorem sj_Ms.w {m : sh_X} {c i : Nat} {x : Int32} (hc : (68 ≤ c ∧ c ≤ 123 ∧ c ≠ 122) ∨ (c = 66 ∧ 85 ≤ i)) : sj_Ms m (m.T, sh_u2 m.I c i x, m.J, m.s) := sj_Ms.mk rfl rfl rfl (fun d a b => se_Ic (by omega)) (fun f a => by
  by_cases h : c = 66
  · subst h; exact se_In (by omega)
  · show sh_u2 m.I c i x 66 f = _
    rw [sh_u2_cell (by omega)])
/-- a number, a note of it, a letter -/
theorem sj_325w {n p lo hi x f : Nat} {B : Nat → Int32} {mc mm : sh_X} (h : sj_P n B p mc mm) (hl : lo < 1000000) (hh : hi < 1000000) (hx : x < 256) (hf : f = 8 ∨ f = 9) :
    (∃ q m1 m2, (∀ F : Int32 → sh_X → Option (Option Unit × sh_X), (sh_bt (sf_201 (Int32.ofNat lo) (Int32.ofNat hi) mc) (fun m => (none, m)) fun r m11 => sh_bt (sf_204 (Int32.ofNat x) ⟨m11.T, sh_u2 m11.I 58 f r, m11.J, m11.s⟩) (fun m => (none, m)) fun _ m12 => F r m12) = some (none, sj_ft (Int32.ofNat q) m1)) ∧ sf_325 (Int32.ofNat lo) (Int32.ofNat hi) (Int32.ofNat x) mm = some (false, sh_mft 2 (Int32.ofNat q) m2) ∧ sj_Ch mc m1 ∧ sj_Mf mm m2) ∨
    ∃ v p2 m1 m2, (∀ F : Int32 → sh_X → Option (Option Unit × sh_X), (sh_bt (sf_201 (Int32.ofNat lo) (Int32.ofNat hi) mc) (fun m => (none, m)) fun r m11 => sh_bt (sf_204 (Int32.ofNat x) ⟨m11.T, sh_u2 m11.I 58 f r, m11.J, m11.s⟩) (fun m => (none, m)) fun _ m12 => F r m12) = F (Int32.ofNat v) m1) ∧ sf_325 (Int32.ofNat lo) (Int32.ofNat hi) (Int32.ofNat x) mm = some (true, m2) ∧ lo ≤ v ∧ v ≤ hi ∧ sj_P n B p2 m1 m2 ∧ sj_Ch mc m1 ∧ m1.I 58 f = Int32.ofNat v ∧ (∀ g, g ≠ 7 → g ≠ f → m1.I 58 g = mc.I 58 g) ∧ sj_Mf mm m2 ∧ m2.I 66 92 = Int32.ofNat v := by
  unfold sf_325
  rcases sj_num h hl hh with ⟨q, m1, m2, e1, e2, f1, f2⟩ | ⟨v, p2, m1, m2, e1, e2, l1, l2, P2, f1, f2, v92, v93⟩
  · exact Or.inl ⟨q, m1, m2, fun F => by rw [e1]; rfl, by rw [e2]; rfl, f1.h, f2⟩
  · rw [e1, e2, sh_bn_some, if_pos rfl]
    obtain ⟨m1', hm1⟩ : ∃ m1' : sh_X, (m1.T, sh_u2 m1.I 58 f (Int32.ofNat v), m1.J, m1.s) = m1' := ⟨_, rfl⟩
    have k1 : sj_Ch m1 m1' := by rw [← hm1]; exact sj_Ch.w
    have kF : ∀ g, g ≠ f → m1'.I 58 g = m1.I 58 g := fun g q => by rw [← hm1]; exact se_In (fun _ => q)
    have P2' : sj_P n B p2 m1' m2 := sj_P.mk (sj_rc.mk (by rw [k1.T]; exact P2.c.rf) (by rw [k1.T]; exact P2.c.ln) (by rw [kF 6 (by omega)]; exact P2.c.le) (by rw [kF 7 (by omega)]; exact P2.c.at_)) P2.m (by rw [k1.I 1 (by omega)]; exact P2.bc) P2.bm P2.pn P2.n4 (by rw [k1.T]; exact P2.tl)
    rcases sj_chr P2' hx with ⟨q, m3, m4, g1, g2, g3, g4⟩ | ⟨m3, m4, g1, g2, P3, g3, g4, g5, g6⟩
    · refine Or.inl ⟨q, m3, m4, fun F => ?_, by rw [g2]; rfl, (f1.h.trans k1).trans g3.h, f2.trans g4⟩
      show (sh_bt (sf_204 (Int32.ofNat x) (m1.T, sh_u2 m1.I 58 f (Int32.ofNat v), m1.J, m1.s)) _ _) = _
      rw [hm1, g1]; rfl
    · refine Or.inr ⟨v, p2 + 1, m3, m4, fun F => ?_, by rw [g2]; rfl, l1, l2, P3, (f1.h.trans k1).trans g3.h, by rw [g3.F f (by omega), ← hm1]; exact se_Is, fun g q1 q2 => by rw [g3.F g q1, kF g q2, f1.F g q1], f2.trans g4, g5.trans v92⟩
      show (sh_bt (sf_204 (Int32.ofNat x) (m1.T, sh_u2 m1.I 58 f (Int32.ofNat v), m1.J, m1.s)) _ _) = _
      rw [hm1, g1]; rfl
theorem sj_min1 {nw a v : Nat} (ha : a ≤ 500) (hn : nw ≤ 4000) (hv : v ≤ 500) : sf_21 500 (Int32.ofNat nw - Int32.ofNat a) < Int32.ofNat v ↔ nw < a + v := by
  by_cases q : a ≤ nw
  · rw [sh_nIs q, show sf_21 500 (Int32.ofNat (nw - a)) = Int32.ofNat (min 500 (nw - a)) from sh_min (a := 500) (by omega) (by omega), sh_nIlt (by omega) (by omega)]
    omega
  · have x := sh_nIneg (a := nw) (b := a) (by omega) (by omega) (by omega)
    have z : (0 : Int32).toInt = 0 := by decide
    have x2 := Int32.lt_iff_toInt_lt.mp x
    have e : sf_21 500 (Int32.ofNat nw - Int32.ofNat a) = Int32.ofNat nw - Int32.ofNat a := by
      unfold sf_21
      refine if_pos (Int32.lt_iff_toInt_lt.mpr ?_)
      have z5 : (500 : Int32).toInt = 500 := by decide
      omega
    rw [e]
    refine ⟨fun _ => by omega, fun _ => Int32.lt_iff_toInt_lt.mpr ?_⟩
    rw [sh_nI (n := v) (by omega)]
    omega
theorem sj_min2 {nw a : Nat} (ha : a ≤ 500) (hn : nw ≤ 4000) : ∀ v : Int32, Int32.ofNat 500 < v → sf_21 500 (Int32.ofNat nw - Int32.ofNat a) < v := fun v hv => by
  have z5 : (500 : Int32).toInt = 500 := by decide
  have h1 : (500 : Int32).toInt < v.toInt := Int32.lt_iff_toInt_lt.mp hv
  unfold sf_21
  by_cases q : Int32.ofNat nw - Int32.ofNat a < 500
  · rw [if_pos q]
    have := Int32.lt_iff_toInt_lt.mp q
    exact Int32.lt_iff_toInt_lt.mpr (by omega)
  · rw [if_neg q]; exact hv
/-- the inputs' line -/
theorem sj_205 {n p nw : Nat} {B : Nat → Int32} {mc mm : sh_X} (F : sh_X → Option (Bool × sh_X)) (P : sj_P n B p mc mm) (g : sh_GS [(0, 0, 0), (0, 0, 0)] mc) (hw4 : nw ≤ 4000) (c8 : mc.I 58 8 = Int32.ofNat nw) (m86 : mm.I 66 86 = Int32.ofNat nw) (e4 : ∀ x, x = 13 ∨ x = 18 → mc.I x 4 = 0 ∧ mc.I x 5 = 0) {M : Option (Bool × sh_X)}
    (hM : M = (sh_bn (sf_325 2 2 32 mm) fun r3 m13 => if r3 = true then (sh_bn (sf_325 1 500 32 m13) fun r4 m14 => if r4 = true then (sh_bn (sf_326 1 500 ⟨m14.T, sh_u2 m14.I 121 0 (m14.I 66 92), m14.J, m14.s⟩) fun r5 m15 => if r5 = true then (if (m15.I 66 86) < ((m15.I 121 0) + (m15.I 66 92)) then (sh_bn (sf_252 2 (m15.I 66 93) ⟨m15.T, sh_u2 m15.I 121 1 (m15.I 66 92), m15.J, m15.s⟩) fun r6 m16 => some ((r6, m16))) else (sh_bn (sf_327 10 ⟨m15.T, sh_u2 m15.I 121 1 (m15.I 66 92), m15.J, m15.s⟩) fun r7 m17 => if r7 = true then F m17 else some ((false, m17)))) else some ((false, m15))) else some ((false, m14))) else some ((false, m13)))) :
    sj_bw (sf_205 mc) M mc mm ∨ ∃ a b p2 m1 m2 gs, sf_205 mc = some (some (), m1) ∧ M = F m2 ∧ 1 ≤ a ∧ a ≤ 500 ∧ 1 ≤ b ∧ b ≤ 500 ∧ a + b ≤ nw ∧ sj_P n B p2 m1 m2 ∧ sh_GS gs m1 ∧ gs.length = 2 + a + b ∧ (∀ y ∈ gs, y = (0, 0, 0)) ∧ sh_Ev 13 (sj_n a) (sj_w a) (fun k i => 2 + (64 * k + i)) m1 ∧ sh_Ev 18 (sj_n b) (sj_w b) (fun k i => 2 + a + (64 * k + i)) m1 ∧ (∀ w, w < a + b → m1.I 59 w = Int32.ofNat (2 + w)) ∧ (∀ w, a + b ≤ w → m1.I 59 w = mc.I 59 w) ∧ sj_Cs mc m1 ∧ sj_Ms mm m2 ∧ (∀ f, f ≠ 7 → m1.I 58 f = mc.I 58 f) ∧ m1.I 23 = mc.I 23 ∧ (∀ k, k < sj_n a → m1.J 16 k = 0) ∧ (∀ k, k < sj_n b → m1.J 21 k = 0) ∧ m2.I 121 0 = Int32.ofNat a ∧ m2.I 121 1 = Int32.ofNat b ∧ m2.I 66 85 = mm.I 66 85 ∧ m2.I 66 86 = Int32.ofNat nw := by
  obtain ⟨C, hC⟩ : ∃ C, C = sf_205 mc := ⟨_, rfl⟩
  rw [← hC]
  unfold sf_205 at hC
  rcases sj_325 (lo := 2) (hi := 2) (x := 32) P (by omega) (by omega) (by omega) with ⟨q, m1, n1, c1, d1, f1, f2⟩ | ⟨tw, p1, m1, n1, c1, d1, l1, l2, P1, f1, f2, v92⟩
  · refine Or.inl ⟨q, m1, n1, _, hC.trans (c1 _), ?_, f1.GS g, f1.l.s_, f2.s_⟩
    rw [hM, show sf_325 2 2 32 mm = _ from d1]
    rfl
  have hC := hC.trans (c1 _)
  rw [show sf_325 2 2 32 mm = _ from d1, sh_bn_some, if_pos rfl] at hM
  rcases sj_325 (lo := 1) (hi := 500) (x := 32) P1 (by omega) (by omega) (by omega) with ⟨q, m2, n2, c2, d2, f3, f4⟩ | ⟨a, p2, m2, n2, c2, d2, a1, a5, P2, f3, f4, w92⟩
  · refine Or.inl ⟨q, m2, n2, _, hC.trans (c2 _), ?_, (f1.trans f3).GS g, (f1.trans f3).l.s_, (f2.trans f4).s_⟩
    rw [hM, show sf_325 1 500 32 n1 = _ from d2]
    rfl
  have hC := hC.trans (c2 _)
  obtain ⟨nA, hnA⟩ : ∃ nA : sh_X, (n2.T, sh_u2 n2.I 121 0 (Int32.ofNat a), n2.J, n2.s) = nA := ⟨_, rfl⟩
  rw [show sf_325 1 500 32 n1 = _ from d2, sh_bn_some, if_pos rfl, w92, hnA] at hM
  have F1 := f1.trans f3
  have F2 := f2.trans f4
  have aI : ∀ c, c ≠ 121 → nA.I c = n2.I c := fun c q => by rw [← hnA]; exact se_Ic q
  have PA : sj_P n B p2 m2 nA := P2.mw (aI 67 (by omega)) (by rw [aI 66 (by omega)]) (by rw [aI 66 (by omega)])
  have LA : sj_Ms mm nA := F2.s_.trans (by rw [← hnA]; exact sj_Ms.w (by omega))
  have c8' : m2.I 58 8 = Int32.ofNat nw := by rw [F1.F 8 (by omega)]; exact c8
  rcases sj_num2 (lo := 1) (hi := 500) (hi2 := sf_21 500 (Int32.ofNat nw - Int32.ofNat a)) PA (by omega) (by omega) (sj_min2 a5 hw4) with ⟨q, m3, n3, c3, d3, f5, f6⟩ | ⟨b, p3, n3, d3, b1, b5, f6, u92, u93, hb⟩
  · refine Or.inl ⟨q, m3, n3, _, ?_, ?_, (F1.trans f5).GS g, (F1.trans f5).l.s_, LA.trans f6.s_⟩
    · refine hC.trans ?_
      show (sh_bt (sf_201 1 (sf_21 500 ((m2.I 58 8) - (Int32.ofNat a))) m2) _ _) = _
      rw [c8', show sf_201 1 (sf_21 500 (Int32.ofNat nw - Int32.ofNat a)) m2 = _ from c3]; rfl
    · rw [hM, show sf_326 1 500 nA = _ from d3]; rfl
  have n86 : n3.I 66 86 = Int32.ofNat nw := by rw [f6.F 86 (by omega) (by omega) (by omega), aI 66 (by omega), F2.F 86 (by omega) (by omega) (by omega)]; exact m86
  have n120 : n3.I 121 0 = Int32.ofNat a := by rw [f6.I 121 (by omega), ← hnA]; exact se_Is
  rw [show sf_326 1 500 nA = _ from d3, sh_bn_some, if_pos rfl, n86, n120, u92, sh_nIadd, u93] at hM
  have ck : Int32.ofNat nw < Int32.ofNat (a + b) ↔ nw < a + b := sh_nIlt (by omega) (by omega)
  obtain ⟨nB, hnB⟩ : ∃ nB : sh_X, (n3.T, sh_u2 n3.I 121 1 (Int32.ofNat b), n3.J, n3.s) = nB := ⟨_, rfl⟩
  rw [hnB] at hM
  have LB : sj_Ms mm nB := (LA.trans f6.s_).trans (by rw [← hnB]; exact sj_Ms.w (by omega))
  have bI : ∀ c, c ≠ 121 → nB.I c = n3.I c := fun c q => by rw [← hnB]; exact se_Ic q
  rcases hb with ⟨hb, m3, c3, f5⟩ | ⟨hb, m3, c3, P3, f5⟩
  · rw [if_pos (ck.mpr ((sj_min1 a5 hw4 b5).mp hb)), sj_252] at hM
    refine Or.inl ⟨p2, m3, nB, _, ?_, hM, (F1.trans f5).GS g, (F1.trans f5).l.s_, LB⟩
    refine hC.trans ?_
    show (sh_bt (sf_201 1 (sf_21 500 ((m2.I 58 8) - (Int32.ofNat a))) m2) _ _) = _
    rw [c8', show sf_201 1 (sf_21 500 (Int32.ofNat nw - Int32.ofNat a)) m2 = _ from c3]; rfl
  have hab : ¬ nw < a + b := fun q => hb ((sj_min1 a5 hw4 b5).mpr q)
  rw [if_neg (fun q => hab (ck.mp q))] at hM
  have PB : sj_P n B p3 m3 nB := P3.mw (bI 67 (by omega)) (by rw [bI 66 (by omega)]) (by rw [bI 66 (by omega)])
  have F3 := F1.trans f5
  have hC : C = sh_bt (sf_204 10 m3) (fun m => (none, m)) fun _ m17 => sh_bn (sf_206 13 0 (Int32.ofNat a) m17) fun _ m18 => sh_bn (sf_206 18 (Int32.ofNat a) (Int32.ofNat b) m18) fun _ m19 => some ((some (), m19)) := by
    refine hC.trans ?_
    show (sh_bt (sf_201 1 (sf_21 500 ((m2.I 58 8) - (Int32.ofNat a))) m2) _ _) = _
    rw [c8', show sf_201 1 (sf_21 500 (Int32.ofNat nw - Int32.ofNat a)) m2 = _ from c3]; rfl
  rcases sj_chr (x := 10) PB (by omega) with ⟨q, m4, n4, c4, d4, f7, f8⟩ | ⟨m4, n4, c4, d4, P4, f7, f8, _, _⟩
  · refine Or.inl ⟨q, m4, n4, _, ?_, ?_, (F3.trans f7).GS g, (F3.trans f7).l.s_, LB.trans f8.s_⟩
    · rw [hC, show sf_204 10 m3 = _ from c4]; rfl
    · rw [hM, show sf_327 10 nB = _ from d4]; rfl
  rw [show sf_327 10 nB = _ from d4, sh_bn_some, if_pos rfl] at hM
  have F4 := F3.trans f7
  have g4 := F4.GS g
  obtain ⟨e1, m5, s1, s2, s3, s4, s5, s6, s7, s8, s9, s10, s11⟩ := sj_206 (x := 13) (N := a) (o := 0) (L := 2) (f := fun k i => 2 + (64 * k + i)) (Or.inl rfl) g4 rfl rfl a5 (by omega) (by omega) (fun _ _ => rfl) (by rw [F4.I 13 (by omega)]; exact (e4 13 (by omega)).1) (by rw [F4.I 13 (by omega)]; exact (e4 13 (by omega)).2)
  have gh5 : sh_gh (e1 ++ [(0, 0, 0), (0, 0, 0)]) = 0 := by unfold sh_gh; rw [sh_ga_ext (by decide)]; rfl
  have l5 : (e1 ++ [((0, 0, 0) : Nat × Nat × Nat), (0, 0, 0)]).length = 2 + a := by rw [List.length_append, s3]; show a + 2 = _; omega
  obtain ⟨e2, m6, t1, t2, t3, t4, t5, t6, t7, t8, t9, t10, t11⟩ := sj_206 (x := 18) (N := b) (o := a) (L := 2 + a) (f := fun k i => 2 + a + (64 * k + i)) (m := m5) (Or.inr rfl) s2 gh5 l5 b5 (by omega) (by omega) (fun _ _ => rfl) (by rw [s10 18 (by omega) (by omega) (by omega), F4.I 18 (by omega)]; exact (e4 18 (by omega)).1) (by rw [s10 18 (by omega) (by omega) (by omega), F4.I 18 (by omega)]; exact (e4 18 (by omega)).2)
  have B46 : sj_B m4 m6 := s6.trans t6
  have P6 : sj_P n B (p3 + 1) m6 n4 := sj_P.mk (B46.rc g4 P4.c) P4.m (by rw [B46.I 1 (by omega) (by omega) (by omega)]; exact P4.bc) P4.bm P4.pn P4.n4 t2.tl
  refine Or.inr ⟨a, b, p3 + 1, m6, n4, e2 ++ (e1 ++ [(0, 0, 0), (0, 0, 0)]), ?_, hM, a1, a5, b1, b5, by omega, P6, t2, by rw [List.length_append, l5, t3]; omega, fun y hy => ?_, ?_, t5, fun w hw => ?_, fun w hw => ?_, F4.l.s_.trans B46.s_, LB.trans f8.s_, fun f hf => ?_, ?_, fun k hk => ?_, t9, ?_, ?_, ?_, ?_⟩
  · rw [hC, show sf_204 10 m3 = _ from c4]
    show sh_bn (sf_206 13 (Int32.ofNat 0) (Int32.ofNat a) m4) _ = _
    rw [s1, sh_bn_some, t1, sh_bn_some]
  · rcases List.mem_append.mp hy with q | q
    · exact t4 y q
    · rcases List.mem_append.mp q with q | q
      · exact s4 y q
      · simp at q; exact q
  · exact s5.cong (t10 13 (by omega) (by omega) (by omega)) (t10 14 (by omega) (by omega) (by omega)) (t10 15 (by omega) (by omega) (by omega)) (t10 17 (by omega) (by omega) (by omega))
  · by_cases q : w < a
    · rw [t8 w (Or.inl q)]
      have := s7 w q
      rw [Nat.zero_add] at this
      exact this
    · have := t7 (w - a) (by omega)
      rw [show a + (w - a) = w by omega, show 2 + a + (w - a) = 2 + w by omega] at this
      exact this
  · rw [t8 w (Or.inr hw), s8 w (Or.inr (by omega)), F4.I 59 (by omega)]
  · rw [B46.I 58 (by omega) (by omega) (by omega), F4.F f hf]
  · rw [t10 23 (by omega) (by omega) (by omega), s10 23 (by omega) (by omega) (by omega), F4.I 23 (by omega)]
  · rw [t11 16 (by omega)]; exact s9 k hk
  · rw [f8.I 121 (by omega), ← hnB, se_In (by omega)]; exact n120
  · rw [f8.I 121 (by omega), ← hnB]; exact se_Is
  · rw [f8.F 85 (by omega) (by omega) (by omega), bI 66 (by omega), f6.F 85 (by omega) (by omega) (by omega), aI 66 (by omega), F2.F 85 (by omega) (by omega) (by omega)]
  · rw [f8.F 86 (by omega) (by omega) (by omega), bI 66 (by omega)]; exact n86
