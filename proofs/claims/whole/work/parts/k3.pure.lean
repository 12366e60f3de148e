/-! CIRCUITS: the gates -/
/-- what a gate's line leaves as it was: the class, the model -/
def sj_Cl (m m2 : sh_X) : Prop := (∀ c t, c ≠ 9 → m.T[c]? = some t → m2.T[c]? = some t) ∧ (sj_K 0 m m2) ∧ (∀ c, c < 125 → (c < 9 ∨ 12 < c) → c ≠ 58 → c ≠ 59 → m2.I c = m.I c) ∧ (∀ f, f ≠ 7 → f ≠ 10 → m2.I 58 f = m.I 58 f) ∧ (m2.J = m.J)
theorem sj_Cl.T {m m2 : sh_X} (h : sj_Cl m m2) : ∀ c t, c ≠ 9 → m.T[c]? = some t → m2.T[c]? = some t := h.1
theorem sj_Cl.K {m m2 : sh_X} (h : sj_Cl m m2) : sj_K 0 m m2 := h.2.1
theorem sj_Cl.I {m m2 : sh_X} (h : sj_Cl m m2) : ∀ c, c < 125 → (c < 9 ∨ 12 < c) → c ≠ 58 → c ≠ 59 → m2.I c = m.I c := h.2.2.1
theorem sj_Cl.F {m m2 : sh_X} (h : sj_Cl m m2) : ∀ f, f ≠ 7 → f ≠ 10 → m2.I 58 f = m.I 58 f := h.2.2.2.1
theorem sj_Cl.J {m m2 : sh_X} (h : sj_Cl m m2) : m2.J = m.J := h.2.2.2.2
theorem sj_Cl.mk {m m2 : sh_X} (T : ∀ c t, c ≠ 9 → m.T[c]? = some t → m2.T[c]? = some t) (K : sj_K 0 m m2) (I : ∀ c, c < 125 → (c < 9 ∨ 12 < c) → c ≠ 58 → c ≠ 59 → m2.I c = m.I c) (F : ∀ f, f ≠ 7 → f ≠ 10 → m2.I 58 f = m.I 58 f) (J : m2.J = m.J) : sj_Cl m m2 := ⟨T, K, I, F, J⟩
theorem sj_Cl.refl (m : sh_X) : sj_Cl m m := sj_Cl.mk (fun _ _ _ h => h) (sj_K.refl m) (fun _ _ _ _ _ => rfl) (fun _ _ _ => rfl) rfl
theorem sj_Cl.trans {m m2 m3 : sh_X} (h : sj_Cl m m2) (g : sj_Cl m2 m3) : sj_Cl m m3 := sj_Cl.mk (fun c t a b => g.T c t a (h.T c t a b)) (h.K.trans g.K) (fun c a b d e => (g.I c a b d e).trans (h.I c a b d e)) (fun f a b => (g.F f a b).trans (h.F f a b)) (g.J.trans h.J)
theorem sj_Cf.l {m m2 : sh_X} (h : sj_Cf m m2) : sj_Cl m m2 := sj_Cl.mk (fun c t _ e => by rw [h.T]; exact e) (sj_K.of h.T h.s (fun c _ b => h.I c (by omega)) (h.I 1 (by omega)) (fun _ _ => by rw [h.J])) (fun c _ _ d _ => h.I c d) (fun f a _ => h.F f a) h.J
theorem sh_Gf.l {m m2 : sh_X} (h : sh_Gf m m2) : sj_Cl m m2 := sj_Cl.mk h.T h.K (fun c a b _ _ => h.I c a (by omega) (by omega) (by omega) (by omega)) (fun f _ _ => by rw [h.I 58 (by omega) (by omega) (by omega) (by omega) (by omega)]) h.J
theorem sj_Cf.GS {gs : sh_gL} {m m2 : sh_X} (h : sj_Cf m m2) (g : sh_GS gs m) : sh_GS gs m2 := g.cong h.T (fun c hc => h.I c (by omega))
def sj_Ml (m m2 : sh_X) : Prop := (m2.T = m.T) ∧ (m2.J = m.J) ∧ (m2.s = m.s) ∧ (∀ c, c ≠ 66 → (c < 117 ∨ 120 < c) → c ≠ 123 → m2.I c = m.I c) ∧ (∀ f, f ≠ 87 → f ≠ 91 → f ≠ 92 → f ≠ 93 → m2.I 66 f = m.I 66 f)
theorem sj_Ml.T {m m2 : sh_X} (h : sj_Ml m m2) : m2.T = m.T := h.1
theorem sj_Ml.J {m m2 : sh_X} (h : sj_Ml m m2) : m2.J = m.J := h.2.1
theorem sj_Ml.s {m m2 : sh_X} (h : sj_Ml m m2) : m2.s = m.s := h.2.2.1
theorem sj_Ml.I {m m2 : sh_X} (h : sj_Ml m m2) : ∀ c, c ≠ 66 → (c < 117 ∨ 120 < c) → c ≠ 123 → m2.I c = m.I c := h.2.2.2.1
theorem sj_Ml.F {m m2 : sh_X} (h : sj_Ml m m2) : ∀ f, f ≠ 87 → f ≠ 91 → f ≠ 92 → f ≠ 93 → m2.I 66 f = m.I 66 f := h.2.2.2.2
theorem sj_Ml.mk {m m2 : sh_X} (T : m2.T = m.T) (J : m2.J = m.J) (s : m2.s = m.s) (I : ∀ c, c ≠ 66 → (c < 117 ∨ 120 < c) → c ≠ 123 → m2.I c = m.I c) (F : ∀ f, f ≠ 87 → f ≠ 91 → f ≠ 92 → f ≠ 93 → m2.I 66 f = m.I 66 f) : sj_Ml m m2 := ⟨T, J, s, I, F⟩
theorem sj_Ml.refl (m : sh_X) : sj_Ml m m := sj_Ml.mk rfl rfl rfl (fun _ _ _ _ => rfl) (fun _ _ _ _ _ => rfl)
theorem sj_Ml.trans {m m2 m3 : sh_X} (h : sj_Ml m m2) (g : sj_Ml m2 m3) : sj_Ml m m3 := sj_Ml.mk (g.T.trans h.T) (g.J.trans h.J) (g.s.trans h.s) (fun c a b d => (g.I c a b d).trans (h.I c a b d)) (fun f a b c d => (g.F f a b c d).trans (h.F f a b c d))
theorem sj_Mf.l {m m2 : sh_X} (h : sj_Mf m m2) : sj_Ml m m2 := sj_Ml.mk h.T h.J h.s (fun c a _ _ => h.I c a) (fun f _ b c d => h.F f b c d)
theorem sj_Ml.w {m : sh_X} {c i : Nat} {x : Int32} (hc : (117 ≤ c ∧ c ≤ 120) ∨ c = 123 ∨ (c = 66 ∧ i = 87)) : sj_Ml m (m.T, sh_u2 m.I c i x, m.J, m.s) := sj_Ml.mk rfl rfl rfl (fun d a b e => se_Ic (by omega)) (fun f a b d e => by
  by_cases h : c = 66
  · subst h; exact se_In (by omega)
  · show sh_u2 m.I c i x 66 f = _
    rw [sh_u2_cell (by omega)])
/-- both fail at the same place; gates may have come -/
def sj_bx {α : Type} (ec : Option (Option α × sh_X)) (em : Option (Bool × sh_X)) (mc mm : sh_X) : Prop := ∃ q m1 m2 gs, ec = some (none, sj_ft (Int32.ofNat q) m1) ∧ em = some (false, sh_mft 2 (Int32.ofNat q) m2) ∧ sh_GS gs m1 ∧ sj_Cl mc m1 ∧ sj_Ml mm m2
theorem sj_bx.pre {α : Type} {ec : Option (Option α × sh_X)} {em : Option (Bool × sh_X)} {mc mm mc0 mm0 : sh_X} (h : sj_bx ec em mc mm) (a : sj_Cl mc0 mc) (b : sj_Ml mm0 mm) : sj_bx ec em mc0 mm0 := by
  obtain ⟨q, m1, m2, gs, h1, h2, h3, h4, h5⟩ := h
  exact ⟨q, m1, m2, gs, h1, h2, h3, a.trans h4, b.trans h5⟩
theorem sj_P.cb {n p : Nat} {B : Nat → Int32} {mc mm mc2 : sh_X} {gs : sh_gL} (h : sj_P n B p mc mm) (g : sh_GS gs mc) (f : sj_Cl mc mc2) (e : mc2.I 58 7 = mc.I 58 7) (tl : mc2.T.length < 900001) : sj_P n B p mc2 mm := by
  have nT : 125 ≤ mc.T.length := by obtain ⟨_, _, _, _, _, _, _, gv⟩ := g; exact gv.nT
  exact sj_P.mk (sj_rc.mk (by rw [sh_rf_eq (sj_lt (fun t => f.T 58 t (by omega)) (by omega))]; exact h.c.rf) (by rw [sh_ln_eq (sj_lt (fun t => f.T 1 t (by omega)) (by omega))]; exact h.c.ln) (by rw [f.F 6 (by omega) (by omega)]; exact h.c.le) (by rw [e]; exact h.c.at_)) h.m (by rw [f.I 1 (by omega) (by omega) (by omega) (by omega)]; exact h.bc) h.bm h.pn h.n4 tl
theorem sj_P.mw {n p : Nat} {B : Nat → Int32} {mc mm mm2 : sh_X} (h : sj_P n B p mc mm) (h67 : mm2.I 67 = mm.I 67) (h3 : mm2.I 66 3 = mm.I 66 3) (h91 : mm2.I 66 91 = mm.I 66 91) : sj_P n B p mc mm2 := sj_P.mk h.c (sj_rm.mk (by rw [h3]; exact h.m.le) (by rw [h91]; exact h.m.at_)) h.bc (by rw [h67]; exact h.bm) h.pn h.n4 h.tl
theorem sh_GS.tl {gs : sh_gL} {m : sh_X} (h : sh_GS gs m) : m.T.length < 900001 := by obtain ⟨_, _, _, _, _, _, _, gv⟩ := h; have := gv.tT; omega
/-- the text of a gate, the gate, the end of the line -/
theorem sj_last {n p x y z : Nat} {B : Nat → Int32} {l : List Nat} {gs : sh_gL} {mc mm : sh_X} {Q : sh_X → Option (Int32 × sh_X)} {W : Int32 → sh_X → sh_X} {f : (Nat → Bool) → Bool} {dd : Int32} (hx : sh_txs x = l) (hy : sh_txs y = l ++ [10]) (h0 : 0 < l.length) (hl : l.length < 90) (hc : ∀ i, i < l.length → l.getD i 0 < 256)
    (h : sj_P n B p mc mm) (g : sh_GS gs mc) (hQ : ∀ m, sh_GS gs m → sh_gop 1 gs m (Q m) f)
    (hW : ∀ r m, (W r m).T = m.T ∧ (W r m).J = m.J ∧ (W r m).s = m.s ∧ (∀ c, c ≠ 58 → c ≠ 59 → (W r m).I c = m.I c) ∧ (∀ f, f ≠ 10 → (W r m).I 58 f = m.I 58 f) ∧ (W r m).I 59 z = r ∧ (∀ w, w ≠ z → (W r m).I 59 w = m.I 59 w) ∧ (W r m).I 58 10 = m.I 58 10 + dd)
    {C : Option (Option Unit × sh_X)} (hC : C = (sh_bt (sf_211 x mc) (fun m => (none, m)) fun _ m13 => sh_bn (Q m13) fun r m14 => sf_208_185 (W r m14))) :
    sj_bx C (sf_328 y mm) mc mm ∨ ∃ e r p2 m1 m2, C = some (some (), m1) ∧ sf_328 y mm = some (true, m2) ∧ sh_GS (e ++ gs) m1 ∧ e.length ≤ 1 ∧ r < (e ++ gs).length ∧ (∀ p, sh_va p (e ++ gs) r = f p) ∧ m1.I 59 z = Int32.ofNat r ∧ (∀ w, w ≠ z → m1.I 59 w = mc.I 59 w) ∧ sj_P n B p2 m1 m2 ∧ sj_Cl mc m1 ∧ sj_Mf mm m2 ∧ m1.I 58 10 = mc.I 58 10 + dd := by
  rcases sj_211 (n := n) (B := B) hx hy h0 hl hc l.length 0 p mc mm (by omega) h with ⟨q, m1, m2, e1, e2, f1, f2⟩ | ⟨m1, m2, e1, e2, P2, f1, f2⟩
  · refine Or.inl ⟨q, m1, m2, gs, ?_, e2, f1.GS g, f1.l, f2.l⟩
    rw [hC, show sf_211 x mc = _ from e1]
    rfl
  · have g1 := f1.GS g
    obtain ⟨e, r, m3, q1, q2, q3, q4, q5, q6⟩ := hQ m1 g1
    obtain ⟨w1, w2, w3, w4, w5, w6, w7, w8⟩ := hW (Int32.ofNat r) m3
    obtain ⟨m4, hm4⟩ : ∃ m4, W (Int32.ofNat r) m3 = m4 := ⟨_, rfl⟩
    rw [hm4] at w1 w2 w3 w4 w5 w6 w7 w8
    have g4 : sh_GS (e ++ gs) m4 := q2.cong w1 (fun c hc => w4 c (by omega) (by omega))
    have k4 : sj_Cl m3 m4 := sj_Cl.mk (fun c t _ b => by rw [w1]; exact b) (sj_K.of w1 w3 (fun c _ b => w4 c (by omega) (by omega)) (w4 1 (by omega) (by omega)) (fun _ _ => by rw [w2])) (fun c _ _ a b => w4 c a b) (fun f _ b => w5 f b) w2
    have k14 : sj_Cl m1 m4 := q3.l.trans k4
    have C2 : C = sf_208_185 m4 := by
      rw [hC, show sf_211 x mc = _ from e1]
      show sh_bn (Q m1) _ = _
      rw [q1, sh_bn_some, hm4]
    have P4 : sj_P n B (p + l.length) m4 m2 := P2.cb g1 k14 (by rw [w5 7 (by omega), q3.I 58 (by omega) (by omega) (by omega) (by omega) (by omega)]) g4.tl
    rw [C2, show sf_328 y mm = sf_327 10 m2 from e2]
    unfold sf_208_185
    rcases sj_chr (x := 10) P4 (by omega) with ⟨q, m5, m6, a1, a2, a3, a4⟩ | ⟨m5, m6, a1, a2, P6, a3, a4, _, _⟩
    · refine Or.inl ⟨q, m5, m6, e ++ gs, ?_, a2, a3.GS g4, (f1.l.trans k14).trans a3.l, (f2.trans a4).l⟩
      rw [show sf_204 10 m4 = _ from a1]
      rfl
    · refine Or.inr ⟨e, r, _, m5, m6, ?_, a2, a3.GS g4, q4, q5, q6, by rw [a3.I 59 (by omega)]; exact w6, fun w hw => ?_, P6, (f1.l.trans k14).trans a3.l, f2.trans a4, by rw [a3.F 10 (by omega), w8, q3.I 58 (by omega) (by omega) (by omega) (by omega) (by omega), f1.F 10 (by omega)]⟩
      · rw [show sf_204 10 m4 = _ from a1]
        rfl
      · rw [a3.I 59 (by omega), w7 w hw, q3.I 59 (by omega) (by omega) (by omega) (by omega) (by omega), f1.I 59 (by omega)]
/-- the first letter of a text is another one: both fail there -/
theorem sj_mis {n p x y : Nat} {B : Nat → Int32} {mc mm : sh_X} {F : Unit → sh_X → Option (Option Unit × sh_X)} {a b : Nat} (h : sj_P n B p mc mm) (hx : 0 < (sh_txs x).length) (hx2 : (sh_txs x).length < 90) (hy : 0 < (sh_txs y).length) (hy2 : (sh_txs y).length < 90) (ha : (sh_txs x).getD 0 0 = a) (hb : (sh_txs y).getD 0 0 = b) (n1 : ¬ B p = Int32.ofNat a) (n2 : ¬ B p = Int32.ofNat b) : sj_bd (sh_bt (sf_211 x mc) (fun m => (none, m)) F) (sf_328 y mm) mc mm := by
  have n4 := h.n4
  have pn := h.pn
  have ec : sf_202 (mc.I 58 7) mc = some (B p) := by rw [h.c.at_, sj_202 h.c n4 (by omega), h.bc]
  have em : sf_249 (mm.I 66 91) mm = some (B p) := by rw [h.m.at_, sj_249 h.m n4 (by omega), h.bm]
  refine ⟨p, mc, mm, ?_, ?_, sj_Cf.refl mc, sj_Mf.refl mm⟩
  · show sh_bt (sf_211_2 x (Int32.ofNat 0) mc) _ _ = _
    rw [sj_211s hx (by omega), ha]
    unfold sf_204
    rw [ec, sh_bc_some, if_neg n1, h.c.at_, sj_203 (by have := h.tl; omega)]
    rfl
  · show sf_328_2 y (Int32.ofNat 0) mm = _
    rw [sj_328s hy (by omega), hb]
    unfold sf_327
    rw [em, sh_bc_some, if_neg n2, h.m.at_, sj_252]
    rfl
