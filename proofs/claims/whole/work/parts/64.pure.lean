/-! Garbling.reckon, whole -/
/-- before the room is made -/
def sh_Yp (gs : sh_gL) (a b : Nat) (m : sh_X) : Prop := (sh_GS gs m) ∧ (m.T[61]? = some (sh_gb a b)) ∧ (sh_ln m.T a = sh_ln m.T b) ∧ (sh_ln m.T a ≤ 65536) ∧ (a ≠ b) ∧ ((a = 64 ∨ 125 ≤ a) ∧ a < m.T.length) ∧ ((b = 65 ∨ 125 ≤ b) ∧ b < m.T.length) ∧ (m.T.length + 3 * (131072 / sh_ln m.T (sh_rf m.T 9 0)) + 2 ≤ 900000)
theorem sh_Yp.g {gs : sh_gL} {a b : Nat} {m : sh_X} (h : sh_Yp gs a b m) : sh_GS gs m := h.1
theorem sh_Yp.t {gs : sh_gL} {a b : Nat} {m : sh_X} (h : sh_Yp gs a b m) : m.T[61]? = some (sh_gb a b) := h.2.1
theorem sh_Yp.l {gs : sh_gL} {a b : Nat} {m : sh_X} (h : sh_Yp gs a b m) : sh_ln m.T a = sh_ln m.T b := h.2.2.1
theorem sh_Yp.l2 {gs : sh_gL} {a b : Nat} {m : sh_X} (h : sh_Yp gs a b m) : sh_ln m.T a ≤ 65536 := h.2.2.2.1
theorem sh_Yp.ab {gs : sh_gL} {a b : Nat} {m : sh_X} (h : sh_Yp gs a b m) : a ≠ b := h.2.2.2.2.1
theorem sh_Yp.fa {gs : sh_gL} {a b : Nat} {m : sh_X} (h : sh_Yp gs a b m) : (a = 64 ∨ 125 ≤ a) ∧ a < m.T.length := h.2.2.2.2.2.1
theorem sh_Yp.fb {gs : sh_gL} {a b : Nat} {m : sh_X} (h : sh_Yp gs a b m) : (b = 65 ∨ 125 ≤ b) ∧ b < m.T.length := h.2.2.2.2.2.2.1
theorem sh_Yp.n {gs : sh_gL} {a b : Nat} {m : sh_X} (h : sh_Yp gs a b m) : m.T.length + 3 * (131072 / sh_ln m.T (sh_rf m.T 9 0)) + 2 ≤ 900000 := h.2.2.2.2.2.2.2
theorem sh_Yp.mk {gs : sh_gL} {a b : Nat} {m : sh_X} (g : sh_GS gs m) (t : m.T[61]? = some (sh_gb a b)) (l : sh_ln m.T a = sh_ln m.T b) (l2 : sh_ln m.T a ≤ 65536) (ab : a ≠ b) (fa : (a = 64 ∨ 125 ≤ a) ∧ a < m.T.length) (fb : (b = 65 ∨ 125 ≤ b) ∧ b < m.T.length) (n : m.T.length + 3 * (131072 / sh_ln m.T (sh_rf m.T 9 0)) + 2 ≤ 900000) : sh_Yp gs a b m := ⟨g, t, l, l2, ab, fa, fb, n⟩
theorem sh_ln_eq {T T2 : List sh_Tg} {a : Nat} (h : T2[a]? = T[a]?) : sh_ln T2 a = sh_ln T a := by unfold sh_ln; rw [h]
theorem sh_rf_eq {T T2 : List sh_Tg} {c f : Nat} (h : T2[c]? = T[c]?) : sh_rf T2 c f = sh_rf T c f := by unfold sh_rf; rw [h]
/-- Garbling.makeRoom -/
theorem sh_221 {gs : sh_gL} {a b : Nat} {m : sh_X} (h : sh_Yp gs a b m) : ∃ a2 b2 m2, sf_221 m = some ((), m2) ∧ sh_Yz gs a2 b2 m2 ∧ m2.I = m.I ∧ (∀ c, c < 125 → m2.J c = m.J c) ∧ ((m2 = m ∧ a2 = a ∧ b2 = b) ∨ (sh_ln m.T a < gs.length ∧ m2.T.length = m.T.length + 2 ∧ a2 = m.T.length ∧ b2 = m.T.length + 1 ∧ sh_ln m2.T a2 = sh_ln m.T (sh_rf m.T 9 0) ∧ sh_ln m2.T b2 = sh_ln m.T (sh_rf m.T 9 0) ∧ m2.T[61]? = some (sh_gb a2 b2) ∧ (∀ c t, c ≠ 61 → m.T[c]? = some t → m2.T[c]? = some t) ∧ m2.s = m.s + 2 * sh_ln m.T (sh_rf m.T 9 0))) := by
  obtain ⟨h1, h6, h7, a1, b1, c1, n1, g⟩ := h.g
  have hlen := h.g.len
  have ra : sh_rf m.T 61 3 = a := sh_rf_of h.t rfl
  have rb : sh_rf m.T 61 4 = b := sh_rf_of h.t rfl
  have l2 := h.l2
  have n5 := g.n1
  have hn := h.n
  unfold sf_221
  rw [ra, g.w]
  by_cases hc : sh_ln m.T a < gs.length
  · have e9 : sh_ln m.T (sh_rf m.T 9 0) = n1 := by rw [g.ra, g.la]
    rw [if_pos ((sh_nIlt (by omega) (by omega)).mpr hc), e9, if_pos (by omega)]
    have tl : 61 < m.T.length := (List.getElem?_eq_some_iff.mp h.t).1
    have e61 : ((m.T ++ ([.inl (2, n1), .inl (2, n1)] : List sh_Tg)).set 61 (sh_gb m.T.length (m.T.length + 1)))[61]? = some (sh_gb m.T.length (m.T.length + 1)) := List.getElem?_set_self (by rw [List.length_append]; omega)
    have keep : ∀ c t, c ≠ 61 → m.T[c]? = some t → ((m.T ++ ([.inl (2, n1), .inl (2, n1)] : List sh_Tg)).set 61 (sh_gb m.T.length (m.T.length + 1)))[c]? = some t := fun c t hc ht => sh_set_app hc (sh_app_l ht)
    have keepe : ∀ c, c < m.T.length → c ≠ 61 → ((m.T ++ ([.inl (2, n1), .inl (2, n1)] : List sh_Tg)).set 61 (sh_gb m.T.length (m.T.length + 1)))[c]? = m.T[c]? := fun c hc1 hc2 => by
      rw [keep c (m.T[c]'hc1) hc2 (List.getElem?_eq_getElem hc1), List.getElem?_eq_getElem hc1]
    have len : ((m.T ++ ([.inl (2, n1), .inl (2, n1)] : List sh_Tg)).set 61 (sh_gb m.T.length (m.T.length + 1))).length = m.T.length + 2 := by
      rw [List.length_set, List.length_append]; rfl
    have nT := g.nT
    have la2 : sh_ln ((m.T ++ ([.inl (2, n1), .inl (2, n1)] : List sh_Tg)).set 61 (sh_gb m.T.length (m.T.length + 1))) m.T.length = n1 := sh_ln_of (t := 2) (sh_set_app (by omega) (sh_app_at (j := 0) rfl))
    have lb2 : sh_ln ((m.T ++ ([.inl (2, n1), .inl (2, n1)] : List sh_Tg)).set 61 (sh_gb m.T.length (m.T.length + 1))) (m.T.length + 1) = n1 := sh_ln_of (t := 2) (sh_set_app (by omega) (sh_app_at (j := 1) rfl))
    have fa := g.fa
    have fb := g.fb
    have fc := g.fc
    have k9 := keepe 9 (by omega) (by omega)
    have gle := g.le
    refine ⟨m.T.length, m.T.length + 1, _, rfl, sh_Yz.mk (g := ⟨h1, h6, h7, a1, b1, c1, n1, sh_Gv.mk (ra := (sh_rf_eq k9).trans g.ra) (rb := (sh_rf_eq k9).trans g.rb) (rc := (sh_rf_eq k9).trans g.rc) (la := (sh_ln_eq (keepe a1 fa.2 (by omega))).trans g.la) (lb := (sh_ln_eq (keepe b1 fb.2 (by omega))).trans g.lb) (lc := (sh_ln_eq (keepe c1 fc.2 (by omega))).trans g.lc) (ab := g.ab) (ac := g.ac) (bc := g.bc) (fa := ⟨fa.1, by show _ < List.length (List.set _ _ _); omega⟩) (fb := ⟨fb.1, by show _ < List.length (List.set _ _ _); omega⟩) (fc := ⟨fc.1, by show _ < List.length (List.set _ _ _); omega⟩) (nT := by show _ ≤ List.length (List.set _ _ _); omega) (n0 := g.n0) (n1 := g.n1) (n5 := g.n5) (tT := by show List.length (List.set _ _ _) + _ ≤ _; rw [e9] at hn; omega) (le := g.le) (w := g.w) (k := g.k) (l := g.l) (r := g.r) (wf := g.wf)⟩) (ra := sh_rf_of e61 rfl) (rb := sh_rf_of e61 rfl) (la := by show _ ≤ sh_ln (List.set _ _ _) _; rw [la2]; omega) (lb := by show _ ≤ sh_ln (List.set _ _ _) _; rw [lb2]; omega) (la2 := by show sh_ln (List.set _ _ _) _ ≤ _; rw [la2]; omega) (lb2 := by show sh_ln (List.set _ _ _) _ ≤ _; rw [lb2]; omega) (ab := by omega) (fa := by omega) (fb := by omega), rfl, fun c hc => ?_, Or.inr ⟨hc, len, rfl, rfl, la2, lb2, e61, keep, rfl⟩⟩
    funext i
    show (if c = m.T.length ∨ c = m.T.length + 1 then 0 else m.J c i) = m.J c i
    rw [if_neg (by omega)]
  · rw [if_neg (fun q => hc ((sh_nIlt (by omega) (by omega)).mp q))]
    have l := h.l
    exact ⟨a, b, m, rfl, sh_Yz.mk (g := h.g) (ra := ra) (rb := rb) (la := by omega) (lb := by omega) (la2 := by omega) (lb2 := by omega) (ab := h.ab) (fa := h.fa.1) (fb := h.fb.1), rfl, fun _ _ => rfl, Or.inl ⟨rfl, rfl, rfl⟩⟩
/-- Garbling.tellConstants -/
theorem sh_224 {gs : sh_gL} {a b : Nat} {m : sh_X} (h : sh_Yz gs a b m) : ∃ m2, sf_224 m = some ((), m2) ∧ sh_Yf a b m m2 ∧ sh_lb a b (m.J 61 5) m2 0 false ∧ sh_lb a b (m.J 61 5) m2 1 true := by
  have h2 := h.g.1
  have la := h.la
  have lb := h.lb
  obtain ⟨ha1, ha2, ha3, ha4, ha5⟩ := sh_ne62 h.fa
  obtain ⟨hb1, hb2, hb3, hb4, hb5⟩ := sh_ne62b h.fb
  obtain ⟨z0, m1, t1, t2, t3⟩ := sh_222 (k := 0) (a := a) (b := b) (m := m) (by omega)
  obtain ⟨z1, m2, u1, u2, u3⟩ := sh_222 (k := 0) (a := a) (b := b) (m := (m1.T, m1.I, sh_u2 m1.J a 0 z0, m1.s)) (by omega)
  have eT : m2.T = m.T := u2.T.trans t2.T
  have o0 : ∀ k, k < 2 → sh_okb (Int32.ofNat k) (sh_ln m.T a) = true ∧ sh_okb (Int32.ofNat k) (sh_ln m.T b) = true := fun k hk => ⟨(sh_okn (by omega)).mpr (by omega), (sh_okn (by omega)).mpr (by omega)⟩
  have ja : m2.J a = sh_u2 m1.J a 0 z0 a := u3 a ha1
  have j61 : m2.J 61 5 = m.J 61 5 := by
    rw [u3 61 (by omega)]
    show sh_u2 m1.J a 0 z0 61 5 = _
    rw [sh_u2_cell (by omega), t3 61 (by omega)]
  refine ⟨(m2.T, m2.I, sh_u2 (sh_u2 (sh_u2 m2.J a 1 z1) b 0 z0) b 1 (z1 ^^^ m.J 61 5), m2.s), ?_, ?_, ?_, ?_⟩
  · unfold sf_224
    rw [show (1 : Int32) = Int32.ofNat 1 from rfl, sh_225 h (by omega), sh_bc_some, if_pos (decide_eq_true (by omega)), show (0 : Int32) = Int32.ofNat 0 from rfl, t1, sh_bn_some, h.ra, if_pos (o0 0 (by omega)).1, u1, sh_bn_some, show sh_rf m1.T 61 3 = a by rw [t2.T]; exact h.ra, show sh_ln m1.T a = sh_ln m.T a by rw [t2.T], if_pos (o0 1 (by omega)).1, eT, h.ra, h.rb, if_pos (o0 0 (by omega)).1, if_pos (o0 0 (by omega)).2, if_pos (o0 1 (by omega)).1, if_pos (o0 1 (by omega)).2]
    have e1 : sh_u2 m2.J a 1 z1 a 0 = z0 := by rw [sh_u2_idx (by omega), ja, sh_u2_same]
    have e2 : sh_u2 (sh_u2 m2.J a 1 z1) b 0 z0 a 1 = z1 := by rw [sh_u2_cell h.ab, sh_u2_same]
    have e3 : sh_u2 (sh_u2 m2.J a 1 z1) b 0 z0 61 5 = m.J 61 5 := by rw [sh_u2_cell (by omega), sh_u2_cell (by omega)]; exact j61
    rw [e1, e2, e3]
  · refine sh_Yf.mk eT (u2.I.trans t2.I) (u2.s.trans t2.s) (fun c q1 q2 q3 q4 => ?_)
    show sh_u2 (sh_u2 (sh_u2 m2.J a 1 z1) b 0 z0) b 1 _ c = _
    rw [sh_u2_cell q2, sh_u2_cell q2, sh_u2_cell q1, u3 c q3]
    show sh_u2 m1.J a 0 z0 c = _
    rw [sh_u2_cell q1, t3 c q3]
  · show sh_u2 (sh_u2 (sh_u2 m2.J a 1 z1) b 0 z0) b 1 _ b 0 = sh_u2 (sh_u2 (sh_u2 m2.J a 1 z1) b 0 z0) b 1 _ a 0 ^^^ 0
    rw [sh_u2_idx (by omega), sh_u2_same, sh_u2_cell h.ab, sh_u2_cell h.ab, sh_u2_idx (by omega), ja, sh_u2_same, Int64.xor_zero]
  · show sh_u2 (sh_u2 (sh_u2 m2.J a 1 z1) b 0 z0) b 1 _ b 1 = sh_u2 (sh_u2 (sh_u2 m2.J a 1 z1) b 0 z0) b 1 _ a 1 ^^^ m.J 61 5
    rw [sh_u2_same, sh_u2_cell h.ab, sh_u2_cell h.ab, sh_u2_same]
theorem sh_b0_or1 (x : Int64) : sh_b0 (x ||| (1 : Int64)) = true := by
  unfold sh_b0
  rw [Int64.toBitVec_or, BitVec.getLsbD_or]
  show (_ || (1#64).getLsbD 0) = true
  rw [BitVec.getLsbD_one]
  simp
/-- Garbling.reckon: what is told are the wires' worths -/
theorem sh_220 {gs : sh_gL} {a b n1 n2 n3 : Nat} {p : Nat → Bool} {W1 W2 W3 : Nat → Nat} {f1 f2 f3 : Nat → Nat → Nat} {m : sh_X} (h : sh_Yp gs a b m) (hz : sh_gz gs) (E1 : sh_Ev 13 n1 W1 f1 m) (E2 : sh_Ev 18 n2 W2 f2 m) (E3 : sh_Ev 23 n3 W3 f3 m)
    (w1 : ∀ k, k < n1 → ∀ i, i < W1 k → f1 k i < gs.length) (w2 : ∀ k, k < n2 → ∀ i, i < W2 k → f2 k i < gs.length) (w3 : ∀ k, k < n3 → ∀ i, i < W3 k → f3 k i < gs.length)
    (p1 : ∀ k, k < n1 → ∀ i, i < W1 k → p (f1 k i) = (m.J 16 k).toBitVec.getLsbD i) (p2 : ∀ k, k < n2 → ∀ i, i < W2 k → p (f2 k i) = (m.J 21 k).toBitVec.getLsbD i)
    (hp0 : p 0 = false) (hp1 : p 1 = true) (hin : ∀ w, w < gs.length → (sh_ga gs w).1 = 0 → 2 ≤ w → (∃ k i, k < n1 ∧ i < W1 k ∧ w = f1 k i) ∨ ∃ k i, k < n2 ∧ i < W2 k ∧ w = f2 k i) :
    ∃ a2 b2 m2, sf_220 m = some ((), m2) ∧ m2.I = m.I ∧ (∀ c, c < 125 → c ≠ 26 → c ≠ 61 → c ≠ 62 → c ≠ 63 → c ≠ 64 → c ≠ 65 → m2.J c = m.J c) ∧ (∀ k, k < n3 → ∀ j, j < 64 → (m2.J 26 k).toBitVec.getLsbD j = (decide (j < W3 k) && sh_va p gs (f3 k j))) ∧ ((m2.T = m.T ∧ m2.s = m.s ∧ a2 = a ∧ b2 = b) ∨ (sh_ln m.T a < gs.length ∧ m2.T.length = m.T.length + 2 ∧ a2 = m.T.length ∧ b2 = m.T.length + 1 ∧ sh_ln m2.T a2 = sh_ln m.T (sh_rf m.T 9 0) ∧ sh_ln m2.T b2 = sh_ln m.T (sh_rf m.T 9 0) ∧ m2.T[61]? = some (sh_gb a2 b2) ∧ (∀ c t, c ≠ 61 → m.T[c]? = some t → m2.T[c]? = some t) ∧ m2.s = m.s + 2 * sh_ln m.T (sh_rf m.T 9 0))) := by
  obtain ⟨a2, b2, m1, r1, r2, r3, r4, r5⟩ := sh_221 h
  obtain ⟨ha1, ha2, ha3, ha4, ha5⟩ := sh_ne62 r2.fa
  obtain ⟨hb1, hb2, hb3, hb4, hb5⟩ := sh_ne62b r2.fb
  obtain ⟨z, m3, t1, t2, t3⟩ := sh_222 (k := 0) (a := a2) (b := b2) (m := m1) (by omega)
  have z4 : sh_Yz gs a2 b2 (m3.T, m3.I, sh_u2 m3.J 61 5 (z ||| (1 : Int64)), m3.s) := r2.same t2.T t2.I
  have off : sh_X.J (m3.T, m3.I, sh_u2 m3.J 61 5 (z ||| (1 : Int64)), m3.s) 61 5 = z ||| (1 : Int64) := by show sh_u2 m3.J 61 5 (z ||| (1 : Int64)) 61 5 = _; rw [sh_u2_same]
  have jk : ∀ c, c < 125 → c ≠ 61 → c ≠ 62 → sh_X.J (m3.T, m3.I, sh_u2 m3.J 61 5 (z ||| (1 : Int64)), m3.s) c = m.J c := fun c q0 q1 q2 => (sh_u2_cell q1).trans ((t3 c q2).trans (r4 c q0))
  have ik : sh_X.I (m3.T, m3.I, sh_u2 m3.J 61 5 (z ||| (1 : Int64)), m3.s) = m.I := t2.I.trans r3
  obtain ⟨m5, v1, v2, v3, v4⟩ := sh_224 z4
  rw [off] at v3 v4
  have z5 := v2.Yz z4
  have i5 : m5.I = m.I := v2.I.trans ik
  have c61 : 61 ≠ a2 ∧ 61 ≠ b2 := ⟨by omega, by omega⟩
  have o5 : m5.J 61 5 = z ||| (1 : Int64) := by rw [v2.J 61 c61.1 c61.2 (by omega) (by omega)]; exact off
  have k5 : ∀ c, c < 125 → c ≠ a2 → c ≠ b2 → c ≠ 61 → c ≠ 62 → c ≠ 63 → m5.J c = m.J c := fun c q0 q1 q2 q3 q4 q5 => (v2.J c q1 q2 q4 q5).trans (jk c q0 q3 q4)
  obtain ⟨m6, s1, s2, s3⟩ := sh_226 (p := p) z5 (E1.same i5) w1 (fun k hk i hi => by rw [p1 k hk i hi, k5 16 (by omega) (by omega) (by omega) (by omega) (by omega) (by omega)])
  rw [o5] at s2 s3
  have i6 : m6.I = m.I := s2.f.I.trans i5
  have o6 : m6.J 61 5 = z ||| (1 : Int64) := by rw [s2.f.J 61 c61.1 c61.2 (by omega) (by omega)]; exact o5
  have k6 : ∀ c, c < 125 → c ≠ a2 → c ≠ b2 → c ≠ 61 → c ≠ 62 → c ≠ 63 → m6.J c = m.J c := fun c q0 q1 q2 q3 q4 q5 => (s2.f.J c q1 q2 q4 q5).trans (k5 c q0 q1 q2 q3 q4 q5)
  obtain ⟨m7, x1, x2, x3⟩ := sh_229 (p := p) s2.z (E2.same i6) w2 (fun k hk i hi => by rw [p2 k hk i hi, k6 21 (by omega) (by omega) (by omega) (by omega) (by omega) (by omega)])
  rw [o6] at x2 x3
  have i7 : m7.I = m.I := x2.f.I.trans i6
  have o7 : m7.J 61 5 = z ||| (1 : Int64) := by rw [x2.f.J 61 c61.1 c61.2 (by omega) (by omega)]; exact o6
  have lab0 : ∀ w, w < gs.length → (sh_ga gs w).1 = 0 → sh_lb a2 b2 (z ||| (1 : Int64)) m7 w (sh_va p gs w) := by
    intro w hw hk
    have ev : sh_va p gs w = p w := by
      rw [sh_va_at p z5.g.wf hw, hk]
      show (if w = 0 then false else if w = 1 then true else p w) = p w
      by_cases e0 : w = 0
      · rw [if_pos e0, e0, hp0]
      · rw [if_neg e0]
        by_cases e1 : w = 1
        · rw [if_pos e1, e1, hp1]
        · rw [if_neg e1]
    rw [ev]
    by_cases e0 : w = 0
    · subst e0
      exact x2.k 0 (s2.k 0 (by rw [hp0]; exact v3))
    · by_cases e1 : w = 1
      · subst e1
        exact x2.k 1 (s2.k 1 (by rw [hp1]; exact v4))
      · rcases hin w hw hk (by omega) with ⟨k, i, q1, q2, q3⟩ | ⟨k, i, q1, q2, q3⟩
        · rw [q3]; exact x2.k _ (s3 k q1 i q2)
        · rw [q3]; exact x3 k q1 i q2
  obtain ⟨m8, y1, y2, y3, y4⟩ := sh_220w (p := p) x2.z hz o7 (sh_b0_or1 z) lab0
  have i8 : m8.I = m.I := y3.I.trans i7
  obtain ⟨m9, g1, g2, g3, g4, g5, g6⟩ := sh_234 (p := p) y2 (E3.same i8) (sh_b0_or1 z) w3 y4
  have eT : m9.T = m1.T := g2.trans (y3.T.trans (x2.f.T.trans (s2.f.T.trans (v2.T.trans t2.T))))
  have eS : m9.s = m1.s := g4.trans (y3.s.trans (x2.f.s.trans (s2.f.s.trans (v2.s.trans t2.s))))
  refine ⟨a2, b2, m9, ?_, g3.trans i8, ?_, g6, ?_⟩
  · unfold sf_220
    rw [r1, sh_bn_some, show (0 : Int32) = Int32.ofNat 0 from rfl, t1, sh_bn_some, v1, sh_bn_some, s1, sh_bn_some, x1, sh_bn_some]
    refine y1 _ ?_
    unfold sf_220_225
    rw [g1]
    rfl
  · intro c q0 q1 q2 q3 q4 q5 q6
    have qa : c ≠ a2 := by have := r2.fa; omega
    have qb : c ≠ b2 := by have := r2.fb; omega
    rw [g5 c q1, y3.J c qa qb q3 q4, x2.f.J c qa qb q3 q4]
    exact k6 c q0 qa qb q2 q3 q4
  · rw [eT, eS]
    rcases r5 with ⟨e1, e2, e3⟩ | e
    · subst e1
      exact Or.inl ⟨rfl, rfl, e2, e3⟩
    · exact Or.inr e
