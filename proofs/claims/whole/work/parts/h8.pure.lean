/-! EVALUATION: output -/
theorem sh_GS.cong {gs : sh_gL} {m m2 : sh_X} (h : sh_GS gs m) (hT : m2.T = m.T) (hI : ∀ c, c = 9 ∨ c = 10 ∨ c = 11 ∨ c = 12 ∨ 125 ≤ c → m2.I c = m.I c) : sh_GS gs m2 := by
  obtain ⟨h1, h6, h7, a, b, d, n, g⟩ := h
  have fa := g.fa
  have fb := g.fb
  have fc := g.fc
  refine ⟨h1, h6, h7, a, b, d, n, sh_Gv.mk (ra := ?_) (rb := ?_) (rc := ?_) (la := ?_) (lb := ?_) (lc := ?_) (ab := g.ab) (ac := g.ac) (bc := g.bc) (fa := ?_) (fb := ?_) (fc := ?_) (nT := ?_) (n0 := g.n0) (n1 := g.n1) (n5 := g.n5) (tT := ?_) (le := g.le) (w := ?_) (k := ?_) (l := ?_) (r := ?_) (wf := g.wf)⟩
  · rw [hT]; exact g.ra
  · rw [hT]; exact g.rb
  · rw [hT]; exact g.rc
  · rw [hT]; exact g.la
  · rw [hT]; exact g.lb
  · rw [hT]; exact g.lc
  · rw [hT]; exact g.fa
  · rw [hT]; exact g.fb
  · rw [hT]; exact g.fc
  · rw [hT]; exact g.nT
  · rw [hT]; exact g.tT
  · rw [hI 9 (by omega)]; exact g.w
  · intro j hj; rw [hI a (by omega)]; exact g.k j hj
  · intro j hj; rw [hI b (by omega)]; exact g.l j hj
  · intro j hj; rw [hI d (by omega)]; exact g.r j hj
theorem sh_RS.cong {gs : sh_gL} {u : Nat} {m m2 : sh_X} (h : sh_RS gs u m) (hT : m2.T = m.T) (hI : ∀ c, c = 9 ∨ c = 10 ∨ c = 11 ∨ c = 12 ∨ c = 44 ∨ c = 45 ∨ 125 ≤ c → m2.I c = m.I c) : sh_RS gs u m2 := by
  obtain ⟨h1, h2, h3, h4, h5, h6⟩ := h
  refine ⟨h1.cong hT (fun c hc => hI c (by omega)), by rw [hI 44 (by omega)]; exact h2, h3, h4, ?_, ?_⟩
  · exact ⟨by rw [hI 45 (by omega)]; exact h5.1, h5.2⟩
  · exact ⟨by rw [hI 45 (by omega)]; exact h6.1, h6.2⟩
/-- what is left as it was, whatever is done -/
def se_Wf (m m2 : sh_X) : Prop := (∀ c t, c ≠ 9 → m.T[c]? = some t → m2.T[c]? = some t) ∧ (m.T.length + 3 * (131072 / sh_ln m.T (sh_rf m.T 9 0)) ≥ m2.T.length + 3 * (131072 / sh_ln m2.T (sh_rf m2.T 9 0))) ∧ (m.T.length ≤ m2.T.length) ∧ (m2.s + 6 * sh_ln m.T (sh_rf m.T 9 0) = m.s + 6 * sh_ln m2.T (sh_rf m2.T 9 0)) ∧ (∀ c, c < 125 → (c < 9 ∨ (27 < c ∧ c < 41) ∨ 57 < c) → m2.I c = m.I c) ∧ (∀ c, c ≠ 16 → c ≠ 21 → c ≠ 26 → c ≠ 51 → c ≠ 57 → m2.J c = m.J c)
theorem se_Wf.T {m m2 : sh_X} (h : se_Wf m m2) : ∀ c t, c ≠ 9 → m.T[c]? = some t → m2.T[c]? = some t := h.1
theorem se_Wf.n {m m2 : sh_X} (h : se_Wf m m2) : m.T.length + 3 * (131072 / sh_ln m.T (sh_rf m.T 9 0)) ≥ m2.T.length + 3 * (131072 / sh_ln m2.T (sh_rf m2.T 9 0)) := h.2.1
theorem se_Wf.t {m m2 : sh_X} (h : se_Wf m m2) : m.T.length ≤ m2.T.length := h.2.2.1
theorem se_Wf.s {m m2 : sh_X} (h : se_Wf m m2) : m2.s + 6 * sh_ln m.T (sh_rf m.T 9 0) = m.s + 6 * sh_ln m2.T (sh_rf m2.T 9 0) := h.2.2.2.1
theorem se_Wf.I {m m2 : sh_X} (h : se_Wf m m2) : ∀ c, c < 125 → (c < 9 ∨ (27 < c ∧ c < 41) ∨ 57 < c) → m2.I c = m.I c := h.2.2.2.2.1
theorem se_Wf.J {m m2 : sh_X} (h : se_Wf m m2) : ∀ c, c ≠ 16 → c ≠ 21 → c ≠ 26 → c ≠ 51 → c ≠ 57 → m2.J c = m.J c := h.2.2.2.2.2
theorem se_Wf.mk {m m2 : sh_X} (T : ∀ c t, c ≠ 9 → m.T[c]? = some t → m2.T[c]? = some t) (n : m.T.length + 3 * (131072 / sh_ln m.T (sh_rf m.T 9 0)) ≥ m2.T.length + 3 * (131072 / sh_ln m2.T (sh_rf m2.T 9 0))) (t : m.T.length ≤ m2.T.length) (s : m2.s + 6 * sh_ln m.T (sh_rf m.T 9 0) = m.s + 6 * sh_ln m2.T (sh_rf m2.T 9 0)) (I : ∀ c, c < 125 → (c < 9 ∨ (27 < c ∧ c < 41) ∨ 57 < c) → m2.I c = m.I c) (J : ∀ c, c ≠ 16 → c ≠ 21 → c ≠ 26 → c ≠ 51 → c ≠ 57 → m2.J c = m.J c) : se_Wf m m2 := ⟨T, n, t, s, I, J⟩
theorem se_Wf.refl (m : sh_X) : se_Wf m m := se_Wf.mk (fun _ _ _ h => h) (Nat.le_refl _) (Nat.le_refl _) rfl (fun _ _ _ => rfl) (fun _ _ _ _ _ _ => rfl)
theorem se_Wf.trans {m m2 m3 : sh_X} (h : se_Wf m m2) (g : se_Wf m2 m3) : se_Wf m m3 := se_Wf.mk (fun c t a b => g.T c t a (h.T c t a b)) (Nat.le_trans g.n h.n) (Nat.le_trans h.t g.t) (by have := h.s; have := g.s; omega) (fun c a b => (g.I c a b).trans (h.I c a b)) (fun c a b d e f => (g.J c a b d e f).trans (h.J c a b d e f))
theorem se_Wf.W {m m2 : sh_X} {gs : sh_gL} {u2 : Nat} (h : se_Wf m m2) (g : sh_RS gs u2 m2) : se_W m m2 := se_W.mk h.T h.n h.t h.s h.I h.J ⟨gs, u2, g⟩
theorem se_Wf.thenW {m m2 m3 : sh_X} (h : se_Wf m m2) (g : se_W m2 m3) : se_W m m3 := se_W.mk (fun c t a b => g.T c t a (h.T c t a b)) (Nat.le_trans g.n h.n) (Nat.le_trans h.t g.t) (by have := h.s; have := g.s; omega) (fun c a b => (g.I c a b).trans (h.I c a b)) (fun c a b d e f => (g.J c a b d e f).trans (h.J c a b d e f)) g.g
section
variable {N : Nat} {K : Nat → Int32} {P V : Nat → Nat} {A C : Nat → Nat → Int32} {p : Nat → Bool} {pf : Nat → Nat} {F c2 un e i j n len d bb sg dq : Nat} {gs : sh_gL} {u z q B M fr cl sp cw ifs cd kn inn tp li : Nat} {ac : Bool} {mc mm : sh_X}
theorem sh_Ef.F2 {x : Nat} {m m2 : sh_X} (h : sh_Ef x m m2) (hx : x = 23) : se_F2 u z q fr cl m m2 := by
  have k : ∀ c, 28 ≤ c ∨ c < 23 → m2.I c = m.I c := fun c hc => h.I c (by omega) (by omega) (by omega) (by omega)
  exact se_F2.mk (fun c t _ a => by rw [h.T]; exact a) (by rw [h.T]; exact Nat.le_refl _) (by rw [h.T]; exact Nat.le_refl _) (by rw [h.T, h.s]) (fun c a b => k c (by omega)) (fun c a _ _ => h.J c (by omega)) (fun j _ => by rw [k 45 (by omega)]) (fun j _ => by rw [k 49 (by omega), k 50 (by omega), k 52 (by omega), h.J 51 (by omega)]; exact ⟨rfl, rfl, rfl, rfl⟩) (fun j _ => by rw [k 54 (by omega), k 55 (by omega), k 56 (by omega), h.J 57 (by omega)]; exact ⟨rfl, rfl, rfl, rfl⟩) (fun j _ => by rw [k 42 (by omega)]) (fun j _ => by rw [k 43 (by omega)])
theorem se_F2.Wf {m m2 : sh_X} (h : se_F2 u z q fr cl m m2) : se_Wf m m2 := se_Wf.mk h.T h.n h.t h.s (fun c a b => h.I c a (by omega)) (fun c _ _ a b d => h.J c a b d)
theorem se_F.Wf {m m2 : sh_X} (h : se_F u z q fr cl m m2) : se_Wf m m2 := h.F2.Wf
theorem sh_Ef.Wf {x : Nat} {m m2 : sh_X} (h : sh_Ef x m m2) (hx : x = 13 ∨ x = 18 ∨ x = 23) : se_Wf m m2 := se_Wf.mk (fun c t _ a => by rw [h.T]; exact a) (by rw [h.T]; exact Nat.le_refl _) (by rw [h.T]; exact Nat.le_refl _) (by rw [h.T, h.s]) (fun c a b => h.I c (by omega) (by omega) (by omega) (by omega)) (fun c a b d _ _ => h.J c (by omega))
theorem sh_Ef.c {x : Nat} {m m2 : sh_X} (h : sh_Ef x m m2) (hx : x = 13 ∨ x = 18 ∨ x = 23) (hc : se_c N K P V C gs u z q B fr cl sp cw ifs cd kn m) : se_c N K P V C gs u z q B fr cl sp cw ifs cd kn m2 := by
  have k : ∀ c, 28 ≤ c ∨ c < 13 → m2.I c = m.I c := fun c hc => h.I c (by omega) (by omega) (by omega) (by omega)
  exact se_c.mk (hc.rs.cong h.T (fun c a => k c (by omega))) (hc.wc.same (by rw [k 2 (by omega)]) (k 3 (by omega)) (k 4 (by omega)) (h.J 5 (by omega))) (fun y a b => (k y (by omega)).trans (hc.cc y a b)) (by rw [h.T]; exact hc.h46) (by rw [k 48 (by omega)]; exact hc.cz) (by rw [k 53 (by omega)]; exact hc.cq) (by rw [k 53 (by omega)]; exact hc.cB) (by rw [k 41 (by omega)]; exact hc.cfr) (by rw [k 41 (by omega)]; exact hc.ccl) (by rw [k 41 (by omega)]; exact hc.csp) (by rw [k 41 (by omega)]; exact hc.ccw) (by rw [k 41 (by omega)]; exact hc.cif) (by rw [k 41 (by omega)]; exact hc.ccd) (by rw [k 41 (by omega)]; exact hc.ckn)
/-- what an output of the model leaves as it was -/
def se_Of (m m2 : sh_X) : Prop := (m2.T = m.T) ∧ (m2.s = m.s) ∧ (∀ c, c < 99 ∨ 102 < c → m2.I c = m.I c) ∧ (∀ c, c ≠ 104 → m2.J c = m.J c) ∧ (∀ x, x < 2 → m2.I 99 x = m.I 99 x ∧ m2.I 102 x = m.I 102 x) ∧ (∀ x, x < 512 → m2.I 100 x = m.I 100 x ∧ m2.I 101 x = m.I 101 x)
theorem se_Of.T {m m2 : sh_X} (h : se_Of m m2) : m2.T = m.T := h.1
theorem se_Of.s {m m2 : sh_X} (h : se_Of m m2) : m2.s = m.s := h.2.1
theorem se_Of.I {m m2 : sh_X} (h : se_Of m m2) : ∀ c, c < 99 ∨ 102 < c → m2.I c = m.I c := h.2.2.1
theorem se_Of.J {m m2 : sh_X} (h : se_Of m m2) : ∀ c, c ≠ 104 → m2.J c = m.J c := h.2.2.2.1
theorem se_Of.lo {m m2 : sh_X} (h : se_Of m m2) : ∀ x, x < 2 → m2.I 99 x = m.I 99 x ∧ m2.I 102 x = m.I 102 x := h.2.2.2.2.1
theorem se_Of.hi {m m2 : sh_X} (h : se_Of m m2) : ∀ x, x < 512 → m2.I 100 x = m.I 100 x ∧ m2.I 101 x = m.I 101 x := h.2.2.2.2.2
theorem se_Of.mk {m m2 : sh_X} (T : m2.T = m.T) (s : m2.s = m.s) (I : ∀ c, c < 99 ∨ 102 < c → m2.I c = m.I c) (J : ∀ c, c ≠ 104 → m2.J c = m.J c) (lo : ∀ x, x < 2 → m2.I 99 x = m.I 99 x ∧ m2.I 102 x = m.I 102 x) (hi : ∀ x, x < 512 → m2.I 100 x = m.I 100 x ∧ m2.I 101 x = m.I 101 x) : se_Of m m2 := ⟨T, s, I, J, lo, hi⟩
theorem se_Of.refl (m : sh_X) : se_Of m m := se_Of.mk rfl rfl (fun _ _ => rfl) (fun _ _ => rfl) (fun _ _ => ⟨rfl, rfl⟩) (fun _ _ => ⟨rfl, rfl⟩)
theorem se_Of.trans {m m2 m3 : sh_X} (h : se_Of m m2) (g : se_Of m2 m3) : se_Of m m3 := se_Of.mk (g.T.trans h.T) (g.s.trans h.s) (fun c a => (g.I c a).trans (h.I c a)) (fun c a => (g.J c a).trans (h.J c a)) (fun x a => ⟨(g.lo x a).1.trans (h.lo x a).1, (g.lo x a).2.trans (h.lo x a).2⟩) (fun x a => ⟨(g.hi x a).1.trans (h.hi x a).1, (g.hi x a).2.trans (h.hi x a).2⟩)
theorem se_Of.G2 {m m2 : sh_X} {tq qq uu ll : Nat} (h : se_Of m m2) : se_G2 tq qq uu ll m m2 :=
  se_G2.mk h.T h.s (fun x a b => h.I x (by omega)) (fun x a b => h.J x (by omega)) (fun f _ => by rw [h.I 66 (by omega)]) (fun j _ => by rw [h.J 92 (by omega)]) (fun j _ => by rw [h.I 93 (by omega), h.I 94 (by omega), h.I 95 (by omega), h.I 96 (by omega), h.I 97 (by omega), h.J 98 (by omega)]; exact ⟨rfl, rfl, rfl, rfl, rfl, rfl⟩) (fun j _ => by rw [h.I 105 (by omega), h.I 106 (by omega), h.I 107 (by omega), h.I 108 (by omega), h.I 109 (by omega), h.I 110 (by omega), h.J 111 (by omega)]; exact ⟨rfl, rfl, rfl, rfl, rfl, rfl, rfl⟩) (fun j _ => by rw [h.I 112 (by omega), h.I 113 (by omega), h.I 114 (by omega), h.I 116 (by omega), h.J 115 (by omega)]; exact ⟨rfl, rfl, rfl, rfl, rfl⟩) (fun x hx => h.lo x hx) (fun y hy => (h.hi y hy).2)
/-- the model's outputs of one value -/
theorem se_322L {Q : sh_Q279} {n0 S0 k b nn tp0 : Nat} {v : Nat → Int64} {m : sh_X} (ht : sh_typ k b nn) (hR : se_R m k b nn tp0 v) (htp : tp0 ≤ 80000) (h99 : m.I 99 2 = Int32.ofNat n0) (h102 : m.I 102 2 = Int32.ofNat S0) (h1 : n0 + sh_mx nn ≤ 256) (h2 : S0 + sh_mx nn * b ≤ 1000) :
    ∃ m2, sf_322_95 Q 0 m = some (true, m2) ∧ se_Of m m2 ∧ m2.I 99 2 = Int32.ofNat (n0 + sh_mx nn) ∧ m2.I 102 2 = Int32.ofNat (S0 + sh_mx nn * b) ∧ (∀ y, y < n0 → m2.I 101 (512 + y) = m.I 101 (512 + y) ∧ m2.J 104 y = m.J 104 y) ∧ (∀ t, t < sh_mx nn → m2.I 101 (512 + (n0 + t)) = Int32.ofNat b ∧ ∀ j, j < 64 → sh_b (m2.J 104 (n0 + t)) j = (decide (j < b) && sh_b (v t) j)) := by
  have b1 := ht.b1
  have b2 := ht.b2
  have n32 := ht.n2
  have mx := sh_mx_le n32
  have mx1 := sh_mx_1 nn
  have k2 := ht.k2
  have hb3 : (3 : Nat) ≠ k := by omega
  have e44 : m.I 66 44 = Int32.ofNat b := hR.2.1 (by omega)
  unfold sf_322_95
  obtain ⟨⟨c, m2⟩, ⟨q1, q2, q3, q4, q5, q6⟩, q7⟩ := sh_loop (f := fun q => sf_322_95s Q q.1 q.2) (n := sh_mx nn) (i := 0) (s := (0, m))
    (fun t s => s.1 = Int32.ofNat t ∧ se_Of m s.2 ∧ s.2.I 99 2 = Int32.ofNat (n0 + t) ∧ s.2.I 102 2 = Int32.ofNat (S0 + t * b) ∧ (∀ y, y < n0 → s.2.I 101 (512 + y) = m.I 101 (512 + y) ∧ s.2.J 104 y = m.J 104 y) ∧ (∀ t', t' < t → s.2.I 101 (512 + (n0 + t')) = Int32.ofNat b ∧ ∀ j, j < 64 → sh_b (s.2.J 104 (n0 + t')) j = (decide (j < b) && sh_b (v t') j))) (by
      rintro t ⟨c, m2⟩ ht' ⟨r1, r2, r3, r4, r5, r6⟩
      have r1 : c = Int32.ofNat t := r1
      subst r1
      have r2 : se_Of m m2 := r2
      have r3 : m2.I 99 2 = Int32.ofNat (n0 + t) := r3
      have r4 : m2.I 102 2 = Int32.ofNat (S0 + t * b) := r4
      have r5 : ∀ y, y < n0 → m2.I 101 (512 + y) = m.I 101 (512 + y) ∧ m2.J 104 y = m.J 104 y := r5
      have r6 : ∀ t', t' < t → m2.I 101 (512 + (n0 + t')) = Int32.ofNat b ∧ ∀ j, j < 64 → sh_b (m2.J 104 (n0 + t')) j = (decide (j < b) && sh_b (v t') j) := r6
      have tb : t * b + b ≤ sh_mx nn * b := by rw [← Nat.succ_mul]; exact Nat.mul_le_mul_right b ht'
      obtain ⟨d, d1, d2⟩ : ∃ d : Int64, sf_322_95s Q (Int32.ofNat t) m2 = sf_322_167 Q (Int32.ofNat t) (m2.I 99 2) d m2 ∧ ∀ j, j < 64 → sh_b d j = (decide (j < b) && sh_b (v t) j) := by
        have e95 : sf_322_95s Q (Int32.ofNat t) m2 = sf_322_107 Q (Int32.ofNat t) m2 := by
          unfold sf_322_95s
          by_cases h0 : t = 0
          · rw [if_pos (by rw [h0]; rfl)]
          · have hnn : t < nn := by
              have : nn ≠ 0 := fun q => by rw [q] at ht'; have e : sh_mx 0 = 1 := rfl; omega
              rw [sh_mx_pos (by omega)] at ht'
              exact ht'
            rw [if_neg (show ¬ Int32.ofNat t = 0 from fun r => h0 ((sh_nIeq (b := 0) (by omega) (by omega)).mp r)), r2.I 66 (by omega), hR.2.2.1, if_pos ((sh_nIlt (by omega) (by omega)).mpr hnn)]
        have e107 : sf_322_107 Q (Int32.ofNat t) m2 = sf_322_133 Q (Int32.ofNat t) (v t) m2 := by
          unfold sf_322_107
          rw [r2.I 66 (by omega), hR.2.2.1, r2.J 66 (by omega), r2.J 92 (by omega)]
          by_cases h0 : nn = 0
          · subst h0
            have t0 : t = 0 := by have e : sh_mx 0 = 1 := rfl; omega
            rw [if_pos (by decide), hR.2.2.2.1 rfl, t0]
          · obtain ⟨f, f1, f2, f3⟩ := hR.2.2.2.2 (by omega)
            rw [sh_mx_pos (by omega)] at ht'
            rw [if_neg (show ¬ Int32.ofNat nn = 0 from fun r => h0 ((sh_nIeq (b := 0) (by omega) (by omega)).mp r)), f1, se_c64 (by omega), sh_nIadd, if_pos (sh_okn' (by omega) (by omega)), sh_nIc (by omega), f3 t ht']
        rw [e95, e107]
        unfold sf_322_133
        rw [r2.I 66 (by omega), e44]
        by_cases h64 : b = 64
        · refine ⟨v t, by rw [if_pos (by rw [h64]; rfl)], fun j hj => by rw [h64, decide_eq_true hj, Bool.true_and]⟩
        · refine ⟨_, by rw [if_neg (show ¬ Int32.ofNat b = 64 from fun r => h64 ((sh_nIeq (b := 64) (by omega) (by omega)).mp r))], fun j hj => sh_low (by omega) (v t) hj⟩
      have ok1 : sh_okb (Int32.ofNat (n0 + t)) 256 = true := sh_okn' (by omega) (by omega)
      have i51 : (256 : Int32) * 2 + Int32.ofNat (n0 + t) = Int32.ofNat (512 + (n0 + t)) := by rw [show (256 : Int32) * 2 = Int32.ofNat 512 from rfl, sh_nIadd]
      have ok2 : sh_okb (Int32.ofNat (512 + (n0 + t))) 768 = true := sh_okn' (by omega) (by omega)
      have c2 : Int32.toNatClampNeg (2 : Int32) = 2 := by decide
      have o2 : sh_okb (2 : Int32) 3 = true := by decide
      refine ⟨(Int32.ofNat (t + 1), (m2.T, sh_u2 (sh_u2 (sh_u2 (sh_u2 m2.I 100 (512 + (n0 + t)) (Int32.ofNat k)) 101 (512 + (n0 + t)) (Int32.ofNat b)) 99 2 (Int32.ofNat (n0 + (t + 1)))) 102 2 (Int32.ofNat (S0 + (t + 1) * b)), sh_u2 m2.J 104 (n0 + t) d, m2.s)), ?_, rfl, r2.trans (se_Of.mk rfl rfl (fun c hc => ?_) (fun c hc => sh_u2_cell hc) (fun x hx => ?_) (fun x hx => ?_)), ?_, se_Is, fun y hy => ?_, fun t' ht2 => ?_⟩
      · show sf_322_95s Q (Int32.ofNat t) m2 = _
        rw [d1, r3]
        unfold sf_322_167 sf_289
        rw [if_pos ok1, sh_nIc (by omega), c2, if_pos o2]
        show (sh_bn (if sh_okb (256 * 2 + m2.I 99 2) 768 = true then _ else none) _) = _
        rw [r3, i51, if_pos ok2, if_pos o2, if_pos ok2, if_pos o2, if_pos o2, if_pos o2, if_pos o2, sh_nIc (by omega), sh_bn_some, r2.I 66 (by omega), hR.1, e44, r4, sh_nI1, sh_nI1, sh_nIadd, Nat.succ_mul, Nat.add_assoc, Nat.add_assoc]
      · show sh_u2 (sh_u2 (sh_u2 (sh_u2 m2.I 100 (512 + (n0 + t)) (Int32.ofNat k)) 101 (512 + (n0 + t)) (Int32.ofNat b)) 99 2 (Int32.ofNat (n0 + (t + 1)))) 102 2 (Int32.ofNat (S0 + (t + 1) * b)) c = m2.I c
        rw [sh_u2_cell (by omega), sh_u2_cell (by omega), sh_u2_cell (by omega), sh_u2_cell (by omega)]
      · refine ⟨?_, ?_⟩
        · rw [se_Ic (by omega), sh_u2_idx (by omega), sh_u2_cell (by omega), sh_u2_cell (by omega)]
        · rw [se_In (by omega), sh_u2_cell (by omega), sh_u2_cell (by omega), sh_u2_cell (by omega)]
      · refine ⟨?_, ?_⟩
        · rw [se_Ic (by omega), sh_u2_cell (by omega), sh_u2_cell (by omega), sh_u2_idx (by omega)]
        · rw [se_Ic (by omega), sh_u2_cell (by omega), sh_u2_idx (by omega), sh_u2_cell (by omega)]
      · rw [se_Ic (by omega), sh_u2_same]
      · refine ⟨?_, ?_⟩
        · rw [se_Ic (by omega), sh_u2_cell (by omega), sh_u2_idx (by omega), sh_u2_cell (by omega)]
          exact (r5 y hy).1
        · show sh_u2 m2.J 104 (n0 + t) d 104 y = _
          rw [sh_u2_idx (by omega)]
          exact (r5 y hy).2
      · by_cases et : t' = t
        · subst et
          refine ⟨?_, fun j hj => ?_⟩
          · rw [se_Ic (by omega), sh_u2_cell (by omega), sh_u2_same]
          · show sh_b (sh_u2 m2.J 104 (n0 + t') d 104 (n0 + t')) j = _
            rw [sh_u2_same]
            exact d2 j hj
        · have lt : t' < t := by omega
          refine ⟨?_, fun j hj => ?_⟩
          · rw [se_Ic (by omega), sh_u2_cell (by omega), sh_u2_idx (by omega), sh_u2_cell (by omega)]
            exact (r6 t' lt).1
          · show sh_b (sh_u2 m2.J 104 (n0 + t) d 104 (n0 + t')) j = _
            rw [sh_u2_idx (by omega)]
            exact (r6 t' lt).2 j hj) (Nat.zero_le _) ⟨rfl, se_Of.refl m, h99, by rw [Nat.zero_mul]; exact h102, fun _ _ => ⟨rfl, rfl⟩, fun t' h => absurd h (by omega)⟩
  have q1 : c = Int32.ofNat (sh_mx nn) := q1
  subst q1
  have q2 : se_Of m m2 := q2
  refine ⟨m2, q7 _ ?_, q2, q3, q4, q5, q6⟩
  show sf_322_95s Q (Int32.ofNat (sh_mx nn)) m2 = _
  unfold sf_322_95s
  rw [if_neg (show ¬ Int32.ofNat (sh_mx nn) = 0 from fun r => by have := (sh_nIeq (b := 0) (by omega) (by omega)).mp r; omega), q2.I 66 (by omega), hR.2.2.1, if_neg]
  intro r
  have r := (sh_nIlt (by omega) (by omega)).mp r
  by_cases h0 : nn = 0
  · omega
  · rw [sh_mx_pos (by omega)] at r
    omega
/-- a value is output on both sides -/
theorem se_outp {w k b nn tp0 n0 : Nat} {v : Nat → Int64} {Q : sh_Q279} {W : Nat → Nat} {f : Nat → Nat → Nat} (hrs : sh_RS gs u mc) (ht : sh_typ k b nn) (hV : se_V p mc gs u w k b nn v) (hR : se_R mm k b nn tp0 v) (htp : tp0 ≤ 80000) (hE : sh_Ev 23 n0 W f mc) (o1 : mm.I 99 2 = Int32.ofNat n0) (o2 : mm.I 102 2 = Int32.ofNat (sh_sum W n0)) (o3 : ∀ k, k < n0 → mm.I 101 (512 + k) = Int32.ofNat (W k) ∧ (∀ i, i < W k → f k i < gs.length) ∧ ∀ j, j < 64 → sh_b (mm.J 104 k) j = (decide (j < W k) && sh_va p gs (f k j))) (h1 : n0 + sh_mx nn ≤ 256) (h2 : sh_sum W n0 + sh_mx nn * b ≤ 1000) :
    ∃ mc2 mm2, sf_101 23 (Int32.ofNat (sh_te k b nn)) (Int32.ofNat w) mc = some ((), mc2) ∧ sf_322_95 Q 0 mm = some (true, mm2) ∧ sh_Ef 23 mc mc2 ∧ se_Of mm mm2 ∧ se_O p gs mc2 mm2 := by
  have b1 := ht.b1
  have b2 := ht.b2
  obtain ⟨G, f1, g1⟩ := hV
  obtain ⟨mc2, g, a1, a2, a3, a4, a6, a5⟩ := sh_101 (x := 23) (by omega) hrs hE ht f1 h1 h2
  obtain ⟨mm2, c1, c2, c3, c4, c5, c6⟩ := se_322L (Q := Q) ht hR htp o1 o2 h1 h2
  refine ⟨mc2, mm2, a1, c1, a4, c2, _, _, _, a2, c3, by rw [a3]; exact c4, fun y hy => ?_⟩
  by_cases hy0 : y < n0
  · obtain ⟨x1, x2, x3⟩ := o3 y hy0
    obtain ⟨z1, z2⟩ := c5 y hy0
    simp only [if_pos hy0]
    exact ⟨z1.trans x1, x2, fun j hj => by rw [z2]; exact x3 j hj⟩
  · obtain ⟨t, rfl⟩ : ∃ t, y = n0 + t := ⟨y - n0, by omega⟩
    obtain ⟨z1, z2⟩ := c6 t (by omega)
    simp only [if_neg hy0, show n0 + t - n0 = t by omega]
    have tb : t * b + b ≤ b * sh_mx nn := by rw [← Nat.succ_mul, Nat.mul_comm b]; exact Nat.mul_le_mul_right b (by omega)
    refine ⟨z1, fun i hi => (a5 (t * b + i) (by omega)).1.2, fun j hj => ?_⟩
    rw [z2 j hj]
    by_cases hjb : j < b
    · rw [decide_eq_true hjb, Bool.true_and, Bool.true_and, (a5 (t * b + j) (by omega)).2 p, (g1 t (by omega)).low b2 hjb]
    · rw [decide_eq_false hjb, Bool.false_and, Bool.false_and]
end
