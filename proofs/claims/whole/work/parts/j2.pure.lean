/-! COMPILE: what is known of a program behind it -/
section
variable {N : Nat} {K : Nat → Int32} {P V : Nat → Nat} {A C : Nat → Nat → Int32} {pf cf gf w : Nat → Nat} {F ht n c2 g2 : Nat}
/-- worths of the input wires, for values that are given -/
theorem sj_p (K : Nat → Int32) (V w : Nat → Nat) (A : Nat → Nat → Int32) (n : Nat) (D : Nat → Int64) : ∃ p : Nat → Bool, se_ip K V w A n D p ∧ p 0 = false ∧ p 1 = true := by
  have dec : ∀ v, ∃ b : Bool, b = true ↔ ∃ y t i, y < n ∧ t < se_el K V w y ∧ i < se_bw K V w y ∧ v = se_wr K V w y + (t * se_bw K V w y + i) ∧ sh_b (D (256 * se_pa A y + (se_en K V w A (se_pa A y) y + t))) i = true := fun v => by
    by_cases h : ∃ y t i, y < n ∧ t < se_el K V w y ∧ i < se_bw K V w y ∧ v = se_wr K V w y + (t * se_bw K V w y + i) ∧ sh_b (D (256 * se_pa A y + (se_en K V w A (se_pa A y) y + t))) i = true
    · exact ⟨true, fun _ => h, fun _ => rfl⟩
    · exact ⟨false, (fun q => by cases q), (fun q => absurd q h)⟩
  obtain ⟨b, hb⟩ := Classical.axiomOfChoice dec
  refine ⟨fun v => if v = 0 then false else if v = 1 then true else b v, fun y hy t ht i hi => ?_, rfl, rfl⟩
  have w2 : 2 ≤ se_wr K V w y := by unfold se_wr; omega
  show (if se_wr K V w y + (t * se_bw K V w y + i) = 0 then false else if se_wr K V w y + (t * se_bw K V w y + i) = 1 then true else b (se_wr K V w y + (t * se_bw K V w y + i))) = _
  rw [if_neg (by omega), if_neg (by omega)]
  have lt : ∀ y t i, t < se_el K V w y → i < se_bw K V w y → t * se_bw K V w y + i < se_el K V w y * se_bw K V w y := fun y t i h1 h2 => by
    have : (t + 1) * se_bw K V w y ≤ se_el K V w y * se_bw K V w y := Nat.mul_le_mul_right _ h1
    rw [Nat.succ_mul] at this
    omega
  have key := hb (se_wr K V w y + (t * se_bw K V w y + i))
  cases hB : sh_b (D (256 * se_pa A y + (se_en K V w A (se_pa A y) y + t))) i with
  | true => exact key.mpr ⟨y, t, i, hy, ht, hi, rfl, hB⟩
  | false =>
    cases hb2 : b (se_wr K V w y + (t * se_bw K V w y + i)) with
    | false => rfl
    | true =>
      exfalso
      obtain ⟨y2, t2, i2, h1, h2, h3, h4, h5⟩ := key.mp hb2
      have l1 := lt y t i ht hi
      have l2 := lt y2 t2 i2 h2 h3
      have e : sh_sum (fun z => se_el K V w z * se_bw K V w z) y + (t * se_bw K V w y + i) = sh_sum (fun z => se_el K V w z * se_bw K V w z) y2 + (t2 * se_bw K V w y2 + i2) := by
        unfold se_wr at h4
        omega
      obtain ⟨ey, e2⟩ := sh_sum_uniq (W := fun z => se_el K V w z * se_bw K V w z) l1 l2 e
      subst ey
      have d1 := sh_divmod (k := t) (n := se_bw K V w y) hi
      have d2 := sh_divmod (k := t2) (n := se_bw K V w y) h3
      rw [e2, d2.1, d2.2] at d1
      rw [← d1.1, ← d1.2, h5] at hB
      cases hB
/-- the program as the class has read it -/
def sj_H (N : Nat) (K : Nat → Int32) (P V : Nat → Nat) (A C : Nat → Nat → Int32) (pf cf gf w : Nat → Nat) (F ht n c2 g2 : Nat) (mc : sh_X) : Prop := sh_Txt N K P V ∧ F < 256 ∧ sh_Fs N K V A C ht F pf cf gf ∧ sh_Hds N K V A C F ∧ C 28 12 = Int32.ofNat F ∧ A 66 36 = Int32.ofNat n ∧ w 0 = pf F ∧ sh_In K A C (cf F) n w ∧ sh_Sl A (sp_S N K V A C ht) (gf F) g2 0 (A 66 37) (cf F + n) c2 (w n) N ∧ C 28 10 = Int32.ofNat c2 ∧ cf F + n ≤ c2 ∧ c2 < 6000 ∧ w n ≤ N ∧ g2 ≤ 4010 ∧ gf F ≤ g2 ∧ se_c N K P V C [(0, 0, 0), (0, 0, 0)] 2 0 0 0 0 0 0 1 0 0 F mc ∧ mc.I 41 13 = Int32.ofNat (cf F) ∧ (∀ x, x = 13 ∨ x = 18 ∨ x = 23 → mc.I x 4 = 0 ∧ mc.I x 5 = 0)
/-- the program as the model has it -/
def sj_M (N : Nat) (K : Nat → Int32) (P V : Nat → Nat) (A : Nat → Nat → Int32) (F : Nat) (mm : sh_X) : Prop := sh_We N K P V mm ∧ (∀ x, 72 ≤ x → x ≤ 91 → mm.I x = A x) ∧ mm.I 66 31 = Int32.ofNat F ∧ mm.I 66 36 = A 66 36 ∧ mm.I 66 37 = A 66 37
/-- both do the program -/
theorem sj_do {mc mm : sh_X} {p : Nat → Bool} (H : sj_H N K P V A C pf cf gf w F ht n c2 g2 mc) (M : sj_M N K P V A F mm) (hip : se_ip K V w A n (mm.J 103) p) :
    se_bad N P mc mm (sf_78_10 0 mc) (sf_282 mm) ∨
    ∃ mc2 mm2 gs, sf_78_10 0 mc = some (some (), mc2) ∧ sf_282 mm = some (true, mm2) ∧ se_Wf mc mc2 ∧ se_U mm mm2 ∧ sh_GS gs mc2 ∧ sh_gz gs ∧ gs.length ≤ 60000 ∧ se_IF p (mm.J 103) gs (fun X => se_en K V w A X n) (fun X => se_et K V w A X n) mc2 mm2 ∧ (∀ X, X < 2 → ∀ k, k < se_en K V w A X n → mc2.J (16 + 5 * X) k = 0) ∧ se_O p gs mc2 mm2 := by
  obtain ⟨h1, h2, h3, h4, h5, h6, h7, h8, h9, h10, h11, h12, h13, h14, h15, h16, h17, h18⟩ := H
  obtain ⟨m1, m2, m3, m4, m5⟩ := M
  exact se_perf h1 h2 h3 h4 h5 h6 h7 h8 h9 h10 h11 h12 h13 h14 h15 h16 h17 h18 m1 m2 m3 m4 m5 hip
end
/-- the class has what it had behind the compile: gates and elements -/
def sj_Q (m m2 : sh_X) : Prop := (∀ c t, c ≠ 2 → c ≠ 58 → c ≠ 61 → m.T[c]? = some t → m2.T[c]? = some t) ∧ (∀ c, (9 ≤ c ∧ c ≤ 27) ∨ 125 ≤ c → m2.I c = m.I c)
theorem sj_Q.T {m m2 : sh_X} (h : sj_Q m m2) : ∀ c t, c ≠ 2 → c ≠ 58 → c ≠ 61 → m.T[c]? = some t → m2.T[c]? = some t := h.1
theorem sj_Q.I {m m2 : sh_X} (h : sj_Q m m2) : ∀ c, (9 ≤ c ∧ c ≤ 27) ∨ 125 ≤ c → m2.I c = m.I c := h.2
theorem sj_Q.mk {m m2 : sh_X} (T : ∀ c t, c ≠ 2 → c ≠ 58 → c ≠ 61 → m.T[c]? = some t → m2.T[c]? = some t) (I : ∀ c, (9 ≤ c ∧ c ≤ 27) ∨ 125 ≤ c → m2.I c = m.I c) : sj_Q m m2 := ⟨T, I⟩
theorem sj_Q.refl (m : sh_X) : sj_Q m m := sj_Q.mk (fun _ _ _ _ _ h => h) (fun _ _ => rfl)
theorem sj_Q.trans {m m2 m3 : sh_X} (h : sj_Q m m2) (g : sj_Q m2 m3) : sj_Q m m3 := sj_Q.mk (fun c t a b d e => g.T c t a b d (h.T c t a b d e)) (fun c a => (g.I c a).trans (h.I c a))
theorem sj_lt {T T2 : List sh_Tg} {c : Nat} (h : ∀ t, T[c]? = some t → T2[c]? = some t) (hc : c < T.length) : T2[c]? = T[c]? := by
  have e : T[c]? = some T[c] := List.getElem?_eq_getElem hc
  rw [h _ e, e]
theorem sj_Q.GS {gs : sh_gL} {m m2 : sh_X} (q : sj_Q m m2) (h : sh_GS gs m) (hl : m2.T.length + 99 ≤ 900000) : sh_GS gs m2 ∧ sj_l m2 = sj_l m := by
  obtain ⟨h1, h6, h7, a, b, d, n, g⟩ := h
  have fa := g.fa
  have fb := g.fb
  have fc := g.fc
  have nT := g.nT
  have n0 := g.n0
  have tg : ∀ c, c ≠ 2 → c ≠ 58 → c ≠ 61 → c < m.T.length → m2.T[c]? = m.T[c]? := fun c h1 h2 h3 h4 => sj_lt (fun t => q.T c t h1 h2 h3) h4
  have lt : ∀ c, c ≠ 2 → c ≠ 58 → c ≠ 61 → c < m.T.length → c < m2.T.length := fun c h1 h2 h3 h4 => by
    have e := tg c h1 h2 h3 h4
    rcases Nat.lt_or_ge c m2.T.length with r | r
    · exact r
    · rw [List.getElem?_eq_none r, List.getElem?_eq_getElem h4] at e; cases e
  have r : ∀ f, sh_rf m2.T 9 f = sh_rf m.T 9 f := fun f => sj_rf (tg 9 (by omega) (by omega) (by omega) (by omega)) f
  have la : sh_ln m2.T a = sh_ln m.T a := sh_ln_eq (tg a (by omega) (by omega) (by omega) (by omega))
  have lb : sh_ln m2.T b = sh_ln m.T b := sh_ln_eq (tg b (by omega) (by omega) (by omega) (by omega))
  have lc : sh_ln m2.T d = sh_ln m.T d := sh_ln_eq (tg d (by omega) (by omega) (by omega) (by omega))
  have ha := lt a (by omega) (by omega) (by omega) (by omega)
  have hb := lt b (by omega) (by omega) (by omega) (by omega)
  have hd := lt d (by omega) (by omega) (by omega) (by omega)
  have h124 := lt 124 (by omega) (by omega) (by omega) (by omega)
  have d131 : 3 * (131072 / n) ≤ 99 := by
    have : 131072 / n ≤ 131072 / 4096 := Nat.div_le_div_left n0 (by omega)
    omega
  refine ⟨⟨h1, h6, h7, a, b, d, n, sh_Gv.mk (ra := by rw [r]; exact g.ra) (rb := by rw [r]; exact g.rb) (rc := by rw [r]; exact g.rc) (la := by rw [la]; exact g.la) (lb := by rw [lb]; exact g.lb) (lc := by rw [lc]; exact g.lc) (ab := g.ab) (ac := g.ac) (bc := g.bc) (fa := ⟨g.fa.1, ha⟩) (fb := ⟨g.fb.1, hb⟩) (fc := ⟨g.fc.1, hd⟩) (nT := h124) (n0 := g.n0) (n1 := g.n1) (n5 := g.n5) (tT := by omega) (le := g.le) (w := by rw [q.I 9 (by omega)]; exact g.w) (k := fun j hj => by rw [q.I a (by omega)]; exact g.k j hj) (l := fun j hj => by rw [q.I b (by omega)]; exact g.l j hj) (r := fun j hj => by rw [q.I d (by omega)]; exact g.r j hj) (wf := g.wf)⟩, ?_⟩
  unfold sj_l
  rw [r 0, g.ra, la]
/-- the elements as both sides have them -/
def sj_E (n : Nat → Nat) (W : Nat → Nat → Nat) (f : Nat → Nat → Nat → Nat) (mc mm : sh_X) : Prop := ∀ X, X < 3 → sh_Ev (13 + 5 * X) (n X) (W X) (f X) mc ∧ mm.I 99 X = Int32.ofNat (n X) ∧ mm.I 102 X = Int32.ofNat (sh_sum (W X) (n X)) ∧ ∀ k, k < n X → mm.I 101 (256 * X + k) = Int32.ofNat (W X k)
/-- a program is compiled -/
def sj_R (mc mm : sh_X) : Prop := ∃ N K P V A C pf cf gf w F ht n c2 g2 mcH mcE, sj_H N K P V A C pf cf gf w F ht n c2 g2 mcH ∧ sj_M N K P V A F mm ∧ sf_78_10 0 mcH = some (some (), mcE) ∧ sj_Q mcE mc
