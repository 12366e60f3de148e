/-! PARSERS: FNs -/
/-- the FN f: its words from p to q, its code from i to j, its parts from lo to hi; n parameters -/
def sh_Fn (N : Nat) (K : Nat → Int32) (V : Nat → Nat) (A C : Nat → Nat → Int32) (ht f lo hi i j p q : Nat) : Prop :=
  ∃ (n : Nat) (t : Nat → Nat) (rt pb k l v pv : Nat), n ≤ 8 ∧ K p = 8 ∧ K (p + 1) = 1 ∧ A 79 f = Int32.ofNat (p + 1) ∧ C 29 f = Int32.ofNat (p + 1) ∧ A 80 f = Int32.ofNat n ∧ C 33 f = Int32.ofNat n ∧
    t 0 = p + 3 ∧ sh_Pr K A C f n t ∧ (0 < n → t n ≤ rt) ∧ p + 4 ≤ rt ∧ rt < pb ∧ pb < pv ∧ pv + 2 ≤ q ∧ q ≤ N ∧ C 31 f = Int32.ofNat rt ∧ sh_Ty K (A 84 f) (A 85 f) rt ∧
    C 30 f = Int32.ofNat i ∧ i ≤ k ∧ k + 1 ≤ j ∧ lo ≤ l ∧ l ≤ hi ∧
    sh_Sl A (sp_S N K V A C ht) lo l 1 (A 86 f) i k pb (pv - 1) ∧ A 87 f = Int32.ofNat v ∧ A 78 v = Int32.ofNat pv ∧ C 36 (j - 1) = 18 ∧ C 37 (j - 1) = Int32.ofNat pv ∧
    sp_R N K V A C ht l hi 1 v k (j - 1) pv (q - 2)
section
variable {N : Nat} {K : Nat → Int32} {P V : Nat → Nat}
theorem sh_Fn.mono {A C A' C' : Nat → Nat → Int32} {ht ht2 f lo hi i j p q : Nat} (H : sh_Fn N K V A C ht f lo hi i j p q) (hh : ht ≤ ht2)
    (hF : ∀ x, 79 ≤ x → x ≤ 87 → ∀ y, y < 8 * f + 8 → (x < 81 ∨ 83 < x → y = f) → A' x y = A x y)
    (hG : ∀ x, 29 ≤ x → x ≤ 34 → ∀ y, y < 8 * f + 8 → (x ≠ 34 → y = f) → C' x y = C x y)
    (hA : ∀ x, lo ≤ x → x < hi → ∀ y, 72 ≤ y → y ≤ 78 → A' y x = A y x) (hC : ∀ y, i ≤ y → y < j → C' 36 y = C 36 y ∧ C' 37 y = C 37 y ∧ C' 38 y = C 38 y) : sh_Fn N K V A' C' ht2 f lo hi i j p q := by
  obtain ⟨n, t, rt, pb, k, l, v, pv, h1, h2, h3, h4, h5, h6, h7, h8, h9, h10, h11, h12, h13, h14, h15, h16, h17, h18, h19, h20, h21, h22, h23, h24, h25, h26, h27, h28⟩ := H
  have re := sh_R_e h28
  have g := fun x (a : 79 ≤ x) (b : x ≤ 87) => hF x a b f (by omega) (fun _ => rfl)
  have gc := fun x (a : 29 ≤ x) (b : x ≤ 34) => hG x a b f (by omega) (fun _ => rfl)
  have cj := hC (j - 1) (by omega) (by omega)
  refine ⟨n, t, rt, pb, k, l, v, pv, h1, h2, h3, by rw [g 79 (by omega) (by omega)]; exact h4, by rw [gc 29 (by omega) (by omega)]; exact h5, by rw [g 80 (by omega) (by omega)]; exact h6, by rw [gc 33 (by omega) (by omega)]; exact h7, h8, ?_, h10, h11, h12, h13, h14, h15, by rw [gc 31 (by omega) (by omega)]; exact h16, by rw [g 84 (by omega) (by omega), g 85 (by omega) (by omega)]; exact h17, by rw [gc 30 (by omega) (by omega)]; exact h18, h19, h20, h21, h22, ?_, by rw [g 87 (by omega) (by omega)]; exact h24, by rw [hA v (by omega) (by omega) 78 (by omega) (by omega)]; exact h25, by rw [cj.1]; exact h26, by rw [cj.2.1]; exact h27, ?_⟩
  · exact h9.mono (fun k hk => ⟨hF 81 (by omega) (by omega) _ (by omega) (fun q => absurd q (by omega)), hF 82 (by omega) (by omega) _ (by omega) (fun q => absurd q (by omega)), hF 83 (by omega) (by omega) _ (by omega) (fun q => absurd q (by omega))⟩) (fun k hk => hG 34 (by omega) (by omega) _ (by omega) (fun q => absurd rfl q))
  · rw [g 86 (by omega) (by omega)]
    exact sh_Sl_fr h23 hh (Nat.le_refl _) (Nat.le_refl _) (Nat.le_refl _) (Nat.le_refl _) (fun x x1 x2 y y1 y2 => hA x (by omega) (by omega) y y1 y2) (fun y y1 y2 => hC y (by omega) (by omega))
  · have hr := sh_R_fr h28 (A' := A') (C' := C') (fun x x1 x2 y y1 y2 => hA x (by omega) (by omega) y y1 y2) (fun y y1 y2 => hC y (by omega) (by omega))
    exact sh_R_mono ht ht2 l hi l hi 1 1 v k (j - 1) pv (q - 2) pv (q - 2) hr hh (Nat.le_refl _) (Nat.le_refl _) (Nat.le_refl _) (Nat.le_refl _) (Nat.le_refl _) re.2.2.2.2 (fun _ _ _ => ⟨rfl, rfl, rfl, rfl⟩) (fun _ _ _ _ => ⟨rfl, rfl⟩) (fun _ _ _ => ⟨rfl, rfl, rfl⟩)
/-- what a FN leaves as it was -/
def sh_Ff (f c g : Nat) (mc mm mc2 mm2 : sh_X) : Prop := (sh_Cg mc mc2) ∧ (sh_Mg mm mm2) ∧ (∀ y, y < c → mc2.I 36 y = mc.I 36 y ∧ mc2.I 37 y = mc.I 37 y ∧ mc2.I 38 y = mc.I 38 y) ∧ (∀ y, y < g → ∀ x, 72 ≤ x → x ≤ 78 → mm2.I x y = mm.I x y) ∧ (∀ x y, 79 ≤ x → x ≤ 87 → (x < 81 ∨ 83 < x) → y < f → mm2.I x y = mm.I x y) ∧ (∀ x y, 81 ≤ x → x ≤ 83 → y < 8 * f → mm2.I x y = mm.I x y) ∧ (∀ x y, 29 ≤ x → x ≤ 33 → y < f → mc2.I x y = mc.I x y) ∧ (∀ y, y < 8 * f → mc2.I 34 y = mc.I 34 y) ∧ (mc2.I 28 11 = mc.I 28 11) ∧ (mm2.I 66 36 = mm.I 66 36)
theorem sh_Ff.cg {f c g : Nat} {mc mm mc2 mm2 : sh_X} (h : sh_Ff f c g mc mm mc2 mm2) : sh_Cg mc mc2 := h.1
theorem sh_Ff.mg {f c g : Nat} {mc mm mc2 mm2 : sh_X} (h : sh_Ff f c g mc mm mc2 mm2) : sh_Mg mm mm2 := h.2.1
theorem sh_Ff.cd {f c g : Nat} {mc mm mc2 mm2 : sh_X} (h : sh_Ff f c g mc mm mc2 mm2) : ∀ y, y < c → mc2.I 36 y = mc.I 36 y ∧ mc2.I 37 y = mc.I 37 y ∧ mc2.I 38 y = mc.I 38 y := h.2.2.1
theorem sh_Ff.pt {f c g : Nat} {mc mm mc2 mm2 : sh_X} (h : sh_Ff f c g mc mm mc2 mm2) : ∀ y, y < g → ∀ x, 72 ≤ x → x ≤ 78 → mm2.I x y = mm.I x y := h.2.2.2.1
theorem sh_Ff.mo {f c g : Nat} {mc mm mc2 mm2 : sh_X} (h : sh_Ff f c g mc mm mc2 mm2) : ∀ x y, 79 ≤ x → x ≤ 87 → (x < 81 ∨ 83 < x) → y < f → mm2.I x y = mm.I x y := h.2.2.2.2.1
theorem sh_Ff.ml {f c g : Nat} {mc mm mc2 mm2 : sh_X} (h : sh_Ff f c g mc mm mc2 mm2) : ∀ x y, 81 ≤ x → x ≤ 83 → y < 8 * f → mm2.I x y = mm.I x y := h.2.2.2.2.2.1
theorem sh_Ff.co {f c g : Nat} {mc mm mc2 mm2 : sh_X} (h : sh_Ff f c g mc mm mc2 mm2) : ∀ x y, 29 ≤ x → x ≤ 33 → y < f → mc2.I x y = mc.I x y := h.2.2.2.2.2.2.1
theorem sh_Ff.cl {f c g : Nat} {mc mm mc2 mm2 : sh_X} (h : sh_Ff f c g mc mm mc2 mm2) : ∀ y, y < 8 * f → mc2.I 34 y = mc.I 34 y := h.2.2.2.2.2.2.2.1
theorem sh_Ff.c11 {f c g : Nat} {mc mm mc2 mm2 : sh_X} (h : sh_Ff f c g mc mm mc2 mm2) : mc2.I 28 11 = mc.I 28 11 := h.2.2.2.2.2.2.2.2.1
theorem sh_Ff.m36 {f c g : Nat} {mc mm mc2 mm2 : sh_X} (h : sh_Ff f c g mc mm mc2 mm2) : mm2.I 66 36 = mm.I 66 36 := h.2.2.2.2.2.2.2.2.2
theorem sh_Ff.mk {f c g : Nat} {mc mm mc2 mm2 : sh_X} (cg : sh_Cg mc mc2) (mg : sh_Mg mm mm2) (cd : ∀ y, y < c → mc2.I 36 y = mc.I 36 y ∧ mc2.I 37 y = mc.I 37 y ∧ mc2.I 38 y = mc.I 38 y) (pt : ∀ y, y < g → ∀ x, 72 ≤ x → x ≤ 78 → mm2.I x y = mm.I x y) (mo : ∀ x y, 79 ≤ x → x ≤ 87 → (x < 81 ∨ 83 < x) → y < f → mm2.I x y = mm.I x y) (ml : ∀ x y, 81 ≤ x → x ≤ 83 → y < 8 * f → mm2.I x y = mm.I x y) (co : ∀ x y, 29 ≤ x → x ≤ 33 → y < f → mc2.I x y = mc.I x y) (cl : ∀ y, y < 8 * f → mc2.I 34 y = mc.I 34 y) (c11 : mc2.I 28 11 = mc.I 28 11) (m36 : mm2.I 66 36 = mm.I 66 36) : sh_Ff f c g mc mm mc2 mm2 := ⟨cg, mg, cd, pt, mo, ml, co, cl, c11, m36⟩
theorem sh_Ff.refl (f c g : Nat) (mc mm : sh_X) : sh_Ff f c g mc mm mc mm := sh_Ff.mk (sh_Cg.refl mc) (sh_Mg.refl mm) (fun _ _ => ⟨rfl, rfl, rfl⟩) (fun _ _ _ _ _ => rfl) (fun _ _ _ _ _ _ => rfl) (fun _ _ _ _ _ => rfl) (fun _ _ _ _ _ => rfl) (fun _ _ => rfl) rfl rfl
theorem sh_Ff.trans {f f2 c c2 g g2 : Nat} {mc mm mc2 mm2 mc3 mm3 : sh_X} (h : sh_Ff f c g mc mm mc2 mm2) (k : sh_Ff f2 c2 g2 mc2 mm2 mc3 mm3) (hf : f ≤ f2) (hc : c ≤ c2) (hg : g ≤ g2) : sh_Ff f c g mc mm mc3 mm3 :=
  sh_Ff.mk (h.cg.trans k.cg) (h.mg.trans k.mg) (fun y hy => by have a := h.cd y hy; have b := k.cd y (by omega); exact ⟨b.1.trans a.1, b.2.1.trans a.2.1, b.2.2.trans a.2.2⟩) (fun y hy x a b => (k.pt y (by omega) x a b).trans (h.pt y hy x a b)) (fun x y a b c d => (k.mo x y a b c (by omega)).trans (h.mo x y a b c d)) (fun x y a b c => (k.ml x y a b (by omega)).trans (h.ml x y a b c)) (fun x y a b c => (k.co x y a b (by omega)).trans (h.co x y a b c)) (fun y hy => (k.cl y (by omega)).trans (h.cl y hy)) (k.c11.trans h.c11) (k.m36.trans h.m36)
theorem sh_Ff.of {f c g : Nat} {mc mm mc2 mm2 : sh_X} (h : sh_Cf c 0 mc mc2) (k : sh_Mf g mm mm2) : sh_Ff f c g mc mm mc2 mm2 :=
  sh_Ff.mk h.cg k.mg h.cd k.pt (fun x y a b _ _ => by rw [k.I x (by omega) (by omega)]) (fun x y a b _ => by rw [k.I x (by omega) (by omega)]) (fun x y a b _ => by rw [h.I x (by omega) (by omega) (by omega) (by omega) (by omega) (by omega)]) (fun y _ => by rw [h.I 34 (by omega) (by omega) (by omega) (by omega) (by omega) (by omega)]) (h.I28 11 (by omega)) (k.I6 36 (by omega) (by omega) (by omega) (by omega) (by omega) (by omega))
/-- an entry of the FN f is written -/
theorem sh_Ff.wc {f c g x : Nat} {v : Int32} {mc mm : sh_X} (hx : (29 ≤ x ∧ x ≤ 33)) : sh_Ff f c g mc mm (mc.T, sh_u2 mc.I x f v, mc.J, mc.s) mm := by
  refine sh_Ff.mk (sh_Cg.mk rfl rfl rfl ?_) (sh_Mg.refl mm) ?_ (fun _ _ _ _ _ => rfl) (fun _ _ _ _ _ _ => rfl) (fun _ _ _ _ _ => rfl) ?_ ?_ ?_ rfl
  · intro z hz; simp only [sh_X.I, sh_u2_cell (show z ≠ x by omega)]
  · intro y _; simp only [sh_X.I, sh_u2_cell (show (36 : Nat) ≠ x by omega), sh_u2_cell (show (37 : Nat) ≠ x by omega), sh_u2_cell (show (38 : Nat) ≠ x by omega)]; exact ⟨trivial, trivial, trivial⟩
  · intro z y _ _ hy
    simp only [sh_X.I]
    by_cases hz : z = x
    · subst hz; rw [sh_u2_idx (by omega)]
    · rw [sh_u2_cell hz]
  · intro y _; simp only [sh_X.I, sh_u2_cell (show (34 : Nat) ≠ x by omega)]
  · simp only [sh_X.I, sh_u2_cell (show (28 : Nat) ≠ x by omega)]
theorem sh_Ff.wm {f c g x : Nat} {v : Int32} {mc mm : sh_X} (hx : x = 79 ∨ x = 80 ∨ (84 ≤ x ∧ x ≤ 87)) : sh_Ff f c g mc mm mc (mm.T, sh_u2 mm.I x f v, mm.J, mm.s) := by
  refine sh_Ff.mk (sh_Cg.refl mc) (sh_Mg.mk rfl rfl rfl (by simp only [sh_X.I, sh_u2_cell (show (66 : Nat) ≠ x by omega)]) ?_ ?_) (fun _ _ => ⟨rfl, rfl, rfl⟩) ?_ ?_ ?_ (fun _ _ _ _ _ => rfl) (fun _ _ => rfl) rfl ?_
  · intro z h1 h2; simp only [sh_X.I, sh_u2_cell (show z ≠ x by omega)]
  · intro j _ _ _ _ _ _ _ _ _; simp only [sh_X.I, sh_u2_cell (show (66 : Nat) ≠ x by omega)]
  · intro y _ z h1 h2; simp only [sh_X.I, sh_u2_cell (show z ≠ x by omega)]
  · intro z y _ _ _ hy
    simp only [sh_X.I]
    by_cases hz : z = x
    · subst hz; rw [sh_u2_idx (by omega)]
    · rw [sh_u2_cell hz]
  · intro z y _ _ _; simp only [sh_X.I, sh_u2_cell (show z ≠ x by omega)]
  · simp only [sh_X.I, sh_u2_cell (show (66 : Nat) ≠ x by omega)]
end
