/-! EVALUATION: a whole program -/
def se_r0 (m : sh_X) : sh_X := (m.T, sh_u2 (sh_u2 (sh_u2 (sh_u2 (sh_u2 (sh_u2 (sh_u2 (sh_u2 (sh_u2 (sh_u2 (sh_u2 m.I 66 41 0) 66 42 0) 66 53 0) 66 54 0) 66 55 (m.I 66 31)) 66 56 0) 66 57 1) 66 58 0) 66 59 0) 66 73 0) 66 79 0, m.J, m.s)
def se_z0 (x : Nat) (m : sh_X) : sh_X := (m.T, sh_u2 (sh_u2 m.I 99 x 0) 102 x 0, m.J, m.s)
def se_i0 (m : sh_X) : sh_X := se_z0 2 (se_z0 1 (se_z0 0 (se_r0 m)))
theorem se_282 (m : sh_X) : sf_282 m = sf_282_87 0 (se_i0 m) := by
  unfold sf_282 sf_282_60
  show sh_while (fun q => sf_282_60s q.1 q.2) (Int32.ofNat 0, se_r0 m) = _
  have st : ∀ x, x < 3 → ∀ m, sf_282_60s (Int32.ofNat x) m = some (.inl (Int32.ofNat (x + 1), se_z0 x m)) := by
    intro x hx m
    unfold sf_282_60s
    have o : sh_okb (Int32.ofNat x) 3 = true := sh_okn' hx (by omega)
    rw [if_pos (show Int32.ofNat x < 3 from (sh_nIlt (b := 3) (by omega) (by omega)).mpr hx), if_pos o, if_pos o, sh_nIc (by omega), sh_nI1]
    rfl
  rw [sh_wstep (f := fun q => sf_282_60s q.1 q.2) (st 0 (by omega) _), sh_wstep (f := fun q => sf_282_60s q.1 q.2) (st 1 (by omega) _), sh_wstep (f := fun q => sf_282_60s q.1 q.2) (st 2 (by omega) _)]
  refine se_whileU (f := fun q => sf_282_60s q.1 q.2) ?_
  show sf_282_60s (Int32.ofNat 3) (se_i0 m) = _
  unfold sf_282_60s
  rw [if_neg (by decide)]
theorem se_z0I {x c : Nat} {m : sh_X} (h1 : c ≠ 99) (h2 : c ≠ 102) : (se_z0 x m).I c = m.I c := by
  show sh_u2 (sh_u2 m.I 99 x 0) 102 x 0 c = m.I c
  rw [sh_u2_cell h2, sh_u2_cell h1]
theorem se_r0I {c : Nat} {m : sh_X} (h : c ≠ 66) : (se_r0 m).I c = m.I c := by
  show sh_u2 _ 66 79 0 c = m.I c
  rw [sh_u2_cell h, sh_u2_cell h, sh_u2_cell h, sh_u2_cell h, sh_u2_cell h, sh_u2_cell h, sh_u2_cell h, sh_u2_cell h, sh_u2_cell h, sh_u2_cell h, sh_u2_cell h]
theorem se_i0I {c : Nat} {m : sh_X} (h : c ≠ 66) (h1 : c ≠ 99) (h2 : c ≠ 102) : (se_i0 m).I c = m.I c := by
  unfold se_i0
  rw [se_z0I h1 h2, se_z0I h1 h2, se_z0I h1 h2, se_r0I h]
theorem se_i0z {x : Nat} {m : sh_X} (hx : x < 3) : (se_i0 m).I 99 x = 0 ∧ (se_i0 m).I 102 x = 0 := by
  have e : ∀ y c (m : sh_X), c = 99 ∨ c = 102 → (se_z0 y m).I c x = if x = y then 0 else m.I c x := by
    intro y c m hc
    show sh_u2 (sh_u2 m.I 99 y 0) 102 y 0 c x = _
    by_cases q : x = y
    · subst q
      rw [if_pos rfl]
      rcases hc with rfl | rfl
      · rw [sh_u2_cell (by omega), sh_u2_same]
      · rw [sh_u2_same]
    · rw [if_neg q]
      rcases hc with rfl | rfl
      · rw [sh_u2_cell (by omega), sh_u2_idx q]
      · rw [sh_u2_idx q, sh_u2_cell (by omega)]
  have g : ∀ c, c = 99 ∨ c = 102 → (se_i0 m).I c x = 0 := by
    intro c hc
    unfold se_i0
    rw [e 2 c _ hc, e 1 c _ hc, e 0 c _ hc]
    by_cases h2 : x = 2
    · rw [if_pos h2]
    · rw [if_neg h2]
      by_cases h1 : x = 1
      · rw [if_pos h1]
      · rw [if_neg h1, if_pos (by omega)]
  exact ⟨g 99 (Or.inl rfl), g 102 (Or.inr rfl)⟩
theorem se_i066 {m : sh_X} : (se_i0 m).I 66 = (se_r0 m).I 66 := by
  unfold se_i0
  rw [se_z0I (by omega) (by omega), se_z0I (by omega) (by omega), se_z0I (by omega) (by omega)]
theorem se_r0F {m : sh_X} : (se_r0 m).I 66 41 = 0 ∧ (se_r0 m).I 66 42 = 0 ∧ (se_r0 m).I 66 53 = 0 ∧ (se_r0 m).I 66 54 = 0 ∧ (se_r0 m).I 66 55 = m.I 66 31 ∧ (se_r0 m).I 66 56 = 0 ∧ (se_r0 m).I 66 57 = 1 ∧ (se_r0 m).I 66 58 = 0 ∧ (se_r0 m).I 66 59 = 0 ∧ (se_r0 m).I 66 73 = 0 ∧ (se_r0 m).I 66 79 = 0 ∧ ∀ f, f < 41 ∨ 79 < f → (se_r0 m).I 66 f = m.I 66 f := by
  have e : (se_r0 m).I = sh_u2 (sh_u2 (sh_u2 (sh_u2 (sh_u2 (sh_u2 (sh_u2 (sh_u2 (sh_u2 (sh_u2 (sh_u2 m.I 66 41 0) 66 42 0) 66 53 0) 66 54 0) 66 55 (m.I 66 31)) 66 56 0) 66 57 1) 66 58 0) 66 59 0) 66 73 0) 66 79 0 := rfl
  rw [e]
  refine ⟨?_, ?_, ?_, ?_, ?_, ?_, ?_, ?_, ?_, ?_, ?_, fun f hf => ?_⟩
  · rw [sh_u2_idx (by omega), sh_u2_idx (by omega), sh_u2_idx (by omega), sh_u2_idx (by omega), sh_u2_idx (by omega), sh_u2_idx (by omega), sh_u2_idx (by omega), sh_u2_idx (by omega), sh_u2_idx (by omega), sh_u2_idx (by omega), sh_u2_same]
  · rw [sh_u2_idx (by omega), sh_u2_idx (by omega), sh_u2_idx (by omega), sh_u2_idx (by omega), sh_u2_idx (by omega), sh_u2_idx (by omega), sh_u2_idx (by omega), sh_u2_idx (by omega), sh_u2_idx (by omega), sh_u2_same]
  · rw [sh_u2_idx (by omega), sh_u2_idx (by omega), sh_u2_idx (by omega), sh_u2_idx (by omega), sh_u2_idx (by omega), sh_u2_idx (by omega), sh_u2_idx (by omega), sh_u2_idx (by omega), sh_u2_same]
  · rw [sh_u2_idx (by omega), sh_u2_idx (by omega), sh_u2_idx (by omega), sh_u2_idx (by omega), sh_u2_idx (by omega), sh_u2_idx (by omega), sh_u2_idx (by omega), sh_u2_same]
  · rw [sh_u2_idx (by omega), sh_u2_idx (by omega), sh_u2_idx (by omega), sh_u2_idx (by omega), sh_u2_idx (by omega), sh_u2_idx (by omega), sh_u2_same]
  · rw [sh_u2_idx (by omega), sh_u2_idx (by omega), sh_u2_idx (by omega), sh_u2_idx (by omega), sh_u2_idx (by omega), sh_u2_same]
  · rw [sh_u2_idx (by omega), sh_u2_idx (by omega), sh_u2_idx (by omega), sh_u2_idx (by omega), sh_u2_same]
  · rw [sh_u2_idx (by omega), sh_u2_idx (by omega), sh_u2_idx (by omega), sh_u2_same]
  · rw [sh_u2_idx (by omega), sh_u2_idx (by omega), sh_u2_same]
  · rw [sh_u2_idx (by omega), sh_u2_same]
  · rw [sh_u2_same]
  · rw [sh_u2_idx (by omega), sh_u2_idx (by omega), sh_u2_idx (by omega), sh_u2_idx (by omega), sh_u2_idx (by omega), sh_u2_idx (by omega), sh_u2_idx (by omega), sh_u2_idx (by omega), sh_u2_idx (by omega), sh_u2_idx (by omega), sh_u2_idx (by omega)]
/-- the class has come to the end of its code -/
theorem se_fine {n c2 : Nat} {m : sh_X} (h13 : m.I 41 13 = Int32.ofNat c2) (h10 : m.I 28 10 = Int32.ofNat c2) (hc : c2 ≤ 6000) : sf_78_10 (Int32.ofNat n) m = some (some (), m) := by
  unfold sf_78_10
  refine sh_wend (f := fun q => sf_78_10s q.1 q.2) ?_
  show sf_78_10s (Int32.ofNat n) m = _
  unfold sf_78_10s
  have e : sf_64 (Int32.ofNat c2) m = some false := by
    unfold sf_64
    rw [if_neg (sh_nI0 (by omega)), h10, if_neg (sh_nlt0 c2)]
  rw [h13, e, sh_bc_some]
  by_cases h : Int32.ofNat n < 1000000
  · rw [if_pos h, if_neg (by decide)]
  · rw [if_neg h]
section
variable {N : Nat} {K : Nat → Int32} {P V : Nat → Nat} {A C : Nat → Nat → Int32} {p : Nat → Bool} {pf cf gf w : Nat → Nat} {F ht n c2 g2 : Nat} {mc mm : sh_X}
/-- every FN -/
theorem se_Fzs (hT : sh_Txt N K P V) (hF : F < 256) (hFs : sh_Fs N K V A C ht F pf cf gf) (hH : sh_Hds N K V A C F) (hC : C 28 12 = Int32.ofNat F) (c10 : C 28 10 = Int32.ofNat c2) (c6 : c2 ≤ 6000) (hcf : cf F ≤ c2) (hgf : gf F ≤ 9000) (hpf : pf F ≤ N) : ∀ d f, f + d = F → ∀ g, g < f → se_Fz N K P V A C p pf F c2 g := by
  have up := hFs.up
  have main : ∀ f, f < F → se_Fz N K P V A C p pf F c2 f := by
    intro f
    induction f using Nat.strongRecOn with
    | _ f ih =>
      intro hf
      obtain ⟨h1, h2, h3, h4⟩ := hFs f hf
      have u1 := up (f + 1) (by omega)
      have u0 := up f (by omega)
      refine se_fn hT hH hF hC c10 c6 (fun g hg => ?_) (fun g hg => ih g hg (by omega)) hf h4 (by omega) (by omega) (Nat.le_refl _) (Nat.le_refl _)
      have mono : pf (g + 1) ≤ pf f := by
        have : ∀ d, g + 1 + d ≤ F → pf (g + 1) ≤ pf (g + 1 + d) := by
          intro d
          induction d with
          | zero => intro _; exact Nat.le_refl _
          | succ d ih2 => intro hd; have := ih2 (by omega); have := (hFs (g + 1 + d) (by omega)).1; rw [show g + 1 + (d + 1) = g + 1 + d + 1 by omega]; omega
        have := this (f - (g + 1)) (by omega)
        rw [show g + 1 + (f - (g + 1)) = f by omega] at this
        exact this
      have := hT.mono mono (by omega)
      omega
  intro d f hd g hg
  exact main g (by omega)
/-- the elements of both sides at the end -/
def se_IF (p : Nat → Bool) (D : Nat → Int64) (gs : sh_gL) (n S : Nat → Nat) (mc mm : sh_X) : Prop := ∃ (W : Nat → Nat → Nat) (f : Nat → Nat → Nat → Nat), (∀ X, X < 2 → sh_Ev (13 + 5 * X) (n X) (W X) (f X) mc ∧ sh_sum (W X) (n X) = S X ∧ mm.I 99 X = Int32.ofNat (n X) ∧ mm.I 102 X = Int32.ofNat (S X) ∧ ∀ k, k < n X → mm.I 101 (256 * X + k) = Int32.ofNat (W X k) ∧ ∀ i, i < W X k → 2 ≤ f X k i ∧ f X k i < gs.length ∧ p (f X k i) = sh_b (D (256 * X + k)) i) ∧ ∀ v, 2 ≤ v → v < gs.length → (sh_ga gs v).1 = 0 → ∃ X k i, X < 2 ∧ k < n X ∧ i < W X k ∧ v = f X k i
theorem se_perf (hT : sh_Txt N K P V) (hF : F < 256) (hFs : sh_Fs N K V A C ht F pf cf gf) (hH : sh_Hds N K V A C F) (hC : C 28 12 = Int32.ofNat F) (a36 : A 66 36 = Int32.ofNat n) (w0 : w 0 = pf F) (hIn : sh_In K A C (cf F) n w) (hSl : sh_Sl A (sp_S N K V A C ht) (gf F) g2 0 (A 66 37) (cf F + n) c2 (w n) N) (c10 : C 28 10 = Int32.ofNat c2) (hc2 : cf F + n ≤ c2) (c6 : c2 < 6000) (hwn : w n ≤ N) (hg2 : g2 ≤ 4010) (hgg : gf F ≤ g2)
    (hc : se_c N K P V C [(0, 0, 0), (0, 0, 0)] 2 0 0 0 0 0 0 1 0 0 F mc) (hat : mc.I 41 13 = Int32.ofNat (cf F)) (hE : ∀ x, x = 13 ∨ x = 18 ∨ x = 23 → mc.I x 4 = 0 ∧ mc.I x 5 = 0) (hw : sh_We N K P V mm) (hA : ∀ x, 72 ≤ x → x ≤ 91 → mm.I x = A x) (h31 : mm.I 66 31 = Int32.ofNat F) (h36 : mm.I 66 36 = A 66 36) (h37 : mm.I 66 37 = A 66 37) (hip : se_ip K V w A n (mm.J 103) p) :
    se_bad N P mc mm (sf_78_10 0 mc) (sf_282 mm) ∨
    ∃ mc2 mm2 gs, sf_78_10 0 mc = some (some (), mc2) ∧ sf_282 mm = some (true, mm2) ∧ se_Wf mc mc2 ∧ se_U mm mm2 ∧ sh_GS gs mc2 ∧ sh_gz gs ∧ gs.length ≤ 60000 ∧ se_IF p (mm.J 103) gs (fun X => se_en K V w A X n) (fun X => se_et K V w A X n) mc2 mm2 ∧ (∀ X, X < 2 → ∀ k, k < se_en K V w A X n → mc2.J (16 + 5 * X) k = 0) ∧ se_O p gs mc2 mm2 := by
  have N4 := hT.N4
  have L := fun (x : Nat) => Nat.le_refl x
  have wup : ∀ y, y ≤ n → w 0 + 4 * y ≤ w y ∧ P (w 0) + 5 * y ≤ P (w y) ∧ w y ≤ w n := by
    have dn : ∀ d, d ≤ n → w (n - d) ≤ w n := by
      intro d
      induction d with
      | zero => intro _; exact L _
      | succ d ih =>
        intro hd
        have a := ih (by omega)
        have b := (hIn (n - (d + 1)) (by omega)).1
        rw [show n - (d + 1) + 1 = n - d by omega] at b
        omega
    intro y
    induction y with
    | zero => intro _; have := dn n (L _); rw [Nat.sub_self] at this; omega
    | succ y ih =>
      intro hy
      obtain ⟨a, b, c⟩ := ih (by omega)
      obtain ⟨h4, _, _, _, _, _, hTy⟩ := hIn y (by omega)
      have d := dn (n - (y + 1)) (by omega)
      rw [show n - (n - (y + 1)) = y + 1 by omega] at d
      have m1 := hT.mono (show w y ≤ w y + 2 by omega) (by omega)
      have m2 := hT.PL (w y + 2) (by omega)
      have e : sp_L (K (w y + 2)) = 2 := by rw [hTy.1]; decide
      have m3 := hT.mono (show w y + 2 + 1 ≤ w (y + 1) by omega) (by omega)
      omega
  have wn := wup n (L _)
  have n1000 : n ≤ 1000 := by omega
  have hpf : pf F ≤ N := by omega
  -- the start
  have F0 : ∀ {c : Nat}, c ≠ 66 → c ≠ 99 → c ≠ 102 → (se_i0 mm).I c = mm.I c := fun {c} a b d => se_i0I a b d
  obtain ⟨r1, r2, r3, r4, r5, r6, r7, r8, r9, r10, r11, r12⟩ := se_r0F (m := mm)
  have M0 : se_m N K P V A 0 0 0 0 0 F 0 0 0 true (se_i0 mm) := se_m.mk (hw.same (F0 (by omega) (by omega) (by omega)) (F0 (by omega) (by omega) (by omega)) (F0 (by omega) (by omega) (by omega)) (F0 (by omega) (by omega) (by omega))) (fun x h1 h2 => (F0 (by omega) (by omega) (by omega)).trans (hA x h1 h2)) (by rw [se_i066]; exact r1) (by rw [se_i066]; exact r2) (by rw [se_i066]; exact r3) (by rw [se_i066]; exact r4) (by rw [se_i066, r5]; exact h31) (by rw [se_i066]; exact r6) (by rw [se_i066]; exact r7) (by rw [se_i066]; exact r8) (by rw [se_i066]; exact r9) (by rw [se_i066]; exact r11) (fun _ => rfl)
  have U0 : se_U mm (se_i0 mm) := se_U.mk rfl rfl (fun x h1 h2 => F0 h1 (by omega) (by omega)) (fun x _ _ => rfl) (fun f hf => by rw [se_i066]; exact r12 f hf)
  have J0 : se_J N K V p [(0, 0, 0), (0, 0, 0)] 2 0 0 0 0 1 true mc (se_i0 mm) := by
    refine se_J.mk (fun i hi => absurd hi (by omega)) (fun i j _ hj => absurd hj (by omega)) (fun i _ hi => absurd hi (by omega)) (L _) rfl (by show 1 < 2; omega) ⟨0, fun _ => 0, fun _ _ => 0, ?_, (se_i0z (by omega)).1, (se_i0z (by omega)).2, fun k hk => absurd hk (by omega)⟩
    exact sh_Ev.mk (hE 23 (by omega)).1 (hE 23 (by omega)).2 (by omega) (by show 0 ≤ 1000; omega) (fun k hk => absurd hk (by omega)) (fun k hk => absurd hk (by omega)) (fun k hk => absurd hk (by omega)) (fun k hk => absurd hk (by omega))
  have en0 : ∀ X, se_en K V w A X 0 = 0 := fun _ => rfl
  have et0 : ∀ X, se_et K V w A X 0 = 0 := fun _ => rfl
  have S0 : se_S N K P V A C p w F (cf F) (mm.J 103) mc mm [(0, 0, 0), (0, 0, 0)] 2 0 0 mc (se_i0 mm) := by
    refine se_S.mk hc M0 J0 hat rfl rfl rfl (fun g hg => ?_) ⟨fun _ _ => 0, fun _ _ _ => 0, fun X hX => ?_, fun v h1 h2 => absurd h2 (by show ¬ v < 2; omega)⟩ (fun X _ k hk => absurd hk (by rw [en0]; omega)) rfl (by omega) (by rw [se_i066]; exact r10) (se_Wf.refl mc) U0
    · simp at hg; exact hg
    · have q := hE (13 + 5 * X) (by omega)
      have z := se_i0z (m := mm) (x := X) (by omega)
      refine ⟨sh_Ev.mk q.1 q.2 (by show 0 ≤ 256; omega) (by show 0 ≤ 1000; omega) (fun k hk => absurd hk (Nat.not_lt_zero _)) (fun k hk => absurd hk (Nat.not_lt_zero _)) (fun k hk => absurd hk (Nat.not_lt_zero _)) (fun k hk => absurd hk (Nat.not_lt_zero _)), rfl, z.1, z.2, fun k hk => absurd hk (Nat.not_lt_zero _)⟩
  -- the inputs
  have inputs : ∀ d y gs u tp mc1 mm1, y + d = n → se_S N K P V A C p w F (cf F) (mm.J 103) mc mm gs u y tp mc1 mm1 → sf_78_10 0 mc = sf_78_10 (Int32.ofNat y) mc1 → sf_282 mm = sf_282_87 (Int32.ofNat y) mm1 →
      se_bad N P mc mm (sf_78_10 0 mc) (sf_282 mm) ∨ ∃ gs u tp mc1 mm1, se_S N K P V A C p w F (cf F) (mm.J 103) mc mm gs u n tp mc1 mm1 ∧ sf_78_10 0 mc = sf_78_10 (Int32.ofNat n) mc1 ∧ sf_282 mm = sf_282_87 (Int32.ofNat n) mm1 := by
    intro d
    induction d with
    | zero =>
      intro y gs u tp mc1 mm1 hd S a b
      have : y = n := by omega
      subst this
      exact Or.inr ⟨gs, u, tp, mc1, mm1, S, a, b⟩
    | succ d ih =>
      intro y gs u tp mc1 mm1 hd S a b
      rcases se_inp hT hIn (by omega) (by have := wup (y + 1) (by omega); omega) hip c10 (by omega) (by omega) (h36.trans a36) (by omega) S with bad | ⟨gs2, u2, tp2, mc2, mm2, e1, e2, S2⟩
      · rw [a, b]; exact Or.inl bad
      · exact ih (y + 1) gs2 u2 tp2 mc2 mm2 (by omega) S2 (a.trans e1) (b.trans e2)
  rcases inputs n 0 _ _ _ _ _ (by omega) S0 rfl (se_282 mm) with bad | ⟨gs, u, tp, mc1, mm1, S, ea, eb⟩
  · exact Or.inl bad
  -- the statements
  have glen := S.gl
  have ulen := S.ul
  have wr := se_w2 (K := K) (V := V) (w := w) (A := A) n
  obtain ⟨W, f, IE1, IE2⟩ := S.ie
  have IE1 : ∀ X, X < 2 → sh_Ev (13 + 5 * X) (se_en K V w A X n) (W X) (f X) mc1 ∧ sh_sum (W X) (se_en K V w A X n) = se_et K V w A X n ∧ mm1.I 99 X = Int32.ofNat (se_en K V w A X n) ∧ mm1.I 102 X = Int32.ofNat (se_et K V w A X n) ∧ ∀ k, k < se_en K V w A X n → mm1.I 101 (256 * X + k) = Int32.ofNat (W X k) ∧ ∀ i, i < W X k → 2 ≤ f X k i ∧ f X k i < gs.length ∧ p (f X k i) = sh_b (mm.J 103 (256 * X + k)) i := IE1
  have IE2 : ∀ v, 2 ≤ v → v < gs.length → ∃ X k i, X < 2 ∧ k < se_en K V w A X n ∧ i < W X k ∧ v = f X k i := IE2
  have t0 := (IE1 0 (by omega)).1.t1
  have t1 := (IE1 1 (by omega)).1.t1
  have u0 := (IE1 0 (by omega)).2.1
  have u1 := (IE1 1 (by omega)).2.1
  obtain ⟨G, hG⟩ : ∃ G, gs.length = G + 1 := ⟨gs.length - 1, by omega⟩
  have grep : gs = List.replicate (G + 1) (0, 0, 0) := by rw [← hG]; exact List.eq_replicate_of_mem S.gk
  have sk0 : sh_sk gs (sh_gm G (G + 1)) := by
    have := sh_gm_sk (Z := G + 1) G
    rw [← grep] at this
    exact this
  have wf0 : sh_gw0 (sh_gm G (G + 1)) := sh_gm_wf (by omega) G (L _)
  have gml := sh_gm_len G (G + 1)
  have c1 := S.hc.sk sk0 wf0
  have J1 := S.hJ.sk sk0
  have mo1 := hT.mono (show w n ≤ N by omega) (L _)
  have mo2 := hT.mono (show pf F ≤ w n by omega) hwn
  have PN := hT.PN
  have Fz := se_Fzs (p := p) hT hF hFs hH hC c10 (by omega) (by omega) (by omega) hpf 0 F (by omega)
  have hPm : ∀ g, g < F → P (pf (g + 1)) ≤ P (pf F) := fun g hg => by
    have u := hFs.up (g + 1) (by omega)
    have := hT.mono u.2.1 hpf
    omega
  have LB := se_LBof (p := p) (pf := pf) (F := F) (c2 := c2) (kn := F) hT (se_stmt hT hH hF hC hPm Fz ht) (fun _ _ _ _ _ _ _ _ H => (sh_S_e H).2.2.1) hSl (by omega) (L _) (L _)
  have tp_ := S.tp_
  have md1 : sf_282 mm = sh_bn (sf_290 (sq_279 (996 + 3)) (A 66 37) mm1) fun r2 m12 => some (r2, m12) := by
    rw [eb]
    unfold sf_282_87
    refine se_whileU (f := fun q => sf_282_87s q.1 q.2) ?_
    show sf_282_87s (Int32.ofNat n) mm1 = _
    unfold sf_282_87s
    have l36 : mm1.I 66 36 = Int32.ofNat n := (S.uu.F 36 (by omega)).trans (h36.trans a36)
    have l37 : mm1.I 66 37 = A 66 37 := (S.uu.F 37 (by omega)).trans h37
    rw [l36, if_neg (sh_nlt0 n), l37]
    show (sh_bn (sf_290 (sq_279 999) (A 66 37) mm1) _) = _
    cases sf_290 (sq_279 999) (A 66 37) mm1 with
    | none => rfl
    | some r => rfl
  rcases LB.run (n := n) (dq := 996) (bb := P (w n) - P (pf F)) (sg := 0) (un := 0) hT c1 S.hm J1 S.at_ S.w73 (fun _ => se_Bd.mk (by omega) (by omega) (by omega) (by omega) (by omega) (by omega) (by omega) (by omega) (by omega) (by omega) (by omega) (by omega) (by omega) (by omega) (by omega) (Or.inr ⟨rfl, rfl, rfl⟩)) (by omega) (by omega) (by omega) (by omega) c10 (by omega) (by omega) (Or.inr ⟨rfl, rfl⟩) with bad | ⟨e', n2, mc2, mm2, u2, sp2, tp2, q2, a1, a2, O⟩
  · left
    obtain ⟨kk, tt, x, y, z1, z2, z3, z4, z5⟩ := bad
    exact ⟨kk, tt, x, y, z1, by rw [ea, z2], S.ff.thenW z3, by rw [md1, z4]; rfl, S.uu.trans z5⟩
  right
  have g14 := O.g14
  have gw := O.hc.rs.1.wf
  have skF := sh_cl_sk (e' ++ sh_gm G (G + 1))
  have wfF := sh_cl_wf gw
  have lenF : (sh_clp (e' ++ sh_gm G (G + 1))).length = (e' ++ sh_gm G (G + 1)).length := skF.len
  have lenE : (e' ++ sh_gm G (G + 1)).length = e'.length + (G + 1) := by rw [List.length_append, gml]
  refine ⟨mc2, mm2, sh_clp (e' ++ sh_gm G (G + 1)), ?_, by rw [md1, a2]; rfl, S.ff.trans O.hF.Wf, S.uu.trans O.hG.U, O.hc.rs.1.sk skF wfF, sh_cl_z _, by omega, ⟨W, f, fun X hX => ?_, fun v h1 h2 h3 => ?_⟩, fun X hX k hk => ?_, O.hJ.ou.sk skF⟩
  · rw [ea, a1]
    exact se_fine O.at_ ((congrFun (O.hc.cc 28 (by omega) (by omega)) 10).trans c10) (by omega)
  · obtain ⟨q1, q2, q3, q4, q5⟩ := IE1 X hX
    have k13 : ∀ c, 13 ≤ c → c < 23 → mc2.I c = mc1.I c := fun c h1 h2 => O.hF.I c (by omega) (by omega)
    have xi := O.hG.xi X hX
    refine ⟨q1.cong (k13 _ (by omega) (by omega)) (k13 _ (by omega) (by omega)) (k13 _ (by omega) (by omega)) (k13 _ (by omega) (by omega)), q2, xi.1.trans q3, xi.2.trans q4, fun k hk => ?_⟩
    have kn := q1.n1
    obtain ⟨x1, x2⟩ := q5 k hk
    refine ⟨(O.hG.xj (256 * X + k) (by have hk : k < se_en K V w A X n := hk; omega)).trans x1, fun i hi => ?_⟩
    obtain ⟨y1, y2, y3⟩ := x2 i hi
    exact ⟨y1, by omega, y3⟩
  · -- a gate of no operands is an input
    have hv : v < (e' ++ sh_gm G (G + 1)).length := by omega
    have k0 : (sh_ga (e' ++ sh_gm G (G + 1)) v).1 = 0 := by
      rcases skF.ga v hv with q | q
      · rw [← q]; exact h3
      · exact q.1
    have z := (sh_gw0_z gw hv k0).2.2 (by omega)
    have gh : sh_gh (e' ++ sh_gm G (G + 1)) = 4294967296 * (G + 1) := by
      unfold sh_gh
      rw [sh_ga_ext (by rw [gml]; omega)]
      exact sh_gm_gh G (G + 1)
    rw [gh] at z
    exact IE2 v h1 (by omega)
  · rw [O.hF.J (16 + 5 * X) (by omega) (by omega) (by omega)]
    exact S.jz X hX k hk
end
