/-! EVALUATION: inputs: one of them -/
theorem sh_Ev.cong {x n : Nat} {W : Nat → Nat} {f : Nat → Nat → Nat} {m m2 : sh_X} (h : sh_Ev x n W f m) (h0 : m2.I x = m.I x) (h1 : m2.I (x + 1) = m.I (x + 1)) (h2 : m2.I (x + 2) = m.I (x + 2)) (h4 : m2.I (x + 4) = m.I (x + 4)) : sh_Ev x n W f m2 :=
  sh_Ev.mk (by rw [h0]; exact h.am) (by rw [h0]; exact h.to) h.n1 h.t1 (fun k hk => by rw [h1]; exact h.fi k hk) (fun k hk => by rw [h2]; exact h.wi k hk) h.w1 (fun k hk i hi => by rw [h4]; exact h.ws k hk i hi)
/-- is there room for a value's elements? -/
theorem se_95 {x n0 b e : Nat} {W : Nat → Nat} {f : Nat → Nat → Nat} {m : sh_X} (E : sh_Ev x n0 W f m) (hb : b ≤ 64) (he : e ≤ 32) : sf_95 x (Int32.ofNat e) (Int32.ofNat b) m = some (decide (n0 + e ≤ 256 ∧ sh_sum W n0 + e * b ≤ 1000)) := by
  have o1 := E.n1
  have o2 := E.t1
  have mb : e * b ≤ 32 * 64 := Nat.mul_le_mul he hb
  unfold sf_95
  rw [E.am, E.to, sh_nIadd, sh_nImul, sh_nIadd]
  by_cases h1 : 256 < n0 + e
  · rw [if_pos (show (256 : Int32) < Int32.ofNat (n0 + e) from (sh_nIlt (a := 256) (by omega) (by omega)).mpr h1), decide_eq_false (by omega)]
  · rw [if_neg (show ¬ (256 : Int32) < Int32.ofNat (n0 + e) from fun r => h1 ((sh_nIlt (a := 256) (by omega) (by omega)).mp r))]
    by_cases h2 : 1000 < sh_sum W n0 + e * b
    · rw [if_pos (show (1000 : Int32) < Int32.ofNat (sh_sum W n0 + e * b) from (sh_nIlt (a := 1000) (by omega) (by omega)).mpr h2), decide_eq_false (by omega)]
    · rw [if_neg (show ¬ (1000 : Int32) < Int32.ofNat (sh_sum W n0 + e * b) from fun r => h2 ((sh_nIlt (a := 1000) (by omega) (by omega)).mp r)), decide_eq_true (by omega)]
theorem se_287 {X n0 S0 b nn : Nat} {m : sh_X} (hX : X < 3) (h99 : m.I 99 X = Int32.ofNat n0) (h102 : m.I 102 X = Int32.ofNat S0) (o1 : n0 ≤ 256) (o2 : S0 ≤ 1000) (hb : b ≤ 64) (hn : nn ≤ 32) : sf_287 (Int32.ofNat X) (Int32.ofNat b) (Int32.ofNat nn) m = some (!decide (n0 + sh_mx nn ≤ 256 ∧ S0 + sh_mx nn * b ≤ 1000)) := by
  have mxl := sh_mx_le hn
  have mb : sh_mx nn * b ≤ 32 * 64 := Nat.mul_le_mul mxl hb
  have oX : sh_okb (Int32.ofNat X) 3 = true := sh_okn' hX (by omega)
  have e9 : sf_287_9 (Int32.ofNat X) (Int32.ofNat b) (Int32.ofNat (sh_mx nn)) m = some (!decide (n0 + sh_mx nn ≤ 256 ∧ S0 + sh_mx nn * b ≤ 1000)) := by
    unfold sf_287_9 sf_287_43
    rw [if_pos oX, sh_nIc (by omega), h99, h102, sh_nImul, sh_nIadd, sh_nIadd]
    by_cases h2 : 1000 < S0 + sh_mx nn * b
    · rw [if_pos (show (1000 : Int32) < Int32.ofNat (S0 + sh_mx nn * b) from (sh_nIlt (a := 1000) (by omega) (by omega)).mpr h2), decide_eq_false (by omega)]
      rfl
    · rw [if_neg (show ¬ (1000 : Int32) < Int32.ofNat (S0 + sh_mx nn * b) from fun r => h2 ((sh_nIlt (a := 1000) (by omega) (by omega)).mp r)), if_pos oX]
      by_cases h1 : 256 < n0 + sh_mx nn
      · rw [if_pos (show (256 : Int32) < Int32.ofNat (n0 + sh_mx nn) from (sh_nIlt (a := 256) (by omega) (by omega)).mpr h1), decide_eq_false (by omega)]
        rfl
      · rw [if_neg (show ¬ (256 : Int32) < Int32.ofNat (n0 + sh_mx nn) from fun r => h1 ((sh_nIlt (a := 256) (by omega) (by omega)).mp r)), decide_eq_true (by omega)]
        rfl
  unfold sf_287
  by_cases h0 : nn = 0
  · rw [if_pos (by rw [h0]; rfl), ← e9, h0]
    rfl
  · rw [if_neg (show ¬ Int32.ofNat nn = 0 from fun r => h0 ((sh_nIeq (b := 0) (by omega) (by omega)).mp r)), ← e9, sh_mx_pos (by omega)]
section
variable {N : Nat} {K : Nat → Int32} {P V : Nat → Nat} {A C : Nat → Nat → Int32} {p : Nat → Bool} {w : Nat → Nat} {F i0 c2 n : Nat} {D : Nat → Int64} {mc0 mm0 : sh_X} {gs : sh_gL} {u y tp q B M cw : Nat} {ac : Bool} {mc mm : sh_X}
/-- elements of the inputs are made -/
theorem se_J.ef {x : Nat} {mc2 : sh_X} (h : se_J N K V p gs u q B M tp cw ac mc mm) (f : sh_Ef x mc mc2) (hx : x = 13 ∨ x = 18) : se_J N K V p gs u q B M tp cw ac mc2 mm := by
  have k : ∀ c, 23 ≤ c → mc2.I c = mc.I c := fun c hc => f.I c (by omega) (by omega) (by omega) (by omega)
  refine se_J.mk (fun i hi => ?_) h.sep h.nM h.lM h.ac_ h.lcw ?_
  · obtain ⟨t, k', b, n, a, r1, r2, r3, r4, r5, r6, r7, r8, r9⟩ := h.nm i hi
    refine ⟨t, k', b, n, a, r1, r2, by rw [k 54 (by omega)]; exact r3, r4, r5, r6, r7, r8, ?_⟩
    rcases r9 with ⟨x1, x2, x3, x4, x5⟩ | ⟨x1, x2, x3, w, x4, x5⟩
    · exact Or.inl ⟨x1, x2, by rw [k 55 (by omega)]; exact x3, by rw [f.J 57 (by omega)]; exact x4, x5⟩
    · exact Or.inr ⟨x1, by rw [k 55 (by omega)]; exact x2, x3, w, by rw [k 56 (by omega)]; exact x4, x5.keep (e := []) (Nat.le_refl _) (fun j _ => by rw [k 45 (by omega)])⟩
  · obtain ⟨n, W, f', o1, o2, o3, o4⟩ := h.ou
    exact ⟨n, W, f', o1.cong (k 23 (by omega)) (k 24 (by omega)) (k 25 (by omega)) (k 27 (by omega)), o2, o3, o4⟩
/-- the model's counts of the inputs change -/
theorem se_J.sw {mm2 : sh_X} (h : se_J N K V p gs u q B M tp cw ac mc mm) (hI : ∀ c, c < 99 ∨ 102 < c → mm2.I c = mm.I c) (hJ : mm2.J = mm.J) (h99 : mm2.I 99 2 = mm.I 99 2) (h102 : mm2.I 102 2 = mm.I 102 2) (h101 : ∀ k, mm2.I 101 (512 + k) = mm.I 101 (512 + k)) : se_J N K V p gs u q B M tp cw ac mc mm2 := by
  have ea : ∀ i, se_a mm2 i = se_a mm i ∧ se_e mm2 i = se_e mm i := fun i => by
    unfold se_e se_a
    rw [hI 96 (by omega), hI 97 (by omega)]
    exact ⟨rfl, rfl⟩
  refine se_J.mk (fun i hi => ?_) (fun i j a b => by rw [(ea i).2, (ea j).1]; exact h.sep i j a b) (fun i a b => by rw [(ea i).1]; exact h.nM i a b) h.lM h.ac_ h.lcw ?_
  · obtain ⟨t, k', b, n, a, r1, r2, r3, r4, r5, r6, r7, r8, r9⟩ := h.nm i hi
    refine ⟨t, k', b, n, a, r1, r2, r3, by rw [hI 93 (by omega)]; exact r4, by rw [hI 94 (by omega)]; exact r5, by rw [hI 96 (by omega)]; exact r6, by rw [hI 97 (by omega)]; exact r7, r8, ?_⟩
    rw [hJ, hI 95 (by omega)]
    exact r9
  · obtain ⟨n, W, f', o1, o2, o3, o4⟩ := h.ou
    exact ⟨n, W, f', o1, h99.trans o2, h102.trans o3, fun k hk => by rw [h101, hJ]; exact o4 k hk⟩
/-- behind y inputs -/
def se_S (N : Nat) (K : Nat → Int32) (P V : Nat → Nat) (A C : Nat → Nat → Int32) (p : Nat → Bool) (w : Nat → Nat) (F i0 : Nat) (D : Nat → Int64) (mc0 mm0 : sh_X) (gs : sh_gL) (u y tp : Nat) (mc mm : sh_X) : Prop := (se_c N K P V C gs u 0 y 0 0 0 0 1 0 0 F mc) ∧ (se_m N K P V A y 0 0 0 0 F 0 tp 0 true mm) ∧ (se_J N K V p gs u y 0 0 tp 1 true mc mm) ∧ (mc.I 41 13 = Int32.ofNat (i0 + y)) ∧ (gs.length = se_wr K V w y) ∧ (u = se_wr K V w y) ∧ (sh_gh gs = 0) ∧ (∀ g ∈ gs, g = (0, 0, 0)) ∧ (se_IE p D gs (fun X => se_en K V w A X y) (fun X => se_et K V w A X y) mc mm) ∧ (∀ X, X < 2 → ∀ k, k < se_en K V w A X y → mc.J (16 + 5 * X) k = 0) ∧ (mm.J 103 = D) ∧ (tp ≤ 32 * y) ∧ (mm.I 66 73 = 0) ∧ (se_Wf mc0 mc) ∧ (se_U mm0 mm)
theorem se_S.hc {N : Nat} {K : Nat → Int32} {P V : Nat → Nat} {A C : Nat → Nat → Int32} {p : Nat → Bool} {w : Nat → Nat} {F i0 : Nat} {D : Nat → Int64} {mc0 mm0 : sh_X} {gs : sh_gL} {u y tp : Nat} {mc mm : sh_X} (h : se_S N K P V A C p w F i0 D mc0 mm0 gs u y tp mc mm) : se_c N K P V C gs u 0 y 0 0 0 0 1 0 0 F mc := h.1
theorem se_S.hm {N : Nat} {K : Nat → Int32} {P V : Nat → Nat} {A C : Nat → Nat → Int32} {p : Nat → Bool} {w : Nat → Nat} {F i0 : Nat} {D : Nat → Int64} {mc0 mm0 : sh_X} {gs : sh_gL} {u y tp : Nat} {mc mm : sh_X} (h : se_S N K P V A C p w F i0 D mc0 mm0 gs u y tp mc mm) : se_m N K P V A y 0 0 0 0 F 0 tp 0 true mm := h.2.1
theorem se_S.hJ {N : Nat} {K : Nat → Int32} {P V : Nat → Nat} {A C : Nat → Nat → Int32} {p : Nat → Bool} {w : Nat → Nat} {F i0 : Nat} {D : Nat → Int64} {mc0 mm0 : sh_X} {gs : sh_gL} {u y tp : Nat} {mc mm : sh_X} (h : se_S N K P V A C p w F i0 D mc0 mm0 gs u y tp mc mm) : se_J N K V p gs u y 0 0 tp 1 true mc mm := h.2.2.1
theorem se_S.at_ {N : Nat} {K : Nat → Int32} {P V : Nat → Nat} {A C : Nat → Nat → Int32} {p : Nat → Bool} {w : Nat → Nat} {F i0 : Nat} {D : Nat → Int64} {mc0 mm0 : sh_X} {gs : sh_gL} {u y tp : Nat} {mc mm : sh_X} (h : se_S N K P V A C p w F i0 D mc0 mm0 gs u y tp mc mm) : mc.I 41 13 = Int32.ofNat (i0 + y) := h.2.2.2.1
theorem se_S.gl {N : Nat} {K : Nat → Int32} {P V : Nat → Nat} {A C : Nat → Nat → Int32} {p : Nat → Bool} {w : Nat → Nat} {F i0 : Nat} {D : Nat → Int64} {mc0 mm0 : sh_X} {gs : sh_gL} {u y tp : Nat} {mc mm : sh_X} (h : se_S N K P V A C p w F i0 D mc0 mm0 gs u y tp mc mm) : gs.length = se_wr K V w y := h.2.2.2.2.1
theorem se_S.ul {N : Nat} {K : Nat → Int32} {P V : Nat → Nat} {A C : Nat → Nat → Int32} {p : Nat → Bool} {w : Nat → Nat} {F i0 : Nat} {D : Nat → Int64} {mc0 mm0 : sh_X} {gs : sh_gL} {u y tp : Nat} {mc mm : sh_X} (h : se_S N K P V A C p w F i0 D mc0 mm0 gs u y tp mc mm) : u = se_wr K V w y := h.2.2.2.2.2.1
theorem se_S.gh {N : Nat} {K : Nat → Int32} {P V : Nat → Nat} {A C : Nat → Nat → Int32} {p : Nat → Bool} {w : Nat → Nat} {F i0 : Nat} {D : Nat → Int64} {mc0 mm0 : sh_X} {gs : sh_gL} {u y tp : Nat} {mc mm : sh_X} (h : se_S N K P V A C p w F i0 D mc0 mm0 gs u y tp mc mm) : sh_gh gs = 0 := h.2.2.2.2.2.2.1
theorem se_S.gk {N : Nat} {K : Nat → Int32} {P V : Nat → Nat} {A C : Nat → Nat → Int32} {p : Nat → Bool} {w : Nat → Nat} {F i0 : Nat} {D : Nat → Int64} {mc0 mm0 : sh_X} {gs : sh_gL} {u y tp : Nat} {mc mm : sh_X} (h : se_S N K P V A C p w F i0 D mc0 mm0 gs u y tp mc mm) : ∀ g ∈ gs, g = (0, 0, 0) := h.2.2.2.2.2.2.2.1
theorem se_S.ie {N : Nat} {K : Nat → Int32} {P V : Nat → Nat} {A C : Nat → Nat → Int32} {p : Nat → Bool} {w : Nat → Nat} {F i0 : Nat} {D : Nat → Int64} {mc0 mm0 : sh_X} {gs : sh_gL} {u y tp : Nat} {mc mm : sh_X} (h : se_S N K P V A C p w F i0 D mc0 mm0 gs u y tp mc mm) : se_IE p D gs (fun X => se_en K V w A X y) (fun X => se_et K V w A X y) mc mm := h.2.2.2.2.2.2.2.2.1
theorem se_S.jz {N : Nat} {K : Nat → Int32} {P V : Nat → Nat} {A C : Nat → Nat → Int32} {p : Nat → Bool} {w : Nat → Nat} {F i0 : Nat} {D : Nat → Int64} {mc0 mm0 : sh_X} {gs : sh_gL} {u y tp : Nat} {mc mm : sh_X} (h : se_S N K P V A C p w F i0 D mc0 mm0 gs u y tp mc mm) : ∀ X, X < 2 → ∀ k, k < se_en K V w A X y → mc.J (16 + 5 * X) k = 0 := h.2.2.2.2.2.2.2.2.2.1
theorem se_S.dd {N : Nat} {K : Nat → Int32} {P V : Nat → Nat} {A C : Nat → Nat → Int32} {p : Nat → Bool} {w : Nat → Nat} {F i0 : Nat} {D : Nat → Int64} {mc0 mm0 : sh_X} {gs : sh_gL} {u y tp : Nat} {mc mm : sh_X} (h : se_S N K P V A C p w F i0 D mc0 mm0 gs u y tp mc mm) : mm.J 103 = D := h.2.2.2.2.2.2.2.2.2.2.1
theorem se_S.tp_ {N : Nat} {K : Nat → Int32} {P V : Nat → Nat} {A C : Nat → Nat → Int32} {p : Nat → Bool} {w : Nat → Nat} {F i0 : Nat} {D : Nat → Int64} {mc0 mm0 : sh_X} {gs : sh_gL} {u y tp : Nat} {mc mm : sh_X} (h : se_S N K P V A C p w F i0 D mc0 mm0 gs u y tp mc mm) : tp ≤ 32 * y := h.2.2.2.2.2.2.2.2.2.2.2.1
theorem se_S.w73 {N : Nat} {K : Nat → Int32} {P V : Nat → Nat} {A C : Nat → Nat → Int32} {p : Nat → Bool} {w : Nat → Nat} {F i0 : Nat} {D : Nat → Int64} {mc0 mm0 : sh_X} {gs : sh_gL} {u y tp : Nat} {mc mm : sh_X} (h : se_S N K P V A C p w F i0 D mc0 mm0 gs u y tp mc mm) : mm.I 66 73 = 0 := h.2.2.2.2.2.2.2.2.2.2.2.2.1
theorem se_S.ff {N : Nat} {K : Nat → Int32} {P V : Nat → Nat} {A C : Nat → Nat → Int32} {p : Nat → Bool} {w : Nat → Nat} {F i0 : Nat} {D : Nat → Int64} {mc0 mm0 : sh_X} {gs : sh_gL} {u y tp : Nat} {mc mm : sh_X} (h : se_S N K P V A C p w F i0 D mc0 mm0 gs u y tp mc mm) : se_Wf mc0 mc := h.2.2.2.2.2.2.2.2.2.2.2.2.2.1
theorem se_S.uu {N : Nat} {K : Nat → Int32} {P V : Nat → Nat} {A C : Nat → Nat → Int32} {p : Nat → Bool} {w : Nat → Nat} {F i0 : Nat} {D : Nat → Int64} {mc0 mm0 : sh_X} {gs : sh_gL} {u y tp : Nat} {mc mm : sh_X} (h : se_S N K P V A C p w F i0 D mc0 mm0 gs u y tp mc mm) : se_U mm0 mm := h.2.2.2.2.2.2.2.2.2.2.2.2.2.2
theorem se_S.mk {N : Nat} {K : Nat → Int32} {P V : Nat → Nat} {A C : Nat → Nat → Int32} {p : Nat → Bool} {w : Nat → Nat} {F i0 : Nat} {D : Nat → Int64} {mc0 mm0 : sh_X} {gs : sh_gL} {u y tp : Nat} {mc mm : sh_X} (hc : se_c N K P V C gs u 0 y 0 0 0 0 1 0 0 F mc) (hm : se_m N K P V A y 0 0 0 0 F 0 tp 0 true mm) (hJ : se_J N K V p gs u y 0 0 tp 1 true mc mm) (at_ : mc.I 41 13 = Int32.ofNat (i0 + y)) (gl : gs.length = se_wr K V w y) (ul : u = se_wr K V w y) (gh : sh_gh gs = 0) (gk : ∀ g ∈ gs, g = (0, 0, 0)) (ie : se_IE p D gs (fun X => se_en K V w A X y) (fun X => se_et K V w A X y) mc mm) (jz : ∀ X, X < 2 → ∀ k, k < se_en K V w A X y → mc.J (16 + 5 * X) k = 0) (dd : mm.J 103 = D) (tp_ : tp ≤ 32 * y) (w73 : mm.I 66 73 = 0) (ff : se_Wf mc0 mc) (uu : se_U mm0 mm) : se_S N K P V A C p w F i0 D mc0 mm0 gs u y tp mc mm := ⟨hc, hm, hJ, at_, gl, ul, gh, gk, ie, jz, dd, tp_, w73, ff, uu⟩
theorem se_inp (hT : sh_Txt N K P V) (hIn : sh_In K A C i0 n w) (hy : y < n) (hwN : w (y + 1) ≤ N) (hip : se_ip K V w A n D p) (c10 : C 28 10 = Int32.ofNat c2) (c6 : c2 ≤ 6000) (hi : i0 + y < c2) (h36 : mm0.I 66 36 = Int32.ofNat n) (hn : n < 5000) (S : se_S N K P V A C p w F i0 D mc0 mm0 gs u y tp mc mm) :
    se_bad N P mc0 mm0 (sf_78_10 (Int32.ofNat y) mc) (sf_282_87 (Int32.ofNat y) mm) ∨
    ∃ gs2 u2 tp2 mc2 mm2, sf_78_10 (Int32.ofNat y) mc = sf_78_10 (Int32.ofNat (y + 1)) mc2 ∧ sf_282_87 (Int32.ofNat y) mm = sf_282_87 (Int32.ofNat (y + 1)) mm2 ∧ se_S N K P V A C p w F i0 D mc0 mm0 gs2 u2 (y + 1) tp2 mc2 mm2 := by
  have N4 := hT.N4
  have L := fun (x : Nat) => Nat.le_refl x
  obtain ⟨h4, cA, wA, hk, k1, a89, hTy⟩ := hIn y hy
  obtain ⟨W, f, IE1, IE2⟩ := S.ie
  have IE1 : ∀ X, X < 2 → sh_Ev (13 + 5 * X) (se_en K V w A X y) (W X) (f X) mc ∧ sh_sum (W X) (se_en K V w A X y) = se_et K V w A X y ∧ mm.I 99 X = Int32.ofNat (se_en K V w A X y) ∧ mm.I 102 X = Int32.ofNat (se_et K V w A X y) ∧ ∀ k, k < se_en K V w A X y → mm.I 101 (256 * X + k) = Int32.ofNat (W X k) ∧ ∀ i, i < W X k → 2 ≤ f X k i ∧ f X k i < gs.length ∧ p (f X k i) = sh_b (D (256 * X + k)) i := IE1
  have IE2 : ∀ v, 2 ≤ v → v < gs.length → ∃ X k i, X < 2 ∧ k < se_en K V w A X y ∧ i < W X k ∧ v = f X k i := IE2
  obtain ⟨X, hX⟩ : ∃ X, se_pa A y = X := ⟨_, rfl⟩
  have X2 : X < 2 := by have := se_pa1 (A := A) y; omega
  have a88 : A 88 y = Int32.ofNat X := by
    rcases hk with ⟨_, r⟩ | ⟨_, r⟩
    · rw [← hX]; unfold se_pa; rw [if_pos r, r]; rfl
    · rw [← hX]; unfold se_pa; rw [if_neg (by rw [r]; decide), r]; rfl
  have kX : (if K (w y) = 4 then 13 else 18) = 13 + 5 * X := by
    rcases hk with ⟨r1, r⟩ | ⟨r1, r⟩
    · rw [if_pos r1, ← hX]; unfold se_pa; rw [if_pos r]
    · rw [if_neg (by rw [r1]; decide), ← hX]; unfold se_pa; rw [if_neg (by rw [r]; decide)]
  obtain ⟨E, eS, e99, e102, eel⟩ := IE1 X X2
  have E1 := E.n1
  have E2 := E.t1
  have s0 := (IE1 0 (by omega)).1.n1
  have s1 := (IE1 1 (by omega)).1.n1
  have t0 := (IE1 0 (by omega)).1.t1
  have t1 := (IE1 1 (by omega)).1.t1
  have u0 := (IE1 0 (by omega)).2.1
  have u1 := (IE1 1 (by omega)).2.1
  have yn := se_n2 (K := K) (V := V) (w := w) (A := A) y
  have wr := se_w2 (K := K) (V := V) (w := w) (A := A) y
  have gl := S.gl
  have ul := S.ul
  have tp_ := S.tp_
  have oy : sh_okb (Int32.ofNat y) 1400 = true := sh_okn' (by omega) (by omega)
  have m88 : mm.I 88 y = Int32.ofNat X := by rw [S.hm.aa 88 (by omega) (by omega)]; exact a88
  have m89 : mm.I 89 y = Int32.ofNat (w y + 1) := by rw [S.hm.aa 89 (by omega) (by omega)]; exact a89
  have m90 : mm.I 90 y = A 90 y := by rw [S.hm.aa 90 (by omega) (by omega)]
  have m91 : mm.I 91 y = A 91 y := by rw [S.hm.aa 91 (by omega) (by omega)]
  have ot : sh_okb (Int32.ofNat (w y + 1)) 4002 = true := sh_okn' (by omega) (by omega)
  have m69 : mm.I 69 (w y + 1) = Int32.ofNat (P (w y + 1)) := S.hm.we.at (by omega)
  -- the class
  have at1 := S.hc.at (n := y) (by omega) S.at_ c10 hi c6 cA wA rfl
  have c1 := S.hc.nx (i := i0 + y + 1)
  have F1 : ∀ {u z q fr cl : Nat}, se_F u z q fr cl mc (se_nx (i0 + y + 1) mc) := fun {u z q fr cl} => se_nxFr
  have cl1 : sf_78_10 (Int32.ofNat y) mc = se_go y (sf_91_23 (Int32.ofNat (w y)) (13 + 5 * X) (se_nx (i0 + y + 1) mc)) := by
    rw [se_a1 at1]
    unfold sf_91
    rw [sh_46 c1.wc N4 (show w y ≤ N by omega), sh_bc_some, ← kX]
    by_cases r : K (w y) = 4
    · rw [if_pos r, if_pos r]
    · rw [if_neg r, if_neg r]
  have J1 : se_J N K V p gs u y 0 0 tp 1 true (se_nx (i0 + y + 1) mc) mm := S.hJ.keep (e := []) (z := 0) (fr := 0) (cl := 0) (un := 0) (li := 0) F1 (se_G.refl mm) (L _) (L _)
  -- the model
  have l36 : mm.I 66 36 = Int32.ofNat n := (S.uu.F 36 (by omega)).trans h36
  have st : ∀ bo m, sf_283 (Int32.ofNat y) mm = some (bo, m) → sf_282_87 (Int32.ofNat y) mm = if bo = true then sf_282_87 (Int32.ofNat (y + 1)) m else some (false, m) := by
    intro bo m hb
    have e : sf_282_87s (Int32.ofNat y) mm = if bo = true then some (.inl (Int32.ofNat (y + 1), m)) else some (.inr (false, m)) := by
      unfold sf_282_87s
      rw [l36, if_pos ((sh_nIlt (by omega) (by omega)).mpr hy), hb, sh_bn_some, sh_nI1]
    unfold sf_282_87
    cases bo with
    | true => rw [if_pos rfl]; exact sh_wstep (f := fun q => sf_282_87s q.1 q.2) e
    | false => rw [if_neg (by decide)]; exact sh_wend (f := fun q => sf_282_87s q.1 q.2) e
  have fin : ∀ {kk : Int32} {tt : Nat} {x z : sh_X}, tt ≤ N → sf_91_23 (Int32.ofNat (w y)) (13 + 5 * X) (se_nx (i0 + y + 1) mc) = some (none, sh_flt kk (Int32.ofNat (P tt)) x) → se_W mc x → sf_283 (Int32.ofNat y) mm = some (false, sh_mft kk (Int32.ofNat (P tt)) z) → se_U mm z → se_bad N P mc0 mm0 (sf_78_10 (Int32.ofNat y) mc) (sf_282_87 (Int32.ofNat y) mm) := by
    intro kk tt x z r1 r2 r3 r4 r5
    exact ⟨kk, tt, x, z, r1, by rw [cl1, r2]; rfl, S.ff.thenW r3, by rw [st _ _ r4]; rfl, S.uu.trans r5⟩
  have n83 := sh_83 hT c1.wc (show w y + 1 ≤ N by omega) k1
  have t91 : K (w y + 2 + 1) = 91 → K (w y + 2 + 2) = 2 := by
    intro r
    rcases hTy.2.2 with ⟨q, _⟩ | ⟨_, q, _⟩
    · exact absurd r q
    · exact q
  have i2 : Int32.ofNat (w y) + 2 = Int32.ofNat (w y + 2) := by rw [show (2 : Int32) = Int32.ofNat 2 from rfl, sh_nIadd]
  have i1 : Int32.ofNat (w y) + 1 = Int32.ofNat (w y + 1) := sh_nI1
  rcases sh_86 hT c1.wc (show w y + 2 + 2 ≤ N by omega) hTy.1 t91 (by have := c1.Tl; omega) with ⟨tw, e86⟩ | ⟨tw, e86⟩
  rotate_left
  · rcases sh_280 hT S.hm.we (show w y + 2 + 2 ≤ N by omega) hTy with ⟨tw', _⟩ | ⟨_, e280⟩
    · exact absurd tw' tw
    · refine Or.inl (fin (kk := 4) (x := se_nx (i0 + y + 1) mc) (z := mm) (show w y + 2 + 2 ≤ N by omega) ?_ (F1 (u := 0) (z := 0) (q := 0) (fr := 0) (cl := 0) |>.W c1.rs) ?_ (se_U.refl mm))
      · unfold sf_91_23
        rw [i2, e86]
        rfl
      · unfold sf_283
        rw [if_pos oy, if_pos oy, sh_nIc (by omega), m91, e280]
        rfl
  have e280 : sf_280 (A 91 y) mm = some (true, mm) := by
    rcases sh_280 hT S.hm.we (show w y + 2 + 2 ≤ N by omega) hTy with ⟨_, r⟩ | ⟨q, _⟩
    · exact r
    · exact absurd tw q
  obtain ⟨k, b, nn, x, T1, T2, T3, T4, T5⟩ := se_tyw hT hTy tw (by omega)
  have b2 := T1.b2
  have b1 := T1.b1
  have n32 := T1.n2
  have mxl := sh_mx_le n32
  have cl2 : ∀ r, sf_92 (Int32.ofNat (V (w y + 1))) (se_nx (i0 + y + 1) mc) = some r → sf_91_23 (Int32.ofNat (w y)) (13 + 5 * X) (se_nx (i0 + y + 1) mc) = if r = -1 then sf_91_64 (Int32.ofNat (w y)) (13 + 5 * X) (Int32.ofNat (sh_te k b nn)) (se_nx (i0 + y + 1) mc) else some (none, sh_flt 3 (Int32.ofNat (P (w y + 1))) (se_nx (i0 + y + 1) mc)) := by
    intro r hr
    unfold sf_91_23
    rw [i2, e86]
    show (sh_bc (sf_83 (Int32.ofNat (w y) + 1) (se_nx (i0 + y + 1) mc)) _) = _
    rw [i1, n83, sh_bc_some, hr, sh_bc_some, se_fail N4 c1 (by omega), T2]
    rfl
  have e283 : ∀ r, sf_284 (Int32.ofNat (w y + 1)) mm = some r → sf_283 (Int32.ofNat y) mm = if r < 0 then (sh_bc (sf_285 (A 90 y) mm) fun r3 => sh_bc (sf_286 (A 91 y) (mm.T, sh_u2 (sh_u2 mm.I 66 43 (r3 / 64)) 66 44 ((r3 - r3 / 64 * 64) + 1), mm.J, mm.s)) fun r4 => sh_bc (sf_287 (Int32.ofNat X) ((r3 - r3 / 64 * 64) + 1) r4 (mm.T, sh_u2 (sh_u2 (sh_u2 mm.I 66 43 (r3 / 64)) 66 44 ((r3 - r3 / 64 * 64) + 1)) 66 45 r4, mm.J, mm.s)) fun r5 => if r5 = true then sh_bn (sf_252 6 (Int32.ofNat (P (w y + 1))) (mm.T, sh_u2 (sh_u2 (sh_u2 mm.I 66 43 (r3 / 64)) 66 44 ((r3 - r3 / 64 * 64) + 1)) 66 45 r4, mm.J, mm.s)) (fun r6 m16 => some (r6, m16)) else sf_283_132 (Int32.ofNat (w y + 1)) (Int32.ofNat X) (Int32.ofNat tp) 0 (mm.T, sh_u2 (sh_u2 (sh_u2 mm.I 66 43 (r3 / 64)) 66 44 ((r3 - r3 / 64 * 64) + 1)) 66 45 r4, mm.J, mm.s)) else some (false, sh_mft 3 (Int32.ofNat (P (w y + 1))) mm) := by
    intro r hr
    unfold sf_283
    rw [if_pos oy, if_pos oy, sh_nIc (by omega), m91, e280, sh_bn_some, if_pos rfl, m89, hr, sh_bc_some, if_pos oy, m90, if_pos ot, sh_nIc (by omega), m69, sh_252, m88, S.hm.mtp]
    simp only [if_pos oy, if_pos ot, m91]
    rfl
  rcases se_find hT c1 S.hm J1 (Nat.zero_le _) (by omega) (show w y + 1 ≤ N by omega) k1 with ⟨ix, _, i2', i3, i4⟩ | ⟨i3, i4⟩
  · refine Or.inl (fin (kk := 3) (tt := w y + 1) (x := se_nx (i0 + y + 1) mc) (z := mm) (by omega) ?_ (F1 (u := 0) (z := 0) (q := 0) (fr := 0) (cl := 0) |>.W c1.rs) ?_ (se_U.refl mm))
    · rw [cl2 _ i3, if_neg (se_ne1 (by omega))]
    · rw [e283 _ i4, if_neg (sh_nI0 (by omega))]
  -- a new name
  obtain ⟨m1, hm1⟩ : ∃ m1 : sh_X, (mm.T, sh_u2 (sh_u2 (sh_u2 mm.I 66 43 (Int32.ofNat k)) 66 44 (Int32.ofNat b)) 66 45 (Int32.ofNat nn), mm.J, mm.s) = m1 := ⟨_, rfl⟩
  have R1 : sh_Rr mm m1 := by
    rw [← hm1]
    exact ((sh_Rr.wi (m := mm) (f := 43) (x := Int32.ofNat k) (by omega)).trans (sh_Rr.wi (f := 44) (x := Int32.ofNat b) (by omega))).trans (sh_Rr.wi (f := 45) (x := Int32.ofNat nn) (by omega))
  have wm : sh_We N K P V (mm.T, sh_u2 (sh_u2 mm.I 66 43 (Int32.ofNat k)) 66 44 (Int32.ofNat b), mm.J, mm.s) := S.hm.we.same (by rw [se_Ic (by omega), sh_u2_cell (by omega)]) (by rw [se_Ic (by omega), sh_u2_cell (by omega)]) (by rw [se_Ic (by omega), sh_u2_cell (by omega)]) (by rw [se_Ic (by omega), sh_u2_cell (by omega)])
  have q99 : m1.I 99 X = Int32.ofNat (se_en K V w A X y) := by rw [R1.I 99 (by omega)]; exact e99
  have q102 : m1.I 102 X = Int32.ofNat (se_et K V w A X y) := by rw [R1.I 102 (by omega)]; exact e102
  have md := e283 _ i4
  rw [if_pos (by decide), (T5 mm S.hm.we).1, sh_bc_some, T4, T3, (T5 _ wm).2, sh_bc_some, hm1, se_287 (by omega) q99 q102 E1 (by omega) b2 n32, sh_bc_some, sh_252, sh_bn_some] at md
  have md : sf_283 (Int32.ofNat y) mm = if (!decide (se_en K V w A X y + sh_mx nn ≤ 256 ∧ se_et K V w A X y + sh_mx nn * b ≤ 1000)) = true then some (false, sh_mft 6 (Int32.ofNat (P (w y + 1))) m1) else sf_283_132 (Int32.ofNat (w y + 1)) (Int32.ofNat X) (Int32.ofNat tp) 0 m1 := md
  have clm := cl2 _ i3
  rw [if_pos rfl] at clm
  unfold sf_91_64 at clm
  rw [sh_93 T1, sh_42_mx (by omega), sh_94 T1, se_95 (E.cong (se_nxI (by omega)) (se_nxI (by omega)) (se_nxI (by omega)) (se_nxI (by omega))) b2 mxl, sh_bc_some, i1, se_fail N4 c1 (by omega), eS] at clm
  by_cases room : se_en K V w A X y + sh_mx nn ≤ 256 ∧ se_et K V w A X y + sh_mx nn * b ≤ 1000
  rotate_left
  · rw [decide_eq_false room] at clm md
    exact Or.inl (fin (kk := 6) (tt := w y + 1) (x := se_nx (i0 + y + 1) mc) (z := m1) (by omega) (by rw [clm]; rfl) (F1 (u := 0) (z := 0) (q := 0) (fr := 0) (cl := 0) |>.W c1.rs) (by rw [md]; rfl) R1.U)
  rw [decide_eq_true room, if_pos rfl] at clm
  rw [decide_eq_true room, if_neg (by decide)] at md
  right
  have bm : b * sh_mx nn = sh_mx nn * b := Nat.mul_comm _ _
  have mb : sh_mx nn * b ≤ 32 * 64 := Nat.mul_le_mul mxl b2
  -- wires
  obtain ⟨e, m2, a1, a2, a3, a4, a5, a6, a7⟩ := sh_97 (n := b * sh_mx nn) c1.rs S.gh (by omega) (by omega)
  have c2' := c1.R a3 a4 a2
  have F2 : ∀ {z q fr cl : Nat}, se_F u z q fr cl (se_nx (i0 + y + 1) mc) m2 := fun {z q fr cl} => se_F.R a3 a4
  have g2 : 2 ≤ gs.length := c1.rs.1.1
  have len2 : (e ++ gs).length = gs.length + b * sh_mx nn := by rw [List.length_append, a5]; omega
  have hv : sh_val m2 (e ++ gs) (u + b * sh_mx nn) u (b * sh_mx nn) (fun j p => p (gs.length + j)) := ⟨L _, fun j hj => ⟨gs.length + j, a7 j hj, fun p => se_vp (p := p) g2 e (fun g hg => by rw [a6 g hg]) (gs.length + j) (by omega) (by omega)⟩⟩
  have Em : ∀ X', X' < 2 → sh_Ev (13 + 5 * X') (se_en K V w A X' y) (W X') (f X') m2 := fun X' h => by
    have k2 : ∀ c, 13 ≤ c → c ≤ 27 → m2.I c = mc.I c := fun c h1 h2 => (a3.I c (by omega) (by omega) (by omega) (by omega) (by omega) (by omega) (by omega) (by omega) (by omega)).trans (se_nxI (by omega))
    exact (IE1 X' h).1.cong (k2 _ (by omega) (by omega)) (k2 _ (by omega) (by omega)) (k2 _ (by omega) (by omega)) (k2 _ (by omega) (by omega))
  obtain ⟨m3, g, d1, d2, d3, d4, d5, d6⟩ := sh_101 (x := 13 + 5 * X) (by omega) c2'.rs (Em X X2) T1 hv room.1 (by rw [eS]; exact room.2)
  have xx : 13 + 5 * X = 13 ∨ 13 + 5 * X = 18 := by omega
  have c3 := d4.c (by omega) c2'
  have gv : ∀ j, j < b * sh_mx nn → g j = gs.length + j := fun j hj => by
    have p1 := (d6 j hj).1
    have p2 := a7 j hj
    have gl2 := p1.2
    have := c2'.rs.1.len
    exact (sh_nIeq (by omega) (by omega)).mp (p1.1.symm.trans p2.1)
  obtain ⟨m4, z1, z2, z3, z4, z5, z6, z7, z8, z9, z10⟩ := se_105 c3 (by omega) (Int32.ofNat (V (w y + 1))) (Int32.ofNat (sh_te k b nn)) (Int32.ofNat u) 0
  have clE : sf_78_10 (Int32.ofNat y) mc = sf_78_10 (Int32.ofNat (y + 1)) m4 := by
    rw [cl1, clm]
    unfold sf_91_95
    rw [sh_96t T1, a1, sh_bn_some, d1, sh_bn_some, i1, sh_83 hT c3.wc (show w y + 1 ≤ N by omega) k1, sh_bc_some, z1, sh_bn_some]
    rfl
  -- the model
  obtain ⟨mm2, v1, v2, v3, v4, v5, v6, v7, v8, v9, v10, v11, v12, v13, v14, v15, v16, v17, v18, v19, v20, v21⟩ := se_283L (t := w y + 1) (X := X) (q := y) (tp := tp) (k := k) (b := b) (nn := nn) (m := m1) T1 X2 (by rw [← hm1, se_In (by omega), sh_u2_idx (by omega), sh_u2_same]) (by rw [← hm1, se_In (by omega), sh_u2_same]) (by rw [← hm1]; exact se_Is) ((R1.F 41 (by omega) (by omega) (by omega) (by omega)).trans S.hm.mtp) ((R1.F 53 (by omega) (by omega) (by omega) (by omega)).trans S.hm.mq) (by omega) (by omega) q99 q102 room.1 room.2
  rw [v1] at md
  have mdE := st _ _ md
  rw [if_pos rfl] at mdE
  have mJ : ∀ c, c ≠ 66 → m1.J c = mm.J c := fun c h => R1.J c h
  have rI : ∀ c, c ≠ 66 → (c < 93 ∨ c = 98 ∨ 102 < c) → mm2.I c = mm.I c := fun c h1 h2 => (v4 c h1 h2).trans (R1.I c h1)
  have rF : ∀ f, f ≠ 41 → f ≠ 42 → f ≠ 43 → f ≠ 44 → f ≠ 45 → f ≠ 53 → mm2.I 66 f = mm.I 66 f := fun f a1 a2 a3 a4 a5 a6 => (v6 f a1 a6).trans (R1.F f a2 a3 a4 a5)
  have M2 : se_m N K P V A (y + 1) 0 0 0 0 F 0 (tp + sh_mx nn) 0 true mm2 :=
    se_m.mk (S.hm.we.same (rI 71 (by omega) (by omega)) (rI 68 (by omega) (by omega)) (rI 69 (by omega) (by omega)) (rI 70 (by omega) (by omega))) (fun c h1 h2 => (rI c (by omega) (by omega)).trans (S.hm.aa c h1 h2)) v7 (by rw [v6 42 (by omega) (by omega), ← hm1, se_In (by omega), sh_u2_idx (by omega), sh_u2_idx (by omega)]; exact S.hm.msp) v8 ((rF 54 (by omega) (by omega) (by omega) (by omega) (by omega) (by omega)).trans S.hm.mB) ((rF 55 (by omega) (by omega) (by omega) (by omega) (by omega) (by omega)).trans S.hm.mkn) ((rF 56 (by omega) (by omega) (by omega) (by omega) (by omega) (by omega)).trans S.hm.mif) ((rF 57 (by omega) (by omega) (by omega) (by omega) (by omega) (by omega)).trans S.hm.mac) ((rF 58 (by omega) (by omega) (by omega) (by omega) (by omega) (by omega)).trans S.hm.min_) ((rF 59 (by omega) (by omega) (by omega) (by omega) (by omega) (by omega)).trans S.hm.mcd) ((rF 79 (by omega) (by omega) (by omega) (by omega) (by omega) (by omega)).trans S.hm.mli) S.hm.ia
  -- names
  have J2 : se_J N K V p (e ++ gs) (u + b * sh_mx nn) y 0 0 tp 1 true m2 mm := J1.keep (e := e) (z := 0) (fr := 0) (cl := 0) (un := 0) (li := 0) F2 (se_G.refl mm) (by omega) (L _)
  have J3 := J2.ef d4 xx
  obtain ⟨ma, hma⟩ : ∃ ma : sh_X, (mm2.T, (fun c i => if 99 ≤ c ∧ c ≤ 102 then mm.I c i else mm2.I c i), mm2.J, mm2.s) = ma := ⟨_, rfl⟩
  have maI : ∀ c, ¬ (99 ≤ c ∧ c ≤ 102) → ma.I c = mm2.I c := fun c h => by rw [← hma]; funext i; exact if_neg h
  have maE : ∀ c, 99 ≤ c → c ≤ 102 → ma.I c = mm.I c := fun c h1 h2 => by rw [← hma]; funext i; exact if_pos ⟨h1, h2⟩
  have maJ : ma.J = mm2.J := by rw [← hma]
  have jJ : ∀ c, c ≠ 66 → c ≠ 92 → mm2.J c = mm.J c := fun c h1 h2 => (v19 c h2).trans (mJ c h1)
  have Ga : se_G0 tp y 0 0 mm ma := se_G0.mk (by rw [← hma]; exact v2.trans R1.T) (by rw [← hma]; exact v3.trans R1.s) (fun c h1 h2 => by
      by_cases h3 : 99 ≤ c ∧ c ≤ 102
      · exact maE c h3.1 h3.2
      · rw [maI c h3]; exact rI c h1 (by omega)) (fun c h1 h2 _ _ _ => by rw [maJ]; exact jJ c h1 h2) (fun f hf => by rw [maI 66 (by omega)]; exact rF f (by omega) (by omega) (by omega) (by omega) (by omega) (by omega)) (fun j hj => by rw [maJ, v20 j hj, mJ 92 (by omega)]) (fun j hj => by
      have e93 : ∀ c, 93 ≤ c → c ≤ 97 → ma.I c j = mm.I c j := fun c h1 h2 => by rw [maI c (by omega), v5 c h1 h2 j (by omega), R1.I c (by omega)]
      exact ⟨e93 93 (by omega) (by omega), e93 94 (by omega) (by omega), e93 95 (by omega) (by omega), e93 96 (by omega) (by omega), e93 97 (by omega) (by omega), by rw [maJ, jJ 98 (by omega) (by omega)]⟩) (fun j hj => absurd hj (by omega)) (fun j hj => absurd hj (by omega))
  have pq : ∀ t i, t < sh_mx nn → i < b → p (gs.length + (t * b + i)) = sh_b (D (256 * X + (se_en K V w A X y + t))) i := by
    intro t i ht hi2
    have dm := sh_te_dm T1
    have ce : se_cd K V w y = sh_te k b nn := T2
    have hh := hip y hy t (by unfold se_el; rw [ce, dm.1]; exact ht) i (by unfold se_bw; rw [ce, dm.2]; exact hi2)
    have bwe : se_bw K V w y = b := by unfold se_bw; rw [ce, dm.2]
    rw [bwe, hX, ← gl] at hh
    exact hh
  have v92 : ∀ z, z < sh_mx nn → mm2.J 92 (tp + z) = sf_288 (if Int32.ofNat k = 0 then 1 else Int32.ofNat k) (Int32.ofNat b) (D (256 * X + (se_en K V w A X y + z))) := fun z hz => by rw [v21 z hz, mJ 103 (by omega), S.dd]
  have mxb : ∀ t, t < sh_mx nn → t * b + b ≤ b * sh_mx nn := fun t ht => by rw [← Nat.succ_mul, bm]; exact Nat.mul_le_mul_right b ht
  have hV3 : se_V p m3 (e ++ gs) (u + b * sh_mx nn) u k b nn (fun j => ma.J 92 (tp + j)) := by
    refine ⟨fun j p => p (gs.length + j), ?_, fun t ht => ?_⟩
    · exact hv.keep (e := []) (L _) (fun j _ => by rw [d4.I 45 (by omega) (by omega) (by omega) (by omega)])
    · show sh_Ft (decide (k = 2)) b (fun j => p (gs.length + (t * b + j))) (ma.J 92 (tp + t))
      rw [maJ, v92 t ht]
      exact sh_Ft_k0 T1.kd (fun j hj => (pq t j ht hj).symm)
  have sa : se_a ma y = tp := by unfold se_a; rw [maI 97 (by omega), v13]; exact sh_nIc (by omega)
  have J4 := J3.add (mc2 := m4) (mm2 := ma) (tp2 := tp + sh_mx nn) (z := 0) (fr := 0) (cl := 0) (un := 0) (li := 0) z3 Ga ⟨w y + 1, k, b, nn, tp, by omega, k1, z4, by rw [maI 93 (by omega)]; exact v9, by rw [maI 94 (by omega)]; exact v10, by rw [maI 96 (by omega)]; exact v12, by rw [maI 97 (by omega)]; exact v13, L _, Or.inr ⟨T1, z5, by rw [maI 95 (by omega)]; exact v11, u, z6, hV3.keep (e := []) (L _) (fun j _ => by rw [z9])⟩⟩ (by omega) (by omega) (by omega)
  have J5 : se_J N K V p (e ++ gs) (u + b * sh_mx nn) (y + 1) 0 0 (tp + sh_mx nn) 1 true m4 mm2 := J4.sw (fun c hc => (maI c (by omega)).symm) maJ.symm (by rw [maE 99 (by omega) (by omega), (v14 2 (by omega)).1, R1.I 99 (by omega)]) (by rw [maE 102 (by omega) (by omega), (v14 2 (by omega)).2, R1.I 102 (by omega)]) (fun k' => by rw [maE 101 (by omega) (by omega), v17 (512 + k') (by omega), R1.I 101 (by omega)])
  -- counts
  have ce : se_cd K V w y = sh_te k b nn := T2
  have dm := sh_te_dm T1
  have ele : se_el K V w y = sh_mx nn := by unfold se_el; rw [ce, dm.1]
  have bwe : se_bw K V w y = b := by unfold se_bw; rw [ce, dm.2]
  have enX : se_en K V w A X (y + 1) = se_en K V w A X y + sh_mx nn := by
    show sh_sum _ y + (if se_pa A y = X then se_el K V w y else 0) = _
    rw [if_pos hX, ele]; rfl
  have etX : se_et K V w A X (y + 1) = se_et K V w A X y + sh_mx nn * b := by
    show sh_sum _ y + (if se_pa A y = X then se_el K V w y * se_bw K V w y else 0) = _
    rw [if_pos hX, ele, bwe]; rfl
  have enO : ∀ X', X' ≠ X → se_en K V w A X' (y + 1) = se_en K V w A X' y := fun X' h => by
    show sh_sum _ y + (if se_pa A y = X' then se_el K V w y else 0) = _
    rw [if_neg (by rw [hX]; exact Ne.symm h)]; rfl
  have etO : ∀ X', X' ≠ X → se_et K V w A X' (y + 1) = se_et K V w A X' y := fun X' h => by
    show sh_sum _ y + (if se_pa A y = X' then se_el K V w y * se_bw K V w y else 0) = _
    rw [if_neg (by rw [hX]; exact Ne.symm h)]; rfl
  have wrE : se_wr K V w (y + 1) = se_wr K V w y + b * sh_mx nn := by
    show 2 + (sh_sum _ y + se_el K V w y * se_bw K V w y) = _
    rw [ele, bwe, bm]; unfold se_wr; omega
  have k34 : ∀ c, 13 ≤ c → c ≤ 27 → m4.I c = m3.I c := fun c h1 h2 => z3.I c (by omega) (by omega)
  have jk : ∀ c, c ≠ 51 → c ≠ 57 → m4.J c = m3.J c := fun c h1 h2 => z3.J c h1 h2
  have j2 : m2.J = mc.J := a3.J
  refine ⟨e ++ gs, u + b * sh_mx nn, tp + sh_mx nn, m4, mm2, clE, mdE, se_S.mk z2 M2 J5 ?_ (by rw [len2, gl, wrE]) (by rw [ul, wrE]) (by unfold sh_gh; rw [sh_ga_ext (by omega)]; exact S.gh) (fun x hx => ?_) ?_ (fun X' hX' k' hk' => ?_) ?_ (by omega) ?_ ?_ ?_⟩
  · rw [z8, d4.I 41 (by omega) (by omega) (by omega) (by omega), a3.I 41 (by omega) (by omega) (by omega) (by omega) (by omega) (by omega) (by omega) (by omega) (by omega), se_nxA]
    congr 1
  · rcases List.mem_append.mp hx with hx | hx
    · exact a6 x hx
    · exact S.gk x hx
  · refine ⟨fun X' => if X' = X then (fun z => if z < se_en K V w A X y then W X z else b) else W X', fun X' => if X' = X then (fun z i => if z < se_en K V w A X y then f X z i else g ((z - se_en K V w A X y) * b + i)) else f X', fun X' hX' => ?_, fun v h1 h2 => ?_⟩
    · by_cases eX : X' = X
      · subst eX
        simp only [if_pos, enX, etX]
        refine ⟨d2.cong (k34 _ (by omega) (by omega)) (k34 _ (by omega) (by omega)) (k34 _ (by omega) (by omega)) (k34 _ (by omega) (by omega)), by rw [d3, eS], v15, v16, fun k' hk' => ?_⟩
        by_cases hk0 : k' < se_en K V w A X' y
        · obtain ⟨q1, q2⟩ := eel k' hk0
          simp only [if_pos hk0]
          refine ⟨by rw [v17 _ (by omega), R1.I 101 (by omega)]; exact q1, fun i hi2 => ?_⟩
          obtain ⟨r1, r2, r3⟩ := q2 i hi2
          exact ⟨r1, by omega, r3⟩
        · obtain ⟨t, rfl⟩ : ∃ t, k' = se_en K V w A X' y + t := ⟨k' - se_en K V w A X' y, by omega⟩
          have ht : t < sh_mx nn := by omega
          have := mxb t ht
          simp only [if_neg hk0, show se_en K V w A X' y + t - se_en K V w A X' y = t by omega]
          refine ⟨v18 t ht, fun i hi2 => ?_⟩
          rw [gv (t * b + i) (by omega)]
          exact ⟨by omega, by omega, pq t i ht hi2⟩
      · obtain ⟨q1, q2, q3, q4, q5⟩ := IE1 X' hX'
        simp only [if_neg eX, enO X' eX, etO X' eX]
        have k23 : ∀ c, 13 + 5 * X' ≤ c → c ≤ 17 + 5 * X' → m4.I c = m2.I c := fun c h1 h2 => (k34 c (by omega) (by omega)).trans (d4.I c (by omega) (by omega) (by omega) (by omega))
        refine ⟨(Em X' hX').cong (k23 _ (by omega) (by omega)) (k23 _ (by omega) (by omega)) (k23 _ (by omega) (by omega)) (k23 _ (by omega) (by omega)), q2, by rw [(v14 X' eX).1, R1.I 99 (by omega)]; exact q3, by rw [(v14 X' eX).2, R1.I 102 (by omega)]; exact q4, fun k' hk' => ?_⟩
        have kn := q1.n1
        obtain ⟨r1, r2⟩ := q5 k' hk'
        refine ⟨by rw [v17 _ (by omega), R1.I 101 (by omega)]; exact r1, fun i hi2 => ?_⟩
        obtain ⟨r3, r4, r5⟩ := r2 i hi2
        exact ⟨r3, by omega, r5⟩
    · by_cases hv2 : v < gs.length
      · obtain ⟨X', k', i, q1, q2, q3, q4⟩ := IE2 v h1 hv2
        refine ⟨X', k', i, q1, ?_, ?_, ?_⟩
        · by_cases eX : X' = X
          · subst eX; simp only [enX]; have q2 : k' < se_en K V w A X' y := q2; omega
          · simp only [enO X' eX]; exact q2
        · by_cases eX : X' = X
          · subst eX
            have q2 : k' < se_en K V w A X' y := q2
            simp only [if_true, if_pos q2]; exact q3
          · simp only [if_neg eX]; exact q3
        · by_cases eX : X' = X
          · subst eX
            have q2 : k' < se_en K V w A X' y := q2
            simp only [if_true, if_pos q2]; exact q4
          · simp only [if_neg eX]; exact q4
      · obtain ⟨j, rfl⟩ : ∃ j, v = gs.length + j := ⟨v - gs.length, by omega⟩
        have hj : j < b * sh_mx nn := by omega
        obtain ⟨t, i, jd, jm, je⟩ : ∃ t i, t < sh_mx nn ∧ i < b ∧ t * b + i = j := ⟨j / b, j % b, Nat.div_lt_of_lt_mul hj, Nat.mod_lt j (by omega), by rw [Nat.mul_comm]; exact Nat.div_add_mod j b⟩
        refine ⟨X, se_en K V w A X y + t, i, X2, by simp only [enX]; omega, ?_, ?_⟩
        · simp only [if_true, if_neg (show ¬ se_en K V w A X y + t < se_en K V w A X y by omega)]
          exact jm
        · simp only [if_true, if_neg (show ¬ se_en K V w A X y + t < se_en K V w A X y by omega), show se_en K V w A X y + t - se_en K V w A X y = t by omega]
          rw [je, gv j hj]
  · by_cases eX : X' = X
    · subst eX
      rw [enX] at hk'
      rw [jk _ (by omega) (by omega), show 16 + 5 * X' = 13 + 5 * X' + 3 by omega]
      by_cases hk0 : k' < se_en K V w A X' y
      · rw [d5.1 k' hk0, j2, show 13 + 5 * X' + 3 = 16 + 5 * X' by omega]
        exact S.jz X' hX' k' hk0
      · exact d5.2 k' (by omega) hk'
    · rw [enO X' eX] at hk'
      rw [jk _ (by omega) (by omega), d4.J _ (by omega), j2]
      exact S.jz X' hX' k' hk'
  · rw [jJ 103 (by omega) (by omega)]; exact S.dd
  · rw [rF 73 (by omega) (by omega) (by omega) (by omega) (by omega) (by omega)]; exact S.w73
  · exact (((S.ff.trans (F1 (u := 0) (z := 0) (q := 0) (fr := 0) (cl := 0)).Wf).trans (F2 (z := 0) (q := 0) (fr := 0) (cl := 0)).Wf).trans (d4.Wf (by omega))).trans z3.Wf
  · exact S.uu.trans (se_U.mk (v2.trans R1.T) (v3.trans R1.s) (fun c h1 h2 => rI c h1 (by omega)) (fun c h1 h2 => jJ c h1 (by omega)) (fun f hf => rF f (by omega) (by omega) (by omega) (by omega) (by omega) (by omega)))
end
