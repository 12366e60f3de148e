/-! EVALUATION: inputs: how they lie -/
section
variable {N : Nat} {K : Nat → Int32} {P V : Nat → Nat} {A C : Nat → Nat → Int32} {p : Nat → Bool}
/-- the type of the input y, its elements, their bits, whose it is -/
def se_cd (K : Nat → Int32) (V w : Nat → Nat) (y : Nat) : Nat := sh_tv K V (w y + 2)
def se_el (K : Nat → Int32) (V w : Nat → Nat) (y : Nat) : Nat := sh_mx (se_cd K V w y / 512)
def se_bw (K : Nat → Int32) (V w : Nat → Nat) (y : Nat) : Nat := se_cd K V w y % 128
def se_pa (A : Nat → Nat → Int32) (y : Nat) : Nat := if A 88 y = 0 then 0 else 1
/-- elements and bits of the one side, in the inputs before y -/
def se_en (K : Nat → Int32) (V w : Nat → Nat) (A : Nat → Nat → Int32) (X y : Nat) : Nat := sh_sum (fun z => if se_pa A z = X then se_el K V w z else 0) y
def se_et (K : Nat → Int32) (V w : Nat → Nat) (A : Nat → Nat → Int32) (X y : Nat) : Nat := sh_sum (fun z => if se_pa A z = X then se_el K V w z * se_bw K V w z else 0) y
/-- the first wire of the input y -/
def se_wr (K : Nat → Int32) (V w : Nat → Nat) (y : Nat) : Nat := 2 + sh_sum (fun z => se_el K V w z * se_bw K V w z) y
/-- the wires of the inputs are worth what was given -/
def se_ip (K : Nat → Int32) (V w : Nat → Nat) (A : Nat → Nat → Int32) (n : Nat) (D : Nat → Int64) (p : Nat → Bool) : Prop := ∀ y, y < n → ∀ t, t < se_el K V w y → ∀ i, i < se_bw K V w y → p (se_wr K V w y + (t * se_bw K V w y + i)) = sh_b (D (256 * se_pa A y + (se_en K V w A (se_pa A y) y + t))) i
theorem sh_te_dm {k b n : Nat} (h : sh_typ k b n) : sh_te k b n / 512 = n ∧ sh_te k b n % 128 = b := by
  have h1 := h.1
  unfold sh_te
  by_cases k0 : k = 0
  · rw [if_pos k0]; omega
  · rw [if_neg k0]
    by_cases k1 : k = 1
    · rw [if_pos k1]; omega
    · rw [if_neg k1]; omega
theorem se_pa1 (y : Nat) : se_pa A y = 0 ∨ se_pa A y = 1 := by unfold se_pa; split <;> omega
theorem se_w2 {w : Nat → Nat} (y : Nat) : se_wr K V w y = 2 + (se_et K V w A 0 y + se_et K V w A 1 y) := by
  unfold se_wr
  congr 1
  induction y with
  | zero => rfl
  | succ y ih =>
    show sh_sum _ y + _ = (sh_sum _ y + _) + (sh_sum _ y + _)
    rw [ih]
    unfold se_et
    rcases se_pa1 (A := A) y with h | h
    · simp only [if_pos h, if_neg (show ¬ se_pa A y = 1 by omega)]; omega
    · simp only [if_pos h, if_neg (show ¬ se_pa A y = 0 by omega)]; omega
theorem se_n2 {w : Nat → Nat} (y : Nat) : y ≤ se_en K V w A 0 y + se_en K V w A 1 y := by
  induction y with
  | zero => exact Nat.zero_le _
  | succ y ih =>
    have e : 1 ≤ se_el K V w y := sh_mx_1 _
    unfold se_en at ih ⊢
    show y + 1 ≤ (sh_sum _ y + _) + (sh_sum _ y + _)
    rcases se_pa1 (A := A) y with h | h
    · simp only [if_pos h, if_neg (show ¬ se_pa A y = 1 by omega)]; omega
    · simp only [if_pos h, if_neg (show ¬ se_pa A y = 0 by omega)]; omega
/-- the elements of both sides, with what was given -/
def se_IE (p : Nat → Bool) (D : Nat → Int64) (gs : sh_gL) (n S : Nat → Nat) (mc mm : sh_X) : Prop := ∃ (W : Nat → Nat → Nat) (f : Nat → Nat → Nat → Nat), (∀ X, X < 2 → sh_Ev (13 + 5 * X) (n X) (W X) (f X) mc ∧ sh_sum (W X) (n X) = S X ∧ mm.I 99 X = Int32.ofNat (n X) ∧ mm.I 102 X = Int32.ofNat (S X) ∧ ∀ k, k < n X → mm.I 101 (256 * X + k) = Int32.ofNat (W X k) ∧ ∀ i, i < W X k → 2 ≤ f X k i ∧ f X k i < gs.length ∧ p (f X k i) = sh_b (D (256 * X + k)) i) ∧ ∀ v, 2 ≤ v → v < gs.length → ∃ X k i, X < 2 ∧ k < n X ∧ i < W X k ∧ v = f X k i
/-- gates of no operands are worth what is given -/
theorem se_vp {gs : sh_gL} (h2 : 2 ≤ gs.length) : ∀ (e : sh_gL), (∀ g ∈ e, g.1 = 0) → ∀ v, gs.length ≤ v → v < (e ++ gs).length → sh_va p (e ++ gs) v = p v := by
  intro e
  induction e with
  | nil => intro _ v h1 h3; exact absurd h3 (by show ¬ v < gs.length; omega)
  | cons g r ih =>
    intro hz v h1 h3
    show (if v = (r ++ gs).length then _ else sh_va p (r ++ gs) v) = _
    by_cases e : v = (r ++ gs).length
    · rw [if_pos e]
      have g0 := hz g (List.mem_cons_self)
      rw [g0]
      show (if v = 0 then false else if v = 1 then true else p v) = p v
      rw [if_neg (by omega), if_neg (by omega)]
    · rw [if_neg e]
      exact ih (fun g hg => hz g (List.mem_cons_of_mem _ hg)) v h1 (by have : ((g :: r) ++ gs).length = (r ++ gs).length + 1 := rfl; omega)
end
/-- the model takes an input -/
theorem se_283L {t X q tp n0 S0 k b nn : Nat} {m : sh_X} (ht : sh_typ k b nn) (hX : X < 2) (h43 : m.I 66 43 = Int32.ofNat k) (h44 : m.I 66 44 = Int32.ofNat b) (h45 : m.I 66 45 = Int32.ofNat nn) (h41 : m.I 66 41 = Int32.ofNat tp) (h53 : m.I 66 53 = Int32.ofNat q) (hq : q < 3000) (htp : tp + 32 ≤ 80000) (h99 : m.I 99 X = Int32.ofNat n0) (h102 : m.I 102 X = Int32.ofNat S0) (h1 : n0 + sh_mx nn ≤ 256) (h2 : S0 + sh_mx nn * b ≤ 1000) :
    ∃ m2, sf_283_132 (Int32.ofNat t) (Int32.ofNat X) (Int32.ofNat tp) 0 m = some (true, m2) ∧ m2.T = m.T ∧ m2.s = m.s ∧ (∀ c, c ≠ 66 → (c < 93 ∨ c = 98 ∨ 102 < c) → m2.I c = m.I c) ∧ (∀ c, 93 ≤ c → c ≤ 97 → ∀ y, y ≠ q → m2.I c y = m.I c y) ∧ (∀ f, f ≠ 41 → f ≠ 53 → m2.I 66 f = m.I 66 f) ∧ m2.I 66 41 = Int32.ofNat (tp + sh_mx nn) ∧ m2.I 66 53 = Int32.ofNat (q + 1) ∧ m2.I 93 q = Int32.ofNat t ∧ m2.I 94 q = Int32.ofNat k ∧ m2.I 95 q = Int32.ofNat b ∧ m2.I 96 q = Int32.ofNat nn ∧ m2.I 97 q = Int32.ofNat tp ∧ (∀ y, y ≠ X → m2.I 99 y = m.I 99 y ∧ m2.I 102 y = m.I 102 y) ∧ m2.I 99 X = Int32.ofNat (n0 + sh_mx nn) ∧ m2.I 102 X = Int32.ofNat (S0 + sh_mx nn * b) ∧ (∀ y, y < 256 * X + n0 ∨ 256 * X + 256 ≤ y → m2.I 101 y = m.I 101 y) ∧ (∀ z, z < sh_mx nn → m2.I 101 (256 * X + (n0 + z)) = Int32.ofNat b) ∧ (∀ c, c ≠ 92 → m2.J c = m.J c) ∧ (∀ y, y < tp → m2.J 92 y = m.J 92 y) ∧ ∀ z, z < sh_mx nn → m2.J 92 (tp + z) = sf_288 (if Int32.ofNat k = 0 then 1 else Int32.ofNat k) (Int32.ofNat b) (m.J 103 (256 * X + (n0 + z))) := by
  have b1 := ht.b1
  have b2 := ht.b2
  have n32 := ht.n2
  have mx := sh_mx_le n32
  have mx1 := sh_mx_1 nn
  have cX : Int32.toNatClampNeg (Int32.ofNat X) = X := sh_nIc (by omega)
  have oX : sh_okb (Int32.ofNat X) 3 = true := sh_okn' (by omega) (by omega)
  unfold sf_283_132
  obtain ⟨⟨c, m2⟩, ⟨q1, q2, q3, q4, q5, q6, q7, q8, q9, q10, q11, q12, q13, q14⟩, q15⟩ := sh_loop (f := fun q => sf_283_132s (Int32.ofNat t) (Int32.ofNat X) (Int32.ofNat tp) q.1 q.2) (n := sh_mx nn) (i := 0) (s := (0, m))
    (fun z s => s.1 = Int32.ofNat z ∧ s.2.T = m.T ∧ s.2.s = m.s ∧ (∀ c, c ≠ 66 → (c < 99 ∨ 102 < c) → s.2.I c = m.I c) ∧ (∀ f, f ≠ 41 → s.2.I 66 f = m.I 66 f) ∧ s.2.I 66 41 = Int32.ofNat (tp + z) ∧ (∀ y, y ≠ X → s.2.I 99 y = m.I 99 y ∧ s.2.I 102 y = m.I 102 y) ∧ s.2.I 99 X = Int32.ofNat (n0 + z) ∧ s.2.I 102 X = Int32.ofNat (S0 + z * b) ∧ (∀ y, y < 256 * X + n0 ∨ 256 * X + 256 ≤ y → s.2.I 101 y = m.I 101 y) ∧ (∀ z', z' < z → s.2.I 101 (256 * X + (n0 + z')) = Int32.ofNat b) ∧ (∀ c, c ≠ 92 → s.2.J c = m.J c) ∧ (∀ y, y < tp → s.2.J 92 y = m.J 92 y) ∧ ∀ z', z' < z → s.2.J 92 (tp + z') = sf_288 (if Int32.ofNat k = 0 then 1 else Int32.ofNat k) (Int32.ofNat b) (m.J 103 (256 * X + (n0 + z')))) (by
      rintro z ⟨c, m2⟩ hz ⟨r1, r2, r3, r4, r5, r6, r7, r8, r9, r10, r11, r12, r13, r14⟩
      have r1 : c = Int32.ofNat z := r1
      subst r1
      have r2 : m2.T = m.T := r2
      have r3 : m2.s = m.s := r3
      have r4 : ∀ c, c ≠ 66 → (c < 99 ∨ 102 < c) → m2.I c = m.I c := r4
      have r5 : ∀ f, f ≠ 41 → m2.I 66 f = m.I 66 f := r5
      have r6 : m2.I 66 41 = Int32.ofNat (tp + z) := r6
      have r7 : ∀ y, y ≠ X → m2.I 99 y = m.I 99 y ∧ m2.I 102 y = m.I 102 y := r7
      have r8 : m2.I 99 X = Int32.ofNat (n0 + z) := r8
      have r9 : m2.I 102 X = Int32.ofNat (S0 + z * b) := r9
      have r10 : ∀ y, y < 256 * X + n0 ∨ 256 * X + 256 ≤ y → m2.I 101 y = m.I 101 y := r10
      have r11 : ∀ z', z' < z → m2.I 101 (256 * X + (n0 + z')) = Int32.ofNat b := r11
      have r12 : ∀ c, c ≠ 92 → m2.J c = m.J c := r12
      have r13 : ∀ y, y < tp → m2.J 92 y = m.J 92 y := r13
      have r14 : ∀ z', z' < z → m2.J 92 (tp + z') = sf_288 (if Int32.ofNat k = 0 then 1 else Int32.ofNat k) (Int32.ofNat b) (m.J 103 (256 * X + (n0 + z'))) := r14
      have zb : z * b + b ≤ sh_mx nn * b := by rw [← Nat.succ_mul]; exact Nat.mul_le_mul_right b hz
      have sb : S0 + z * b + b = S0 + (z + 1) * b := by rw [Nat.succ_mul]; omega
      have e43 : m2.I 66 43 = Int32.ofNat k := (r5 43 (by omega)).trans h43
      have e44 : m2.I 66 44 = Int32.ofNat b := (r5 44 (by omega)).trans h44
      have e132 : sf_283_132s (Int32.ofNat t) (Int32.ofNat X) (Int32.ofNat tp) (Int32.ofNat z) m2 = sf_283_146 (Int32.ofNat t) (Int32.ofNat X) (Int32.ofNat tp) (Int32.ofNat z) m2 := by
        unfold sf_283_132s
        by_cases h0 : z = 0
        · rw [if_pos (by rw [h0]; rfl)]
        · have hnn : z < nn := by
            have : nn ≠ 0 := fun q => by rw [q] at hz; have e : sh_mx 0 = 1 := rfl; omega
            rw [sh_mx_pos (by omega)] at hz
            exact hz
          rw [if_neg (show ¬ Int32.ofNat z = 0 from fun r => h0 ((sh_nIeq (b := 0) (by omega) (by omega)).mp r)), r5 45 (by omega), h45, if_pos ((sh_nIlt (by omega) (by omega)).mpr hnn)]
      have e146 : sf_283_146 (Int32.ofNat t) (Int32.ofNat X) (Int32.ofNat tp) (Int32.ofNat z) m2 = sf_283_169 (Int32.ofNat t) (Int32.ofNat X) (Int32.ofNat tp) (Int32.ofNat z) (m2.I 66 41) (if Int32.ofNat k = 0 then 1 else Int32.ofNat k) m2 := by
        unfold sf_283_146
        rw [e43]
        by_cases k0 : Int32.ofNat k = 0
        · rw [if_pos k0, if_pos k0]
        · rw [if_neg k0, if_neg k0]
      have i25 : (256 : Int32) * Int32.ofNat X + Int32.ofNat (n0 + z) = Int32.ofNat (256 * X + (n0 + z)) := by rw [show (256 : Int32) = Int32.ofNat 256 from rfl, sh_nImul, sh_nIadd]
      have o51 : sh_okb (Int32.ofNat (256 * X + (n0 + z))) 512 = true := sh_okn' (by omega) (by omega)
      have o76 : sh_okb (Int32.ofNat (256 * X + (n0 + z))) 768 = true := sh_okn' (by omega) (by omega)
      obtain ⟨va, hva⟩ : ∃ va, sf_288 (if Int32.ofNat k = 0 then 1 else Int32.ofNat k) (Int32.ofNat b) (m.J 103 (256 * X + (n0 + z))) = va := ⟨_, rfl⟩
      have e169 : sf_283_169 (Int32.ofNat t) (Int32.ofNat X) (Int32.ofNat tp) (Int32.ofNat z) (m2.I 66 41) (if Int32.ofNat k = 0 then 1 else Int32.ofNat k) m2 = some (.inl (Int32.ofNat (z + 1), (m2.T, sh_u2 (sh_u2 (sh_u2 (sh_u2 (sh_u2 m2.I 66 41 (Int32.ofNat (tp + (z + 1)))) 100 (256 * X + (n0 + z)) (Int32.ofNat k)) 101 (256 * X + (n0 + z)) (Int32.ofNat b)) 99 X (Int32.ofNat (n0 + (z + 1)))) 102 X (Int32.ofNat (S0 + (z + 1) * b)), sh_u2 m2.J 92 (tp + z) va, m2.s))) := by
        unfold sf_283_169 sf_289
        rw [cX, if_pos oX, r8, i25, if_pos o51, r6, if_pos (sh_okn' (by omega) (by omega)), sh_nIc (by omega), sh_nIc (by omega), e44, r12 103 (by omega), hva, if_pos oX]
        have k99 : sh_X.I (m2.T, sh_u2 m2.I 66 41 (Int32.ofNat (tp + z) + 1), sh_u2 m2.J 92 (tp + z) va, m2.s) 99 X = Int32.ofNat (n0 + z) := by rw [se_Ic (by omega)]; exact r8
        have k102 : sh_X.I (m2.T, sh_u2 m2.I 66 41 (Int32.ofNat (tp + z) + 1), sh_u2 m2.J 92 (tp + z) va, m2.s) 102 X = Int32.ofNat (S0 + z * b) := by rw [se_Ic (by omega)]; exact r9
        rw [k99, i25, if_pos o76, if_pos oX, if_pos o76, if_pos oX, if_pos oX, if_pos oX, if_pos oX, sh_nIc (by omega), k102, e43, sh_bn_some, sh_nI1, sh_nI1, sh_nI1, sh_nIadd, sb]
        rfl
      refine ⟨_, (e132.trans e146).trans e169, rfl, r2, r3, fun c h1 h2 => ?_, fun f hf => ?_, ?_, fun y hy => ⟨?_, ?_⟩, ?_, se_Is, fun y hy => ?_, fun z' hz' => ?_, fun c hc => ?_, fun y hy => ?_, fun z' hz' => ?_⟩
      · rw [se_Ic (by omega), sh_u2_cell (by omega), sh_u2_cell (by omega), sh_u2_cell (by omega), sh_u2_cell h1]; exact r4 c h1 h2
      · rw [se_Ic (by omega), sh_u2_cell (by omega), sh_u2_cell (by omega), sh_u2_cell (by omega), sh_u2_idx hf]; exact r5 f hf
      · rw [se_Ic (by omega), sh_u2_cell (by omega), sh_u2_cell (by omega), sh_u2_cell (by omega), sh_u2_same]
      · rw [se_Ic (by omega), sh_u2_idx hy, sh_u2_cell (by omega), sh_u2_cell (by omega), sh_u2_cell (by omega)]; exact (r7 y hy).1
      · rw [se_In (by omega), sh_u2_cell (by omega), sh_u2_cell (by omega), sh_u2_cell (by omega), sh_u2_cell (by omega)]; exact (r7 y hy).2
      · rw [se_Ic (by omega), sh_u2_same]
      · rw [se_Ic (by omega), sh_u2_cell (by omega), sh_u2_idx (by omega), sh_u2_cell (by omega), sh_u2_cell (by omega)]; exact r10 y hy
      · rw [se_Ic (by omega), sh_u2_cell (by omega)]
        by_cases e : z' = z
        · subst e; rw [sh_u2_same]
        · rw [sh_u2_idx (by omega), sh_u2_cell (by omega), sh_u2_cell (by omega)]; exact r11 z' (by omega)
      · show sh_u2 m2.J 92 (tp + z) va c = _
        rw [sh_u2_cell hc]; exact r12 c hc
      · show sh_u2 m2.J 92 (tp + z) va 92 y = _
        rw [sh_u2_idx (by omega)]; exact r13 y hy
      · show sh_u2 m2.J 92 (tp + z) va 92 (tp + z') = _
        by_cases e : z' = z
        · subst e; rw [sh_u2_same, hva]
        · rw [sh_u2_idx (by omega)]; exact r14 z' (by omega)) (Nat.zero_le _) ⟨rfl, rfl, rfl, fun _ _ _ => rfl, fun _ _ => rfl, h41, fun _ _ => ⟨rfl, rfl⟩, h99, by rw [Nat.zero_mul]; exact h102, fun _ _ => rfl, fun z' h => absurd h (by omega), fun _ _ => rfl, fun _ _ => rfl, fun z' h => absurd h (by omega)⟩
  have q1 : c = Int32.ofNat (sh_mx nn) := q1
  subst q1
  have q2 : m2.T = m.T := q2
  have q3 : m2.s = m.s := q3
  have q4 : ∀ c, c ≠ 66 → (c < 99 ∨ 102 < c) → m2.I c = m.I c := q4
  have q5 : ∀ f, f ≠ 41 → m2.I 66 f = m.I 66 f := q5
  have e53 : m2.I 66 53 = Int32.ofNat q := (q5 53 (by omega)).trans h53
  have oq : sh_okb (Int32.ofNat q) 3000 = true := sh_okn' hq (by omega)
  refine ⟨(m2.T, sh_u2 (sh_u2 (sh_u2 (sh_u2 (sh_u2 (sh_u2 m2.I 93 q (Int32.ofNat t)) 94 q (Int32.ofNat k)) 95 q (Int32.ofNat b)) 96 q (Int32.ofNat nn)) 97 q (Int32.ofNat tp)) 66 53 (Int32.ofNat (q + 1)), m2.J, m2.s), q15 _ ?_, q2, q3, fun c h1 h2 => ?_, fun c h1 h2 y hy => ?_, fun f h1 h2 => ?_, ?_, se_Is, ?_, ?_, ?_, ?_, ?_, fun y hy => ⟨?_, ?_⟩, ?_, ?_, fun y hy => ?_, fun z hz => ?_, q12, q13, q14⟩
  · show sf_283_132s (Int32.ofNat t) (Int32.ofNat X) (Int32.ofNat tp) (Int32.ofNat (sh_mx nn)) m2 = _
    unfold sf_283_132s
    have n1 : ¬ Int32.ofNat (sh_mx nn) < m2.I 66 45 := by
      rw [q5 45 (by omega), h45]
      intro r
      have r := (sh_nIlt (by omega) (by omega)).mp r
      by_cases h0 : nn = 0
      · omega
      · rw [sh_mx_pos (by omega)] at r
        omega
    rw [if_neg (show ¬ Int32.ofNat (sh_mx nn) = 0 from fun r => by have := (sh_nIeq (b := 0) (by omega) (by omega)).mp r; omega), if_neg n1, e53, if_pos oq, if_pos oq, if_pos oq, if_pos oq, if_pos oq, sh_nIc (by omega), (q5 43 (by omega)).trans h43, (q5 44 (by omega)).trans h44, (q5 45 (by omega)).trans h45, sh_nI1]
  · rw [se_Ic h1, sh_u2_cell (by omega), sh_u2_cell (by omega), sh_u2_cell (by omega), sh_u2_cell (by omega), sh_u2_cell (by omega)]; exact q4 c h1 (by omega)
  · have k : sh_u2 (sh_u2 (sh_u2 (sh_u2 (sh_u2 m2.I 93 q (Int32.ofNat t)) 94 q (Int32.ofNat k)) 95 q (Int32.ofNat b)) 96 q (Int32.ofNat nn)) 97 q (Int32.ofNat tp) c y = m2.I c y := by
      have one : ∀ (G : Nat → Nat → Int32) (a : Nat) (v : Int32), sh_u2 G a q v c y = G c y := fun G a v => by
        by_cases e : c = a
        · subst e; exact sh_u2_idx hy
        · rw [sh_u2_cell e]
      rw [one, one, one, one, one]
    rw [se_Ic (by omega), k]
    exact congrFun (q4 c (by omega) (by omega)) y
  · rw [se_In (by omega), sh_u2_cell (by omega), sh_u2_cell (by omega), sh_u2_cell (by omega), sh_u2_cell (by omega), sh_u2_cell (by omega)]; exact q5 f h1
  · rw [se_In (by omega), sh_u2_cell (by omega), sh_u2_cell (by omega), sh_u2_cell (by omega), sh_u2_cell (by omega), sh_u2_cell (by omega)]; exact q6
  · rw [se_Ic (by omega), sh_u2_cell (by omega), sh_u2_cell (by omega), sh_u2_cell (by omega), sh_u2_cell (by omega), sh_u2_same]
  · rw [se_Ic (by omega), sh_u2_cell (by omega), sh_u2_cell (by omega), sh_u2_cell (by omega), sh_u2_same]
  · rw [se_Ic (by omega), sh_u2_cell (by omega), sh_u2_cell (by omega), sh_u2_same]
  · rw [se_Ic (by omega), sh_u2_cell (by omega), sh_u2_same]
  · rw [se_Ic (by omega), sh_u2_same]
  · rw [se_Ic (by omega), sh_u2_cell (by omega), sh_u2_cell (by omega), sh_u2_cell (by omega), sh_u2_cell (by omega), sh_u2_cell (by omega)]; exact (q7 y hy).1
  · rw [se_Ic (by omega), sh_u2_cell (by omega), sh_u2_cell (by omega), sh_u2_cell (by omega), sh_u2_cell (by omega), sh_u2_cell (by omega)]; exact (q7 y hy).2
  · rw [se_Ic (by omega), sh_u2_cell (by omega), sh_u2_cell (by omega), sh_u2_cell (by omega), sh_u2_cell (by omega), sh_u2_cell (by omega)]; exact q8
  · rw [se_Ic (by omega), sh_u2_cell (by omega), sh_u2_cell (by omega), sh_u2_cell (by omega), sh_u2_cell (by omega), sh_u2_cell (by omega)]; exact q9
  · rw [se_Ic (by omega), sh_u2_cell (by omega), sh_u2_cell (by omega), sh_u2_cell (by omega), sh_u2_cell (by omega), sh_u2_cell (by omega)]; exact q10 y hy
  · rw [se_Ic (by omega), sh_u2_cell (by omega), sh_u2_cell (by omega), sh_u2_cell (by omega), sh_u2_cell (by omega), sh_u2_cell (by omega)]; exact q11 z hz
