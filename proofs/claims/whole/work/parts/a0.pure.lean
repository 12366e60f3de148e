/-! PARSERS: lists of statements -/
section
variable {N : Nat} {K : Nat → Int32} {P V : Nat → Nat}
/-- the statements of a list so far -/
def sh_Sq (N : Nat) (K : Nat → Int32) (V : Nat → Nat) (A C : Nat → Nat → Int32) (ht d n : Nat) (r b s a : Nat → Nat) : Prop := ∀ k, k < n → b k ≤ b (k + 1) ∧ s k < s (k + 1) ∧ a k ≤ r k ∧ r k < a (k + 1) ∧ A 77 (r k) = (if k + 1 < n then Int32.ofNat (r (k + 1)) else -1) ∧ sp_S N K V A C ht (a k) (a (k + 1)) d (r k) (b k) (b (k + 1)) (s k) (s (k + 1))
theorem sh_Sq.cut {A C : Nat → Nat → Int32} {ht d n : Nat} {r b s a : Nat → Nat} (H : sh_Sq N K V A C ht d n r b s a) {i j : Nat} (hij : i < j) (hj : j ≤ n) : a (i + 1) ≤ a j := by
  obtain ⟨k, rfl⟩ : ∃ k, j = i + 1 + k := ⟨j - (i + 1), by omega⟩
  clear hij
  induction k with
  | zero => exact Nat.le_refl _
  | succ k ih =>
    have h1 := ih (by omega)
    obtain ⟨_, _, h3, h4, _⟩ := H (i + 1 + k) (by omega)
    rw [show i + 1 + k + 1 = i + 1 + (k + 1) by omega] at h4
    omega
theorem sh_Sq.snoc {A C A' C' : Nat → Nat → Int32} {ht h2 d k hi2 p2 c2 e : Nat} {r b s a : Nat → Nat} (H : sh_Sq N K V A C ht d k r b s a)
    (hA : ∀ x, a 0 ≤ x → x < a k → A' 72 x = A 72 x ∧ A' 73 x = A 73 x ∧ A' 74 x = A 74 x ∧ A' 75 x = A 75 x ∧ A' 76 x = A 76 x ∧ A' 78 x = A 78 x)
    (hA7 : ∀ x, a 0 ≤ x → x < a k → (k = 0 ∨ x ≠ r (k - 1)) → A' 77 x = A 77 x)
    (hl : 0 < k → A' 77 (r (k - 1)) = Int32.ofNat e)
    (hC : ∀ y, b 0 ≤ y → y < b k → C' 36 y = C 36 y ∧ C' 37 y = C 37 y ∧ C' 38 y = C 38 y)
    (hS : sp_S N K V A' C' h2 (a k) hi2 d e (b k) c2 (s k) p2) (he : A' 77 e = -1) :
    sh_Sq N K V A' C' (ht + h2) d (k + 1) (fun j => if j = k then e else r j) (fun j => if j = k + 1 then c2 else b j) (fun j => if j = k + 1 then p2 else s j) (fun j => if j = k + 1 then hi2 else a j) := by
  have hup := sh_Sl_up H
  have se := sh_S_e hS
  intro j hj
  by_cases hjk : j = k
  · subst hjk
    simp only [if_true, if_neg (show ¬ j = j + 1 by omega), if_neg (show ¬ j + 1 < j + 1 by omega)]
    refine ⟨by omega, by omega, se.1, se.2.1, he, ?_⟩
    exact sh_S_mono h2 (ht + h2) (a j) hi2 (a j) hi2 d e (b j) c2 (s j) p2 hS (by omega) (Nat.le_refl _) (Nat.le_refl _) (fun _ _ _ => ⟨rfl, rfl, rfl, rfl, rfl, rfl⟩) (fun _ _ _ _ => rfl) (fun _ _ _ => ⟨rfl, rfl, rfl⟩)
  · have hjl : j < k := by omega
    obtain ⟨x2, x3, x4, x5, x6, x9⟩ := H j hjl
    have hj1 := hup j (by omega)
    have hj2 := hup (j + 1) (by omega)
    have hlast : ¬ j + 1 = k → ∀ x, a j ≤ x → x < a (j + 1) → x ≠ r (k - 1) := by
      intro hn x a1 a2 q
      have h1 := H.cut (i := j) (j := k - 1) (by omega) (by omega)
      obtain ⟨_, _, y3, y4, _⟩ := H (k - 1) (by omega)
      omega
    simp only [if_neg hjk, if_neg (show ¬ j = k + 1 by omega), if_neg (show ¬ j + 1 = k + 1 by omega)]
    rw [if_pos (show j + 1 < k + 1 by omega)]
    have hA2 : A' 77 (r j) = Int32.ofNat (if j + 1 = k then e else r (j + 1)) := by
      by_cases hk1 : j + 1 = k
      · rw [if_pos hk1]
        have := hl (by omega)
        rw [show k - 1 = j by omega] at this
        exact this
      · rw [if_neg hk1, hA7 (r j) (by omega) (by omega) (Or.inr (hlast hk1 (r j) x4 x5)), x6, if_pos (by omega)]
    refine ⟨x2, x3, x4, x5, hA2, ?_⟩
    exact sh_S_mono ht (ht + h2) (a j) (a (j + 1)) (a j) (a (j + 1)) d (r j) (b j) (b (j + 1)) (s j) (s (j + 1)) x9 (by omega) (Nat.le_refl _) (Nat.le_refl _)
      (fun x a1 a2 => hA x (by omega) (by omega))
      (fun x a1 a2 a3 => by
        refine hA7 x (by omega) (by omega) (Or.inr (fun q2 => ?_))
        by_cases hk1 : j + 1 = k
        · rw [show k - 1 = j by omega] at q2
          exact a3 q2
        · exact hlast hk1 x a1 a2 q2)
      (fun y a1 a2 => hC y (by omega) (by omega))
/-- the state in the midst of a list of statements -/
def sh_Si (N : Nat) (K : Nat → Int32) (P V : Nat → Nat) (ht d k : Nat) (r b s a : Nat → Nat) (mc0 mm0 mc mm : sh_X) (p c g : Nat) : Prop := (sp_Pc N K P V p c 0 mc) ∧ (sh_Pm N K P V p g mm) ∧ (sh_Cf (b 0) 0 mc0 mc) ∧ (sh_Mf (a 0) mm0 mm) ∧ (sh_Sq N K V mm.I mc.I ht d k r b s a) ∧ (b k = c) ∧ (a k = g) ∧ (s k = p) ∧ (3 * c + 4 * s 0 ≤ 3 * b 0 + 4 * p) ∧ (g + s 0 ≤ a 0 + p) ∧ (k ≤ p) ∧ (3 * b 0 ≤ 4 * s 0 + 50) ∧ (a 0 ≤ s 0 + 5)
theorem sh_Si.pc {N : Nat} {K : Nat → Int32} {P V : Nat → Nat} {ht d k : Nat} {r b s a : Nat → Nat} {mc0 mm0 mc mm : sh_X} {p c g : Nat} (h : sh_Si N K P V ht d k r b s a mc0 mm0 mc mm p c g) : sp_Pc N K P V p c 0 mc := h.1
theorem sh_Si.pm {N : Nat} {K : Nat → Int32} {P V : Nat → Nat} {ht d k : Nat} {r b s a : Nat → Nat} {mc0 mm0 mc mm : sh_X} {p c g : Nat} (h : sh_Si N K P V ht d k r b s a mc0 mm0 mc mm p c g) : sh_Pm N K P V p g mm := h.2.1
theorem sh_Si.cf {N : Nat} {K : Nat → Int32} {P V : Nat → Nat} {ht d k : Nat} {r b s a : Nat → Nat} {mc0 mm0 mc mm : sh_X} {p c g : Nat} (h : sh_Si N K P V ht d k r b s a mc0 mm0 mc mm p c g) : sh_Cf (b 0) 0 mc0 mc := h.2.2.1
theorem sh_Si.mf {N : Nat} {K : Nat → Int32} {P V : Nat → Nat} {ht d k : Nat} {r b s a : Nat → Nat} {mc0 mm0 mc mm : sh_X} {p c g : Nat} (h : sh_Si N K P V ht d k r b s a mc0 mm0 mc mm p c g) : sh_Mf (a 0) mm0 mm := h.2.2.2.1
theorem sh_Si.sq {N : Nat} {K : Nat → Int32} {P V : Nat → Nat} {ht d k : Nat} {r b s a : Nat → Nat} {mc0 mm0 mc mm : sh_X} {p c g : Nat} (h : sh_Si N K P V ht d k r b s a mc0 mm0 mc mm p c g) : sh_Sq N K V mm.I mc.I ht d k r b s a := h.2.2.2.2.1
theorem sh_Si.bk {N : Nat} {K : Nat → Int32} {P V : Nat → Nat} {ht d k : Nat} {r b s a : Nat → Nat} {mc0 mm0 mc mm : sh_X} {p c g : Nat} (h : sh_Si N K P V ht d k r b s a mc0 mm0 mc mm p c g) : b k = c := h.2.2.2.2.2.1
theorem sh_Si.ak {N : Nat} {K : Nat → Int32} {P V : Nat → Nat} {ht d k : Nat} {r b s a : Nat → Nat} {mc0 mm0 mc mm : sh_X} {p c g : Nat} (h : sh_Si N K P V ht d k r b s a mc0 mm0 mc mm p c g) : a k = g := h.2.2.2.2.2.2.1
theorem sh_Si.sk {N : Nat} {K : Nat → Int32} {P V : Nat → Nat} {ht d k : Nat} {r b s a : Nat → Nat} {mc0 mm0 mc mm : sh_X} {p c g : Nat} (h : sh_Si N K P V ht d k r b s a mc0 mm0 mc mm p c g) : s k = p := h.2.2.2.2.2.2.2.1
theorem sh_Si.lc {N : Nat} {K : Nat → Int32} {P V : Nat → Nat} {ht d k : Nat} {r b s a : Nat → Nat} {mc0 mm0 mc mm : sh_X} {p c g : Nat} (h : sh_Si N K P V ht d k r b s a mc0 mm0 mc mm p c g) : 3 * c + 4 * s 0 ≤ 3 * b 0 + 4 * p := h.2.2.2.2.2.2.2.2.1
theorem sh_Si.lg {N : Nat} {K : Nat → Int32} {P V : Nat → Nat} {ht d k : Nat} {r b s a : Nat → Nat} {mc0 mm0 mc mm : sh_X} {p c g : Nat} (h : sh_Si N K P V ht d k r b s a mc0 mm0 mc mm p c g) : g + s 0 ≤ a 0 + p := h.2.2.2.2.2.2.2.2.2.1
theorem sh_Si.kp {N : Nat} {K : Nat → Int32} {P V : Nat → Nat} {ht d k : Nat} {r b s a : Nat → Nat} {mc0 mm0 mc mm : sh_X} {p c g : Nat} (h : sh_Si N K P V ht d k r b s a mc0 mm0 mc mm p c g) : k ≤ p := h.2.2.2.2.2.2.2.2.2.2.1
theorem sh_Si.b0 {N : Nat} {K : Nat → Int32} {P V : Nat → Nat} {ht d k : Nat} {r b s a : Nat → Nat} {mc0 mm0 mc mm : sh_X} {p c g : Nat} (h : sh_Si N K P V ht d k r b s a mc0 mm0 mc mm p c g) : 3 * b 0 ≤ 4 * s 0 + 50 := h.2.2.2.2.2.2.2.2.2.2.2.1
theorem sh_Si.g9 {N : Nat} {K : Nat → Int32} {P V : Nat → Nat} {ht d k : Nat} {r b s a : Nat → Nat} {mc0 mm0 mc mm : sh_X} {p c g : Nat} (h : sh_Si N K P V ht d k r b s a mc0 mm0 mc mm p c g) : a 0 ≤ s 0 + 5 := h.2.2.2.2.2.2.2.2.2.2.2.2
theorem sh_Si.mk {N : Nat} {K : Nat → Int32} {P V : Nat → Nat} {ht d k : Nat} {r b s a : Nat → Nat} {mc0 mm0 mc mm : sh_X} {p c g : Nat} (pc : sp_Pc N K P V p c 0 mc) (pm : sh_Pm N K P V p g mm) (cf : sh_Cf (b 0) 0 mc0 mc) (mf : sh_Mf (a 0) mm0 mm) (sq : sh_Sq N K V mm.I mc.I ht d k r b s a) (bk : b k = c) (ak : a k = g) (sk : s k = p) (lc : 3 * c + 4 * s 0 ≤ 3 * b 0 + 4 * p) (lg : g + s 0 ≤ a 0 + p) (kp : k ≤ p) (b0 : 3 * b 0 ≤ 4 * s 0 + 50) (g9 : a 0 ≤ s 0 + 5) : sh_Si N K P V ht d k r b s a mc0 mm0 mc mm p c g := ⟨pc, pm, cf, mf, sq, bk, ak, sk, lc, lg, kp, b0, g9⟩
def sh_hd (k : Nat) (r : Nat → Nat) : Int32 := if k = 0 then -1 else Int32.ofNat (r 0)
theorem sh_54 (k : Int32) : sf_54 k = true ↔ (k = 12 ∨ k = 1 ∨ k = 10 ∨ k = 9 ∨ k = 13) := by
  unfold sf_54 sf_54_29
  repeat' split
  all_goals simp_all
/-- one statement -/
theorem sh_sone {d p c g u v : Nat} {mc mm : sh_X} (hT : sh_Txt N K P V) (hd : d ≤ 40) (hS : sh_HS N K P V (d + 1)) (hu : 4 * (40 - d) + 2 ≤ u) (hv : 3 * (40 - d) + 1 ≤ v) (hb : sh_Qb N K P V p c g mc mm) (h54 : sf_54 (K p) = true) : sh_Sp N K P V d p c g mc mm (sf_55_10 (sq_48 (u + 2)) (Int32.ofNat d) mc) (sf_265 (sq_242 (v + 1)) (Int32.ofNat d) mm) := by
  rcases (sh_54 _).mp h54 with h | h | h | h | h
  · exact sh_slet hT hd hb h
  · exact sh_sset hT hd hb h
  · exact sh_sif hT hd hS hu hv hb h
  · exact sh_sfor hT hd hS hu hv hb h
  · exact sh_sout hT hd hb h
theorem sh_slist {d u v b00 s00 a00 : Nat} {mc0 mm0 : sh_X} (hT : sh_Txt N K P V) (hd : d ≤ 41) (hS : d ≤ 40 → sh_HS N K P V (d + 1)) (hu : 4 * (40 - d) + 2 ≤ u) (hv : 3 * (40 - d) + 1 ≤ v) :
    ∀ (f p c g k ht : Nat) (r b s a : Nat → Nat) (mc mm : sh_X), N ≤ p + f → sh_Si N K P V ht d k r b s a mc0 mm0 mc mm p c g → b 0 = b00 → s 0 = s00 → a 0 = a00 →
    (∃ z mcf mmf, z ≤ N ∧ sf_53_2 (sq_48 (u + 3)) (Int32.ofNat d) (Int32.ofNat k) mc = some (none, mcf) ∧ sf_264_4 (sq_242 (v + 2)) (Int32.ofNat d) (sh_hd k r) (sh_lst k r) mm = some (-2, mmf) ∧ sh_bdc P z mc0 mcf ∧ sh_bdm P z mm0 mmf) ∨
    (∃ n ht2 r2 b2 s2 a2 mc2 mm2 p2 c2 g2, sf_53_2 (sq_48 (u + 3)) (Int32.ofNat d) (Int32.ofNat k) mc = some (some (), mc2) ∧ sf_264_4 (sq_242 (v + 2)) (Int32.ofNat d) (sh_hd k r) (sh_lst k r) mm = some (sh_hd n r2, mm2) ∧ sh_Si N K P V ht2 d n r2 b2 s2 a2 mc0 mm0 mc2 mm2 p2 c2 g2 ∧ b2 0 = b00 ∧ s2 0 = s00 ∧ a2 0 = a00 ∧ ¬ sf_54 (K p2) = true) := by
  intro f
  induction f with
  | zero =>
    intro p c g k ht r b s a mc mm hf hI e1 e2 e3
    have n4 := hI.pc.N4
    have pN := hI.pc.pN
    have hp : p = N := by omega
    have h0 : K p = 0 := by rw [hp]; exact hT.KN
    have h54 : ¬ sf_54 (K p) = true := by rw [h0]; intro q; have := (sh_54 _).mp q; revert this; decide
    right
    refine ⟨k, ht, r, b, s, a, mc, mm, p, c, g, ?_, ?_, hI, e1, e2, e3, h54⟩
    · unfold sf_53_2
      refine sh_wend ?_
      show sf_53_2s (sq_48 (u + 3)) (Int32.ofNat d) (Int32.ofNat k) mc = _
      unfold sf_53_2s
      split
      · rw [sh_45 hI.pc, sh_bc_some, if_neg h54]
      · rfl
    · unfold sf_264_4
      refine sh_wend ?_
      show sf_264_4s (sq_242 (v + 2)) (Int32.ofNat d) (sh_hd k r) (sh_lst k r) mm = _
      unfold sf_264_4s
      have w := fun j (hj : j < 12) => hI.pm.wq.wd (i := p) pN hj
      rw [hI.pm.at_, show sf_256 (Int32.ofNat p) 16 mm = _ from w 8 (by omega), sh_bc_some, decide_eq_false (by rw [h0]; decide), if_neg (by simp), show sf_256 (Int32.ofNat p) 14 mm = _ from w 6 (by omega), sh_bc_some, decide_eq_false (by rw [h0]; decide), if_neg (by simp), show sf_256 (Int32.ofNat p) 13 mm = _ from w 5 (by omega), sh_bc_some, decide_eq_false (by rw [h0]; decide), if_neg (by simp), show sf_256 (Int32.ofNat p) 17 mm = _ from w 9 (by omega), sh_bc_some, decide_eq_false (by rw [h0]; decide), if_neg (by simp), hI.pm.wq.nm pN, sh_bc_some, decide_eq_false (by rw [h0]; decide), if_neg (by simp)]
  | succ f ih =>
    intro p c g k ht r b s a mc mm hf hI e1 e2 e3
    have n4 := hI.pc.N4
    have pN := hI.pc.pN
    have lc := hI.lc
    have lg := hI.lg
    have kp := hI.kp
    have b0 := hI.b0
    have g9 := hI.g9
    have bk := hI.bk
    have ak := hI.ak
    have sk := hI.sk
    have w := fun j (hj : j < 12) => hI.pm.wq.wd (i := p) pN hj
    have hmd : sf_264_4s (sq_242 (v + 2)) (Int32.ofNat d) (sh_hd k r) (sh_lst k r) mm = if sf_54 (K p) = true then sf_264_71 (sq_242 (v + 2)) (Int32.ofNat d) (sh_hd k r) (sh_lst k r) mm else some (.inr (sh_hd k r, mm)) := by
      unfold sf_264_4s
      rw [hI.pm.at_, show sf_256 (Int32.ofNat p) 16 mm = some (decide (K p = 12)) from w 8 (by omega), sh_bc_some, show sf_256 (Int32.ofNat p) 14 mm = some (decide (K p = 10)) from w 6 (by omega), sh_bc_some, show sf_256 (Int32.ofNat p) 13 mm = some (decide (K p = 9)) from w 5 (by omega), sh_bc_some, show sf_256 (Int32.ofNat p) 17 mm = some (decide (K p = 13)) from w 9 (by omega), sh_bc_some, hI.pm.wq.nm pN, sh_bc_some]
      simp only [decide_eq_true_eq]
      by_cases h54 : sf_54 (K p) = true
      · rw [if_pos h54]
        rcases (sh_54 _).mp h54 with h | h | h | h | h
        · rw [if_pos h]
        · rw [if_neg (by rw [h]; decide), if_neg (by rw [h]; decide), if_neg (by rw [h]; decide), if_neg (by rw [h]; decide), if_pos h]
        · rw [if_neg (by rw [h]; decide), if_pos h]
        · rw [if_neg (by rw [h]; decide), if_neg (by rw [h]; decide), if_pos h]
        · rw [if_neg (by rw [h]; decide), if_neg (by rw [h]; decide), if_neg (by rw [h]; decide), if_pos h]
      · rw [if_neg h54]
        have hn := fun q => h54 ((sh_54 (K p)).mpr q)
        rw [if_neg (fun q => hn (Or.inl q)), if_neg (fun q => hn (Or.inr (Or.inr (Or.inl q)))), if_neg (fun q => hn (Or.inr (Or.inr (Or.inr (Or.inl q))))), if_neg (fun q => hn (Or.inr (Or.inr (Or.inr (Or.inr q))))), if_neg (fun q => hn (Or.inr (Or.inl q)))]
    by_cases h54 : sf_54 (K p) = true
    · have hp : p < N := hT.lt pN (by rcases (sh_54 _).mp h54 with h | h | h | h | h <;> (rw [h]; decide))
      rw [if_pos h54] at hmd
      by_cases hd41 : d = 41
      · -- too deep
        left
        obtain ⟨o1, o2, o3⟩ := sh_mok hI.pm
        refine ⟨p, _, _, pN, ?_, ?_, hI.pc.bad.of hI.cf, hI.pm.bad.of hI.mf⟩
        · unfold sf_53_2
          refine sh_wend ?_
          show sf_53_2s (sq_48 (u + 3)) (Int32.ofNat d) (Int32.ofNat k) mc = _
          unfold sf_53_2s
          rw [if_pos (sh_k4 (by omega)), sh_45 hI.pc, sh_bc_some, if_pos h54]
          show sh_bt (sf_55 (sq_48 (u + 2)) (Int32.ofNat d) mc) _ _ = _
          unfold sf_55
          rw [hd41, if_pos (by decide), sh_49 hI.pc]
          rfl
        · unfold sf_264_4
          refine sh_wend ?_
          show sf_264_4s (sq_242 (v + 2)) (Int32.ofNat d) (sh_hd k r) (sh_lst k r) mm = _
          rw [hmd]
          unfold sf_264_71
          rw [hd41, if_pos (by decide), if_pos o1, o2, sh_252]
          rfl
      · have hd40 : d ≤ 40 := by omega
        have hb : sh_Qb N K P V p c g mc mm := sh_Qb.mk hI.pc hI.pm (by omega) (by omega)
        have hone := sh_sone hT hd40 (hS hd40) hu hv hb h54
        have ec : sf_53_2s (sq_48 (u + 3)) (Int32.ofNat d) (Int32.ofNat k) mc = sh_bt (sf_55_10 (sq_48 (u + 2)) (Int32.ofNat d) mc) (fun m => .inr ((none, m))) fun _ m13 => some (.inl (Int32.ofNat (k + 1), m13)) := by
          unfold sf_53_2s
          rw [if_pos (sh_k4 (by omega)), sh_45 hI.pc, sh_bc_some, if_pos h54]
          show sh_bt (sf_55 (sq_48 (u + 2)) (Int32.ofNat d) mc) _ _ = _
          unfold sf_55
          rw [if_neg (sh_d40 hd40), sh_nI1]
        have em : sf_264_4s (sq_242 (v + 2)) (Int32.ofNat d) (sh_hd k r) (sh_lst k r) mm = sh_bn (sf_265 (sq_242 (v + 1)) (Int32.ofNat d) mm) fun r2 m12 =>
            if r2 < 0 then
              some (.inr (((-2), m12)))
            else
              if sh_hd k r < 0 then
                some (.inl (r2, r2, m12))
              else
                if sh_okb (sh_lst k r) 9000 = true then
                  some (.inl (sh_hd k r, r2, ⟨m12.T, sh_u2 m12.I 77 (Int32.toNatClampNeg (sh_lst k r)) r2, m12.J, m12.s⟩))
                else none := by
          rw [hmd]
          unfold sf_264_71 sf_264_128
          rw [if_neg (sh_d40 hd40)]
          rfl
        rcases hone with ⟨z, mcf, mmf, z1, z2, z3, z4, z5⟩ | ⟨mc2, mm2, p2, c2, g2, ht2, z1, z2, hO⟩
        · left
          refine ⟨z, mcf, mmf, z1, ?_, ?_, z4.of hI.cf, z5.of hI.mf⟩
          · unfold sf_53_2
            refine sh_wend ?_
            show sf_53_2s (sq_48 (u + 3)) (Int32.ofNat d) (Int32.ofNat k) mc = _
            rw [ec, z2]
            rfl
          · unfold sf_264_4
            refine sh_wend ?_
            show sf_264_4s (sq_242 (v + 2)) (Int32.ofNat d) (sh_hd k r) (sh_lst k r) mm = _
            rw [em, z3, sh_bn_some, if_pos (by decide)]
        · have se := sh_S_e hO.st
          have olg := hO.lg
          have olc := hO.lc
          have occ := hO.cc
          have olp := hO.lp
          have p2N := hO.pc.pN
          have hup := sh_Sl_up hI.sq
          have hlastg : 0 < k → a 0 ≤ r (k - 1) ∧ r (k - 1) < g := by
            intro hk0
            obtain ⟨_, _, y3, y4, _⟩ := hI.sq (k - 1) (by omega)
            have q1 := hup (k - 1) (by omega)
            rw [show k - 1 + 1 = k by omega] at y4
            omega
          -- the link to the new statement
          have hM : ∃ m3, sf_264_4 (sq_242 (v + 2)) (Int32.ofNat d) (sh_hd k r) (sh_lst k r) mm = sf_264_4 (sq_242 (v + 2)) (Int32.ofNat d) (sh_hd (k + 1) (fun j => if j = k then g else r j)) (sh_lst (k + 1) (fun j => if j = k then g else r j)) m3 ∧ sh_Pm N K P V p2 g2 m3 ∧ sh_Mf (a 0) mm2 m3 ∧ (0 < k → m3.I 77 (r (k - 1)) = Int32.ofNat g) ∧ (∀ y x, 72 ≤ x → x ≤ 78 → (x ≠ 77 ∨ k = 0 ∨ y ≠ r (k - 1)) → m3.I x y = mm2.I x y) := by
            have hl1 : sh_lst (k + 1) (fun j => if j = k then g else r j) = Int32.ofNat g := by
              unfold sh_lst
              rw [if_neg (by omega)]
              simp only [show k + 1 - 1 = k by omega, if_true]
            by_cases hk0 : k = 0
            · refine ⟨mm2, ?_, hO.pm, sh_Mf.refl _ _, fun q => absurd q (by omega), fun _ _ _ _ _ => rfl⟩
              have hh1 : sh_hd (k + 1) (fun j => if j = k then g else r j) = Int32.ofNat g := by
                unfold sh_hd
                rw [if_neg (by omega)]
                simp only [hk0, if_true]
              rw [hl1, hh1]
              unfold sf_264_4
              refine sh_wstep ?_
              show sf_264_4s (sq_242 (v + 2)) (Int32.ofNat d) (sh_hd k r) (sh_lst k r) mm = _
              rw [em, z2, sh_bn_some, if_neg (sh_nn (by omega)), if_pos (by unfold sh_hd; rw [if_pos hk0]; decide)]
            · have hlg := hlastg (by omega)
              obtain ⟨_, _, y3, y4, _⟩ := hI.sq 0 (by omega)
              have y4 : r 0 < a 1 := y4
              have q1 := hup 1 (by omega)
              have hh : sh_hd k r = Int32.ofNat (r 0) := by unfold sh_hd; rw [if_neg hk0]
              have hll : sh_lst k r = Int32.ofNat (r (k - 1)) := by unfold sh_lst; rw [if_neg hk0]
              have hh1 : sh_hd (k + 1) (fun j => if j = k then g else r j) = Int32.ofNat (r 0) := by
                unfold sh_hd
                rw [if_neg (by omega)]
                simp only [if_neg (show ¬ 0 = k by omega)]
              obtain ⟨f1, f2⟩ := sh_pset (e := r (k - 1)) (x := 77) (v := Int32.ofNat g) hO.pm (by omega)
              refine ⟨_, ?_, f1, f2.less (by omega), ?_, ?_⟩
              · rw [hl1, hh1, hh, hll]
                unfold sf_264_4
                refine sh_wstep ?_
                show sf_264_4s (sq_242 (v + 2)) (Int32.ofNat d) (Int32.ofNat (r 0)) (Int32.ofNat (r (k - 1))) mm = _
                rw [← hh, ← hll, em, z2, sh_bn_some, if_neg (sh_nn (by omega)), hh, hll, if_neg (sh_nn (by omega)), if_pos ((sh_okn (by omega)).mpr (by omega)), sh_nIc (by omega)]
              · intro _
                simp only [sh_X.I, sh_u2_same]
              · intro y x h1 h2 h3
                simp only [sh_X.I]
                by_cases hx : x = 77
                · subst hx
                  rw [sh_u2_idx (by omega)]
                · rw [sh_u2_cell hx]
          obtain ⟨m3, y1, y2, y3, y4, y5⟩ := hM
          have hgne : k = 0 ∨ g ≠ r (k - 1) := by
            by_cases hk0 : k = 0
            · exact Or.inl hk0
            · have := hlastg (by omega)
              exact Or.inr (by omega)
          have hsq : sh_Sq N K V m3.I mc2.I (ht + ht2) d (k + 1) (fun j => if j = k then g else r j) (fun j => if j = k + 1 then c2 else b j) (fun j => if j = k + 1 then p2 else s j) (fun j => if j = k + 1 then g2 else a j) := by
            refine sh_Sq.snoc (A := mm.I) (C := mc.I) hI.sq ?_ ?_ y4 ?_ ?_ ?_
            · intro x h1 h2
              have q : ∀ z, 72 ≤ z → z ≤ 78 → z ≠ 77 → m3.I z x = mm.I z x := fun z z1 z2 z3 => (y5 x z z1 z2 (Or.inl z3)).trans (hO.mf.pt x (by omega) z z1 z2)
              exact ⟨q 72 (by omega) (by omega) (by omega), q 73 (by omega) (by omega) (by omega), q 74 (by omega) (by omega) (by omega), q 75 (by omega) (by omega) (by omega), q 76 (by omega) (by omega) (by omega), q 78 (by omega) (by omega) (by omega)⟩
            · intro x h1 h2 h3
              exact (y5 x 77 (by omega) (by omega) (Or.inr h3)).trans (hO.mf.pt x (by omega) 77 (by omega) (by omega))
            · intro y h1 h2
              exact hO.cf.cd y (by omega)
            · rw [ak, bk, sk]
              refine sh_S_mono ht2 ht2 g g2 g g2 d g c c2 p p2 hO.st (Nat.le_refl _) (Nat.le_refl _) (Nat.le_refl _) ?_ ?_ (fun _ _ _ => ⟨rfl, rfl, rfl⟩)
              · intro x h1 h2
                have q : ∀ z, 72 ≤ z → z ≤ 78 → z ≠ 77 → m3.I z x = mm2.I z x := fun z z1 z2 z3 => y5 x z z1 z2 (Or.inl z3)
                exact ⟨q 72 (by omega) (by omega) (by omega), q 73 (by omega) (by omega) (by omega), q 74 (by omega) (by omega) (by omega), q 75 (by omega) (by omega) (by omega), q 76 (by omega) (by omega) (by omega), q 78 (by omega) (by omega) (by omega)⟩
              · intro x h1 h2 h3
                refine y5 x 77 (by omega) (by omega) (Or.inr ?_)
                by_cases hk0 : k = 0
                · exact Or.inl hk0
                · have := hlastg (by omega)
                  exact Or.inr (by omega)
            · rw [y5 g 77 (by omega) (by omega) (Or.inr hgne)]
              exact hO.nx
          have hIn : sh_Si N K P V (ht + ht2) d (k + 1) (fun j => if j = k then g else r j) (fun j => if j = k + 1 then c2 else b j) (fun j => if j = k + 1 then p2 else s j) (fun j => if j = k + 1 then g2 else a j) mc0 mm0 mc2 m3 p2 c2 g2 := by
            have ha0k := hup k (Nat.le_refl _)
            refine sh_Si.mk hO.pc y2 ?_ ?_ hsq ?_ ?_ ?_ ?_ ?_ (by omega) ?_ ?_
            · simp only [if_neg (show ¬ 0 = k + 1 by omega)]
              exact hI.cf.trans hO.cf (by omega) (Nat.le_refl _)
            · simp only [if_neg (show ¬ 0 = k + 1 by omega)]
              exact hI.mf.trans ((hO.mf.less (show a 0 ≤ g by omega)).trans y3 (Nat.le_refl _)) (Nat.le_refl _)
            · simp only [if_true]
            · simp only [if_true]
            · simp only [if_true]
            · simp only [if_neg (show ¬ 0 = k + 1 by omega)]
              omega
            · simp only [if_neg (show ¬ 0 = k + 1 by omega)]
              omega
            · simp only [if_neg (show ¬ 0 = k + 1 by omega)]
              exact b0
            · simp only [if_neg (show ¬ 0 = k + 1 by omega)]
              exact g9
          have stc : sf_53_2 (sq_48 (u + 3)) (Int32.ofNat d) (Int32.ofNat k) mc = sf_53_2 (sq_48 (u + 3)) (Int32.ofNat d) (Int32.ofNat (k + 1)) mc2 := by
            unfold sf_53_2
            refine sh_wstep ?_
            show sf_53_2s (sq_48 (u + 3)) (Int32.ofNat d) (Int32.ofNat k) mc = _
            rw [ec, z1]
            rfl
          rw [stc, y1]
          exact ih p2 c2 g2 (k + 1) (ht + ht2) _ _ _ _ mc2 m3 (by omega) hIn (by simp only [if_neg (show ¬ 0 = k + 1 by omega)]; exact e1) (by simp only [if_neg (show ¬ 0 = k + 1 by omega)]; exact e2) (by simp only [if_neg (show ¬ 0 = k + 1 by omega)]; exact e3)
    · right
      rw [if_neg h54] at hmd
      refine ⟨k, ht, r, b, s, a, mc, mm, p, c, g, ?_, ?_, hI, e1, e2, e3, h54⟩
      · unfold sf_53_2
        refine sh_wend ?_
        show sf_53_2s (sq_48 (u + 3)) (Int32.ofNat d) (Int32.ofNat k) mc = _
        unfold sf_53_2s
        split
        · rw [sh_45 hI.pc, sh_bc_some, if_neg h54]
        · rfl
      · unfold sf_264_4
        exact sh_wend hmd
end
