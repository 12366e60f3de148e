/-! GATES: the list of the gates (the newest first), what their wires are worth, and that the methods of Gates make what they say -/
abbrev sh_gL : Type := List (Nat × Nat × Nat)
def sh_va (p : Nat → Bool) : sh_gL → Nat → Bool
  | [], _ => false
  | g :: r, i => if i = r.length then (match g.1 with
    | 0 => if i = 0 then false else if i = 1 then true else p i
    | 1 => Bool.xor (sh_va p r g.2.1) (sh_va p r g.2.2)
    | _ => sh_va p r g.2.1 && sh_va p r g.2.2) else sh_va p r i
theorem sh_va_ext (p : Nat → Bool) {gs : sh_gL} : ∀ (e : sh_gL) {i : Nat}, i < gs.length → sh_va p (e ++ gs) i = sh_va p gs i := by
  intro e
  induction e with
  | nil => intro i _; rfl
  | cons g r ih =>
    intro i hi
    show (if i = (r ++ gs).length then _ else sh_va p (r ++ gs) i) = _
    rw [if_neg (by rw [List.length_append]; omega)]
    exact ih hi
/-- a gate of the list, by its wire -/
def sh_ga (gs : sh_gL) (i : Nat) : Nat × Nat × Nat := gs.getD (gs.length - 1 - i) (0, 0, 0)
theorem sh_ga_new {g : Nat × Nat × Nat} {gs : sh_gL} : sh_ga (g :: gs) gs.length = g := by
  unfold sh_ga
  simp
theorem sh_ga_old {g : Nat × Nat × Nat} {gs : sh_gL} {i : Nat} (h : i < gs.length) : sh_ga (g :: gs) i = sh_ga gs i := by
  unfold sh_ga
  rw [show (g :: gs).length - 1 - i = (gs.length - 1 - i) + 1 by simp; omega]
  rfl
theorem sh_ga_ext {e gs : sh_gL} {i : Nat} (h : i < gs.length) : sh_ga (e ++ gs) i = sh_ga gs i := by
  induction e with
  | nil => rfl
  | cons g r ih => rw [List.cons_append, sh_ga_old (by rw [List.length_append]; omega), ih]
/-- a mark that is not in the memory: the first gate's word, 2 ^ 32 times how many inputs there may be, or 0: as many as come -/
def sh_gh (gs : sh_gL) : Nat := (sh_ga gs 0).2.1
/-- the gate g of no operands may stand on r -/
def sh_gq (g : Nat × Nat × Nat) (r : sh_gL) : Prop := g.2.2 = 0 ∧ ((r.length = 0 ∧ g.2.1 % 4294967296 = 0) ∨ (0 < r.length ∧ g.2.1 = 0 ∧ (sh_gh r = 0 ∨ r.length < sh_gh r / 4294967296)))
/-- each gate stands behind what it uses -/
def sh_gw0 : sh_gL → Prop
  | [] => True
  | g :: r => g.1 ≤ 2 ∧ ((g.1 = 0 ∧ sh_gq g r) ∨ (g.2.1 < r.length ∧ g.2.2 < r.length ∧ ¬ g.1 = 0)) ∧ sh_gw0 r
theorem sh_gw0_at {gs : sh_gL} (h : sh_gw0 gs) {i : Nat} (hi : i < gs.length) : (sh_ga gs i).1 ≤ 2 ∧ ((sh_ga gs i).1 = 0 ∨ ((sh_ga gs i).2.1 < i ∧ (sh_ga gs i).2.2 < i)) := by
  induction gs with
  | nil => cases hi
  | cons g r ih =>
    by_cases he : i = r.length
    · subst he
      rw [sh_ga_new]
      exact ⟨h.1, h.2.1.elim (fun q => Or.inl q.1) (fun q => Or.inr ⟨q.1, q.2.1⟩)⟩
    · have hl : i < r.length := by simp at hi; omega
      rw [sh_ga_old hl]
      exact ih h.2.2 hl
/-- the gates of no operands are the inputs, where the mark is set -/
theorem sh_gw0_z {gs : sh_gL} (h : sh_gw0 gs) {i : Nat} (hi : i < gs.length) (h0 : (sh_ga gs i).1 = 0) : (sh_ga gs i).2.2 = 0 ∧ (sh_ga gs i).2.1 % 4294967296 = 0 ∧ (0 < i → (sh_ga gs i).2.1 = 0 ∧ (sh_gh gs = 0 ∨ i < sh_gh gs / 4294967296)) := by
  induction gs with
  | nil => cases hi
  | cons g r ih =>
    by_cases he : i = r.length
    · subst he
      rw [sh_ga_new] at h0 ⊢
      rcases h.2.1 with ⟨_, q1, q2⟩ | ⟨_, _, q3⟩
      · rcases q2 with ⟨q2, q3⟩ | ⟨q2, q3, q4⟩
        · exact ⟨q1, q3, fun q => absurd q (by omega)⟩
        · refine ⟨q1, by rw [q3], fun _ => ⟨q3, ?_⟩⟩
          have e : sh_gh (g :: r) = sh_gh r := by unfold sh_gh; rw [sh_ga_old q2]
          rw [e]
          exact q4
      · exact absurd h0 q3
    · have hl : i < r.length := by simp at hi; omega
      rw [sh_ga_old hl] at h0 ⊢
      have := ih h.2.2 hl h0
      have e : sh_gh (g :: r) = sh_gh r := by unfold sh_gh; rw [sh_ga_old (by omega)]
      rw [e]
      exact this
theorem sh_va_at (p : Nat → Bool) {gs : sh_gL} (h : sh_gw0 gs) {i : Nat} (hi : i < gs.length) : sh_va p gs i = (match (sh_ga gs i).1 with
    | 0 => if i = 0 then false else if i = 1 then true else p i
    | 1 => Bool.xor (sh_va p gs (sh_ga gs i).2.1) (sh_va p gs (sh_ga gs i).2.2)
    | _ => sh_va p gs (sh_ga gs i).2.1 && sh_va p gs (sh_ga gs i).2.2) := by
  induction gs with
  | nil => cases hi
  | cons g r ih =>
    by_cases he : i = r.length
    · subst he
      rw [sh_ga_new]
      obtain ⟨h1, h2, h3⟩ := h
      show (if r.length = r.length then _ else _) = _
      rw [if_pos rfl]
      rcases h2 with ⟨h2, _⟩ | ⟨h2, h4, _⟩
      · simp only [h2]
      · rw [← sh_va_ext p [g] h2, ← sh_va_ext p [g] h4]
        rfl
    · have hl : i < r.length := by simp at hi; omega
      have hb := sh_gw0_at h.2.2 hl
      rw [sh_ga_old hl]
      have e : sh_va p (g :: r) i = sh_va p r i := sh_va_ext p [g] hl
      rw [e, ih h.2.2 hl]
      rcases hb.2 with h0 | ⟨h1, h2⟩
      · simp only [h0]
      · have e1 : sh_va p (g :: r) (sh_ga r i).2.1 = sh_va p r (sh_ga r i).2.1 := sh_va_ext p [g] (by omega)
        have e2 : sh_va p (g :: r) (sh_ga r i).2.2 = sh_va p r (sh_ga r i).2.2 := sh_va_ext p [g] (by omega)
        rw [e1, e2]
/-- the gates stand in the memory: their arrays are a, b and c, with room for n -/
def sh_Gv (gs : sh_gL) (a b c n : Nat) (m : sh_X) : Prop := (sh_rf m.T 9 0 = a) ∧ (sh_rf m.T 9 1 = b) ∧ (sh_rf m.T 9 2 = c) ∧ (sh_ln m.T a = n) ∧ (sh_ln m.T b = n) ∧ (sh_ln m.T c = n) ∧ (a ≠ b) ∧ (a ≠ c) ∧ (b ≠ c) ∧ ((a = 10 ∨ 125 ≤ a) ∧ a < m.T.length) ∧ ((b = 11 ∨ 125 ≤ b) ∧ b < m.T.length) ∧ ((c = 12 ∨ 125 ≤ c) ∧ c < m.T.length) ∧ (125 ≤ m.T.length) ∧ (4096 ≤ n) ∧ (n ≤ 65536) ∧ (n = 4096 ∨ n = 8192 ∨ n = 16384 ∨ n = 32768 ∨ n = 65536) ∧ (m.T.length + 3 * (131072 / n) ≤ 900000) ∧ (gs.length ≤ n) ∧ (m.I 9 3 = Int32.ofNat gs.length) ∧ (∀ i, i < gs.length → m.I a i = Int32.ofNat (sh_ga gs i).1) ∧ (∀ i, i < gs.length → m.I b i = Int32.ofNat (sh_ga gs i).2.1) ∧ (∀ i, i < gs.length → m.I c i = Int32.ofNat (sh_ga gs i).2.2) ∧ (sh_gw0 gs)
theorem sh_Gv.ra {gs : sh_gL} {a b c n : Nat} {m : sh_X} (h : sh_Gv gs a b c n m) : sh_rf m.T 9 0 = a := h.1
theorem sh_Gv.rb {gs : sh_gL} {a b c n : Nat} {m : sh_X} (h : sh_Gv gs a b c n m) : sh_rf m.T 9 1 = b := h.2.1
theorem sh_Gv.rc {gs : sh_gL} {a b c n : Nat} {m : sh_X} (h : sh_Gv gs a b c n m) : sh_rf m.T 9 2 = c := h.2.2.1
theorem sh_Gv.la {gs : sh_gL} {a b c n : Nat} {m : sh_X} (h : sh_Gv gs a b c n m) : sh_ln m.T a = n := h.2.2.2.1
theorem sh_Gv.lb {gs : sh_gL} {a b c n : Nat} {m : sh_X} (h : sh_Gv gs a b c n m) : sh_ln m.T b = n := h.2.2.2.2.1
theorem sh_Gv.lc {gs : sh_gL} {a b c n : Nat} {m : sh_X} (h : sh_Gv gs a b c n m) : sh_ln m.T c = n := h.2.2.2.2.2.1
theorem sh_Gv.ab {gs : sh_gL} {a b c n : Nat} {m : sh_X} (h : sh_Gv gs a b c n m) : a ≠ b := h.2.2.2.2.2.2.1
theorem sh_Gv.ac {gs : sh_gL} {a b c n : Nat} {m : sh_X} (h : sh_Gv gs a b c n m) : a ≠ c := h.2.2.2.2.2.2.2.1
theorem sh_Gv.bc {gs : sh_gL} {a b c n : Nat} {m : sh_X} (h : sh_Gv gs a b c n m) : b ≠ c := h.2.2.2.2.2.2.2.2.1
theorem sh_Gv.fa {gs : sh_gL} {a b c n : Nat} {m : sh_X} (h : sh_Gv gs a b c n m) : (a = 10 ∨ 125 ≤ a) ∧ a < m.T.length := h.2.2.2.2.2.2.2.2.2.1
theorem sh_Gv.fb {gs : sh_gL} {a b c n : Nat} {m : sh_X} (h : sh_Gv gs a b c n m) : (b = 11 ∨ 125 ≤ b) ∧ b < m.T.length := h.2.2.2.2.2.2.2.2.2.2.1
theorem sh_Gv.fc {gs : sh_gL} {a b c n : Nat} {m : sh_X} (h : sh_Gv gs a b c n m) : (c = 12 ∨ 125 ≤ c) ∧ c < m.T.length := h.2.2.2.2.2.2.2.2.2.2.2.1
theorem sh_Gv.nT {gs : sh_gL} {a b c n : Nat} {m : sh_X} (h : sh_Gv gs a b c n m) : 125 ≤ m.T.length := h.2.2.2.2.2.2.2.2.2.2.2.2.1
theorem sh_Gv.n0 {gs : sh_gL} {a b c n : Nat} {m : sh_X} (h : sh_Gv gs a b c n m) : 4096 ≤ n := h.2.2.2.2.2.2.2.2.2.2.2.2.2.1
theorem sh_Gv.n1 {gs : sh_gL} {a b c n : Nat} {m : sh_X} (h : sh_Gv gs a b c n m) : n ≤ 65536 := h.2.2.2.2.2.2.2.2.2.2.2.2.2.2.1
theorem sh_Gv.n5 {gs : sh_gL} {a b c n : Nat} {m : sh_X} (h : sh_Gv gs a b c n m) : n = 4096 ∨ n = 8192 ∨ n = 16384 ∨ n = 32768 ∨ n = 65536 := h.2.2.2.2.2.2.2.2.2.2.2.2.2.2.2.1
theorem sh_Gv.tT {gs : sh_gL} {a b c n : Nat} {m : sh_X} (h : sh_Gv gs a b c n m) : m.T.length + 3 * (131072 / n) ≤ 900000 := h.2.2.2.2.2.2.2.2.2.2.2.2.2.2.2.2.1
theorem sh_Gv.le {gs : sh_gL} {a b c n : Nat} {m : sh_X} (h : sh_Gv gs a b c n m) : gs.length ≤ n := h.2.2.2.2.2.2.2.2.2.2.2.2.2.2.2.2.2.1
theorem sh_Gv.w {gs : sh_gL} {a b c n : Nat} {m : sh_X} (h : sh_Gv gs a b c n m) : m.I 9 3 = Int32.ofNat gs.length := h.2.2.2.2.2.2.2.2.2.2.2.2.2.2.2.2.2.2.1
theorem sh_Gv.k {gs : sh_gL} {a b c n : Nat} {m : sh_X} (h : sh_Gv gs a b c n m) : ∀ i, i < gs.length → m.I a i = Int32.ofNat (sh_ga gs i).1 := h.2.2.2.2.2.2.2.2.2.2.2.2.2.2.2.2.2.2.2.1
theorem sh_Gv.l {gs : sh_gL} {a b c n : Nat} {m : sh_X} (h : sh_Gv gs a b c n m) : ∀ i, i < gs.length → m.I b i = Int32.ofNat (sh_ga gs i).2.1 := h.2.2.2.2.2.2.2.2.2.2.2.2.2.2.2.2.2.2.2.2.1
theorem sh_Gv.r {gs : sh_gL} {a b c n : Nat} {m : sh_X} (h : sh_Gv gs a b c n m) : ∀ i, i < gs.length → m.I c i = Int32.ofNat (sh_ga gs i).2.2 := h.2.2.2.2.2.2.2.2.2.2.2.2.2.2.2.2.2.2.2.2.2.1
theorem sh_Gv.wf {gs : sh_gL} {a b c n : Nat} {m : sh_X} (h : sh_Gv gs a b c n m) : sh_gw0 gs := h.2.2.2.2.2.2.2.2.2.2.2.2.2.2.2.2.2.2.2.2.2.2
theorem sh_Gv.mk {gs : sh_gL} {a b c n : Nat} {m : sh_X} (ra : sh_rf m.T 9 0 = a) (rb : sh_rf m.T 9 1 = b) (rc : sh_rf m.T 9 2 = c) (la : sh_ln m.T a = n) (lb : sh_ln m.T b = n) (lc : sh_ln m.T c = n) (ab : a ≠ b) (ac : a ≠ c) (bc : b ≠ c) (fa : (a = 10 ∨ 125 ≤ a) ∧ a < m.T.length) (fb : (b = 11 ∨ 125 ≤ b) ∧ b < m.T.length) (fc : (c = 12 ∨ 125 ≤ c) ∧ c < m.T.length) (nT : 125 ≤ m.T.length) (n0 : 4096 ≤ n) (n1 : n ≤ 65536) (n5 : n = 4096 ∨ n = 8192 ∨ n = 16384 ∨ n = 32768 ∨ n = 65536) (tT : m.T.length + 3 * (131072 / n) ≤ 900000) (le : gs.length ≤ n) (w : m.I 9 3 = Int32.ofNat gs.length) (k : ∀ i, i < gs.length → m.I a i = Int32.ofNat (sh_ga gs i).1) (l : ∀ i, i < gs.length → m.I b i = Int32.ofNat (sh_ga gs i).2.1) (r : ∀ i, i < gs.length → m.I c i = Int32.ofNat (sh_ga gs i).2.2) (wf : sh_gw0 gs) : sh_Gv gs a b c n m := ⟨ra, rb, rc, la, lb, lc, ab, ac, bc, fa, fb, fc, nT, n0, n1, n5, tT, le, w, k, l, r, wf⟩
/-- what the making of gates leaves as it was -/
def sh_Gf (m m2 : sh_X) : Prop := (∀ c, c < 125 → c ≠ 9 → c ≠ 10 → c ≠ 11 → c ≠ 12 → m2.I c = m.I c) ∧ (m2.J = m.J) ∧ (∀ c t, c ≠ 9 → m.T[c]? = some t → m2.T[c]? = some t) ∧ (m.T.length + 3 * (131072 / sh_ln m.T (sh_rf m.T 9 0)) ≥ m2.T.length + 3 * (131072 / sh_ln m2.T (sh_rf m2.T 9 0))) ∧ (m.T.length ≤ m2.T.length) ∧ (m2.s + 6 * sh_ln m.T (sh_rf m.T 9 0) = m.s + 6 * sh_ln m2.T (sh_rf m2.T 9 0))
theorem sh_Gf.I {m m2 : sh_X} (h : sh_Gf m m2) : ∀ c, c < 125 → c ≠ 9 → c ≠ 10 → c ≠ 11 → c ≠ 12 → m2.I c = m.I c := h.1
theorem sh_Gf.J {m m2 : sh_X} (h : sh_Gf m m2) : m2.J = m.J := h.2.1
theorem sh_Gf.T {m m2 : sh_X} (h : sh_Gf m m2) : ∀ c t, c ≠ 9 → m.T[c]? = some t → m2.T[c]? = some t := h.2.2.1
theorem sh_Gf.n {m m2 : sh_X} (h : sh_Gf m m2) : m.T.length + 3 * (131072 / sh_ln m.T (sh_rf m.T 9 0)) ≥ m2.T.length + 3 * (131072 / sh_ln m2.T (sh_rf m2.T 9 0)) := h.2.2.2.1
theorem sh_Gf.t {m m2 : sh_X} (h : sh_Gf m m2) : m.T.length ≤ m2.T.length := h.2.2.2.2.1
theorem sh_Gf.s {m m2 : sh_X} (h : sh_Gf m m2) : m2.s + 6 * sh_ln m.T (sh_rf m.T 9 0) = m.s + 6 * sh_ln m2.T (sh_rf m2.T 9 0) := h.2.2.2.2.2
theorem sh_Gf.mk {m m2 : sh_X} (I : ∀ c, c < 125 → c ≠ 9 → c ≠ 10 → c ≠ 11 → c ≠ 12 → m2.I c = m.I c) (J : m2.J = m.J) (T : ∀ c t, c ≠ 9 → m.T[c]? = some t → m2.T[c]? = some t) (n : m.T.length + 3 * (131072 / sh_ln m.T (sh_rf m.T 9 0)) ≥ m2.T.length + 3 * (131072 / sh_ln m2.T (sh_rf m2.T 9 0))) (t : m.T.length ≤ m2.T.length) (s : m2.s + 6 * sh_ln m.T (sh_rf m.T 9 0) = m.s + 6 * sh_ln m2.T (sh_rf m2.T 9 0)) : sh_Gf m m2 := ⟨I, J, T, n, t, s⟩
theorem sh_Gf.refl (m : sh_X) : sh_Gf m m := sh_Gf.mk (fun _ _ _ _ _ _ => rfl) rfl (fun _ _ _ h => h) (Nat.le_refl _) (Nat.le_refl _) rfl
theorem sh_Gf.trans {m m2 m3 : sh_X} (h : sh_Gf m m2) (g : sh_Gf m2 m3) : sh_Gf m m3 :=
  sh_Gf.mk (fun c h0 h1 h2 h3 h4 => (g.I c h0 h1 h2 h3 h4).trans (h.I c h0 h1 h2 h3 h4)) (g.J.trans h.J) (fun c t h0 h1 => g.T c t h0 (h.T c t h0 h1)) (Nat.le_trans g.n h.n) (Nat.le_trans h.t g.t) (by have := h.s; have := g.s; omega)
