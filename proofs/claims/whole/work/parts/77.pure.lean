/-! THE TEXT, as parser and evaluator see it: N words, their kinds K, places P, numbers V -/
def sp_L (k : Int32) : Nat := if k = 14 then 6 else if k = 3 ∨ k = 8 then 2 else 1
def sh_Txt (N : Nat) (K : Nat → Int32) (P V : Nat → Nat) : Prop := (N ≤ 4000) ∧ (K N = 0) ∧ (∀ i, i < N → K i ≠ 0) ∧ (∀ i, i < N → P i + sp_L (K i) ≤ P (i + 1)) ∧ (P N ≤ 4000) ∧ (∀ i, i ≤ N → K i = 1 → V i < 2001) ∧ (∀ i, i ≤ N → K i = 2 → V i < 1000000000000000000) ∧ (∀ i, i ≤ N → K i = 3 → V i = 257 ∨ (1 ≤ V i ∧ V i ≤ 64) ∨ (130 ≤ V i ∧ V i ≤ 192))
theorem sh_Txt.N4 {N : Nat} {K : Nat → Int32} {P V : Nat → Nat} (h : sh_Txt N K P V) : N ≤ 4000 := h.1
theorem sh_Txt.KN {N : Nat} {K : Nat → Int32} {P V : Nat → Nat} (h : sh_Txt N K P V) : K N = 0 := h.2.1
theorem sh_Txt.K0 {N : Nat} {K : Nat → Int32} {P V : Nat → Nat} (h : sh_Txt N K P V) : ∀ i, i < N → K i ≠ 0 := h.2.2.1
theorem sh_Txt.PL {N : Nat} {K : Nat → Int32} {P V : Nat → Nat} (h : sh_Txt N K P V) : ∀ i, i < N → P i + sp_L (K i) ≤ P (i + 1) := h.2.2.2.1
theorem sh_Txt.PN {N : Nat} {K : Nat → Int32} {P V : Nat → Nat} (h : sh_Txt N K P V) : P N ≤ 4000 := h.2.2.2.2.1
theorem sh_Txt.V1 {N : Nat} {K : Nat → Int32} {P V : Nat → Nat} (h : sh_Txt N K P V) : ∀ i, i ≤ N → K i = 1 → V i < 2001 := h.2.2.2.2.2.1
theorem sh_Txt.V2 {N : Nat} {K : Nat → Int32} {P V : Nat → Nat} (h : sh_Txt N K P V) : ∀ i, i ≤ N → K i = 2 → V i < 1000000000000000000 := h.2.2.2.2.2.2.1
theorem sh_Txt.V3 {N : Nat} {K : Nat → Int32} {P V : Nat → Nat} (h : sh_Txt N K P V) : ∀ i, i ≤ N → K i = 3 → V i = 257 ∨ (1 ≤ V i ∧ V i ≤ 64) ∨ (130 ≤ V i ∧ V i ≤ 192) := h.2.2.2.2.2.2.2
theorem sh_Txt.mk {N : Nat} {K : Nat → Int32} {P V : Nat → Nat} (N4 : N ≤ 4000) (KN : K N = 0) (K0 : ∀ i, i < N → K i ≠ 0) (PL : ∀ i, i < N → P i + sp_L (K i) ≤ P (i + 1)) (PN : P N ≤ 4000) (V1 : ∀ i, i ≤ N → K i = 1 → V i < 2001) (V2 : ∀ i, i ≤ N → K i = 2 → V i < 1000000000000000000) (V3 : ∀ i, i ≤ N → K i = 3 → V i = 257 ∨ (1 ≤ V i ∧ V i ≤ 64) ∨ (130 ≤ V i ∧ V i ≤ 192)) : sh_Txt N K P V := ⟨N4, KN, K0, PL, PN, V1, V2, V3⟩
/-- in the class's memory -/
def sh_Wc (N : Nat) (K : Nat → Int32) (P V : Nat → Nat) (m : sh_X) : Prop := (m.I 2 7 = Int32.ofNat (N + 1)) ∧ (∀ i, i ≤ N → m.I 3 i = K i ∧ m.I 4 i = Int32.ofNat (P i)) ∧ (∀ i, i ≤ N → (K i = 1 ∨ K i = 2 ∨ K i = 3) → m.J 5 i = Int64.ofNat (V i))
theorem sh_Wc.am {N : Nat} {K : Nat → Int32} {P V : Nat → Nat} {m : sh_X} (h : sh_Wc N K P V m) : m.I 2 7 = Int32.ofNat (N + 1) := h.1
theorem sh_Wc.kd {N : Nat} {K : Nat → Int32} {P V : Nat → Nat} {m : sh_X} (h : sh_Wc N K P V m) : ∀ i, i ≤ N → m.I 3 i = K i ∧ m.I 4 i = Int32.ofNat (P i) := h.2.1
theorem sh_Wc.nu {N : Nat} {K : Nat → Int32} {P V : Nat → Nat} {m : sh_X} (h : sh_Wc N K P V m) : ∀ i, i ≤ N → (K i = 1 ∨ K i = 2 ∨ K i = 3) → m.J 5 i = Int64.ofNat (V i) := h.2.2
theorem sh_Wc.mk {N : Nat} {K : Nat → Int32} {P V : Nat → Nat} {m : sh_X} (am : m.I 2 7 = Int32.ofNat (N + 1)) (kd : ∀ i, i ≤ N → m.I 3 i = K i ∧ m.I 4 i = Int32.ofNat (P i)) (nu : ∀ i, i ≤ N → (K i = 1 ∨ K i = 2 ∨ K i = 3) → m.J 5 i = Int64.ofNat (V i)) : sh_Wc N K P V m := ⟨am, kd, nu⟩
/-- the words and the bytes they are made of -/
def sh_Wx (B : Nat → Int32) (n : Nat) (ts : List sh_Tok) (N : Nat) (K : Nat → Int32) (P V : Nat → Nat) : Prop := (ts.length = N + 1) ∧ (∀ (i : Nat) (t : sh_Tok), ts[i]? = some t → (sh_Tk B n t ∨ t.1 = 0) ∧ K i = sh_ck B t ∧ P i = t.2.1 ∧ (t.1 = 2 → V i = sh_dvn B t.2.1 t.2.2) ∧ (t.1 = 1 → sp_ty B t.2.1 t.2.2 ≠ 0 → V i = sp_ty B t.2.1 t.2.2)) ∧ (∀ (i j : Nat) (t u : sh_Tok), ts[i]? = some t → ts[j]? = some u → K i = 1 → K j = 1 → (V i = V j ↔ sp_sw B t.2 u.2))
theorem sh_Wx.ln {B : Nat → Int32} {n : Nat} {ts : List sh_Tok} {N : Nat} {K : Nat → Int32} {P V : Nat → Nat} (h : sh_Wx B n ts N K P V) : ts.length = N + 1 := h.1
theorem sh_Wx.tk {B : Nat → Int32} {n : Nat} {ts : List sh_Tok} {N : Nat} {K : Nat → Int32} {P V : Nat → Nat} (h : sh_Wx B n ts N K P V) : ∀ (i : Nat) (t : sh_Tok), ts[i]? = some t → (sh_Tk B n t ∨ t.1 = 0) ∧ K i = sh_ck B t ∧ P i = t.2.1 ∧ (t.1 = 2 → V i = sh_dvn B t.2.1 t.2.2) ∧ (t.1 = 1 → sp_ty B t.2.1 t.2.2 ≠ 0 → V i = sp_ty B t.2.1 t.2.2) := h.2.1
theorem sh_Wx.nm {B : Nat → Int32} {n : Nat} {ts : List sh_Tok} {N : Nat} {K : Nat → Int32} {P V : Nat → Nat} (h : sh_Wx B n ts N K P V) : ∀ (i j : Nat) (t u : sh_Tok), ts[i]? = some t → ts[j]? = some u → K i = 1 → K j = 1 → (V i = V j ↔ sp_sw B t.2 u.2) := h.2.2
theorem sh_Wx.mk {B : Nat → Int32} {n : Nat} {ts : List sh_Tok} {N : Nat} {K : Nat → Int32} {P V : Nat → Nat} (ln : ts.length = N + 1) (tk : ∀ (i : Nat) (t : sh_Tok), ts[i]? = some t → (sh_Tk B n t ∨ t.1 = 0) ∧ K i = sh_ck B t ∧ P i = t.2.1 ∧ (t.1 = 2 → V i = sh_dvn B t.2.1 t.2.2) ∧ (t.1 = 1 → sp_ty B t.2.1 t.2.2 ≠ 0 → V i = sp_ty B t.2.1 t.2.2)) (nm : ∀ (i j : Nat) (t u : sh_Tok), ts[i]? = some t → ts[j]? = some u → K i = 1 → K j = 1 → (V i = V j ↔ sp_sw B t.2 u.2)) : sh_Wx B n ts N K P V := ⟨ln, tk, nm⟩
/-- in the model's memory, while the tape stands; while the source stands -/
def sh_Wq (N : Nat) (K : Nat → Int32) (P V : Nat → Nat) (m : sh_X) : Prop := N ≤ 4000 ∧ ∃ B n ts, sh_Wx B n ts N K P V ∧ sh_Wa ts m ∧ sh_Wb B n 67 m
def sh_We (N : Nat) (K : Nat → Int32) (P V : Nat → Nat) (m : sh_X) : Prop := N ≤ 4000 ∧ ∃ B n ts, sh_Wx B n ts N K P V ∧ sh_Wa ts m ∧ sh_Wb B n 71 m
theorem sh_Wa.same {ts : List sh_Tok} {m m2 : sh_X} (h : sh_Wa ts m) (h1 : m2.I 68 = m.I 68) (h2 : m2.I 69 = m.I 69) (h3 : m2.I 70 = m.I 70) : sh_Wa ts m2 := sh_Wa.mk (fun i t ht => by rw [h1, h2, h3]; exact h.kd i t ht) h.l4
theorem sh_Wb.same {B : Nat → Int32} {n c : Nat} {m m2 : sh_X} (h : sh_Wb B n c m) (h1 : m2.I c = m.I c) : sh_Wb B n c m2 := sh_Wb.mk h.n4 (fun i hi => by rw [h1]; exact h.eb i hi) (fun i hi => by rw [h1]; exact h.lo i hi)
theorem sh_Wq.same {N : Nat} {K : Nat → Int32} {P V : Nat → Nat} {m m2 : sh_X} (h : sh_Wq N K P V m) (h0 : m2.I 67 = m.I 67) (h1 : m2.I 68 = m.I 68) (h2 : m2.I 69 = m.I 69) (h3 : m2.I 70 = m.I 70) : sh_Wq N K P V m2 := by
  obtain ⟨h4, B, n, ts, a, b, c⟩ := h
  exact ⟨h4, B, n, ts, a, b.same h1 h2 h3, c.same h0⟩
theorem sh_We.same {N : Nat} {K : Nat → Int32} {P V : Nat → Nat} {m m2 : sh_X} (h : sh_We N K P V m) (h0 : m2.I 71 = m.I 71) (h1 : m2.I 68 = m.I 68) (h2 : m2.I 69 = m.I 69) (h3 : m2.I 70 = m.I 70) : sh_We N K P V m2 := by
  obtain ⟨h4, B, n, ts, a, b, c⟩ := h
  exact ⟨h4, B, n, ts, a, b.same h1 h2 h3, c.same h0⟩
theorem sh_Wc.same {N : Nat} {K : Nat → Int32} {P V : Nat → Nat} {m m2 : sh_X} (h : sh_Wc N K P V m) (h0 : m2.I 2 7 = m.I 2 7) (h1 : m2.I 3 = m.I 3) (h2 : m2.I 4 = m.I 4) (h3 : m2.J 5 = m.J 5) : sh_Wc N K P V m2 :=
  sh_Wc.mk (h0.trans h.am) (fun i hi => by rw [h1, h2]; exact h.kd i hi) (fun i hi hk => by rw [h3]; exact h.nu i hi hk)
theorem sh_Wx.at {B : Nat → Int32} {n : Nat} {ts : List sh_Tok} {N : Nat} {K : Nat → Int32} {P V : Nat → Nat} (h : sh_Wx B n ts N K P V) {i : Nat} (hi : i ≤ N) : ∃ t, ts[i]? = some t := ⟨ts[i]'(by rw [h.ln]; omega), List.getElem?_eq_getElem (by rw [h.ln]; omega)⟩
theorem sh_Wx.t1 {B : Nat → Int32} {n : Nat} {ts : List sh_Tok} {N : Nat} {K : Nat → Int32} {P V : Nat → Nat} (h : sh_Wx B n ts N K P V) {i : Nat} {t : sh_Tok} (ht : ts[i]? = some t) (h1 : t.1 = 1) : sh_Tk B n t := by
  rcases (h.tk i t ht).1 with g | g
  · exact g
  · rw [h1] at g; exact absurd g (by decide)
theorem sh_ck_1 {B : Nat → Int32} {n : Nat} {t : sh_Tok} (hk : sh_Tk B n t ∨ t.1 = 0) (h : sh_ck B t = 1 ∨ sh_ck B t = 3) : t.1 = 1 := by
  by_cases h1 : t.1 = 1
  · exact h1
  · have e : sh_ck B t = t.1 := if_neg h1
    rw [e] at h
    rcases hk with hk | hk
    · rcases hk.2.2 with g | g | g
      · exact g.1
      · rw [g.1] at h; rcases h with h | h <;> exact absurd h (by decide)
      · rcases h with h | h <;> (rw [h] at g; exact absurd g (by decide))
    · rw [hk] at h; rcases h with h | h <;> exact absurd h (by decide)
theorem sh_rsv_16 {B : Nat → Int32} {s z : Nat} : ∀ (l : List Nat) (c : Nat), 4 ≤ c → c + l.length ≤ 16 → (sh_rsv B s z l c = 1 ∨ (4 ≤ (sh_rsv B s z l c).toInt ∧ (sh_rsv B s z l c).toInt < 16)) := by
  intro l
  induction l with
  | nil => intro c _ _; exact Or.inl rfl
  | cons a r ih =>
    intro c h1 h2
    simp at h2
    unfold sh_rsv
    split
    · rw [sh_nI (by omega)]; exact Or.inr (by omega)
    · exact ih (c + 1) (by omega) (by omega)
/-- what the model's kinds are -/
theorem sh_Wx.kk {B : Nat → Int32} {n : Nat} {ts : List sh_Tok} {N : Nat} {K : Nat → Int32} {P V : Nat → Nat} (h : sh_Wx B n ts N K P V) {i : Nat} {t : sh_Tok} (ht : ts[i]? = some t) : t.1 = K i ∨ (t.1 = 1 ∧ 1 ≤ (K i).toInt ∧ (K i).toInt < 16 ∧ ¬ K i = 2) := by
  by_cases h1 : t.1 = 1
  · right
    rw [(h.tk i t ht).2.1]
    unfold sh_ck
    rw [if_pos h1]
    refine ⟨h1, ?_⟩
    split
    · rcases sh_rsv_16 (B := B) (s := t.2.1) (z := t.2.2) sh_rsl 4 (by omega) (by decide) with q | q
      · rw [q]; decide
      · exact ⟨by omega, by omega, fun r => by rw [r] at q; revert q; decide⟩
    · decide
  · left
    rw [(h.tk i t ht).2.1]
    unfold sh_ck
    rw [if_neg h1]
/-- the model's kind of a word is x, a sign, a number or the end, just if the class's is -/
theorem sh_Wq.tk {N : Nat} {K : Nat → Int32} {P V : Nat → Nat} {m : sh_X} (h : sh_Wq N K P V m) {i : Nat} (hi : i ≤ N) {x : Int32} (hx : x = 0 ∨ x = 2 ∨ 33 ≤ x.toInt) : m.I 68 i = x ↔ K i = x := by
  obtain ⟨_, B, n, ts, a, b, c⟩ := h
  obtain ⟨t, ht⟩ := a.at hi
  rw [(b.kd i t ht).1]
  rcases a.kk ht with g | ⟨g1, g2, g3, g4⟩
  · rw [g]
  · rw [g1]
    constructor
    · intro q; rw [← q] at hx; exact absurd hx (by decide)
    · intro q
      rw [q] at g2 g3 g4
      rcases hx with hx | hx | hx
      · rw [hx] at g2; exact absurd g2 (by decide)
      · exact absurd hx g4
      · omega
theorem sh_We.tk {N : Nat} {K : Nat → Int32} {P V : Nat → Nat} {m : sh_X} (h : sh_We N K P V m) {i : Nat} (hi : i ≤ N) {x : Int32} (hx : x = 0 ∨ x = 2 ∨ 33 ≤ x.toInt) : m.I 68 i = x ↔ K i = x := by
  obtain ⟨_, B, n, ts, a, b, c⟩ := h
  obtain ⟨t, ht⟩ := a.at hi
  rw [(b.kd i t ht).1]
  rcases a.kk ht with g | ⟨g1, g2, g3, g4⟩
  · rw [g]
  · rw [g1]
    constructor
    · intro q; rw [← q] at hx; exact absurd hx (by decide)
    · intro q
      rw [q] at g2 g3 g4
      rcases hx with hx | hx | hx
      · rw [hx] at g2; exact absurd g2 (by decide)
      · exact absurd hx g4
      · omega
theorem sh_Wq.at {N : Nat} {K : Nat → Int32} {P V : Nat → Nat} {m : sh_X} (h : sh_Wq N K P V m) {i : Nat} (hi : i ≤ N) : m.I 69 i = Int32.ofNat (P i) := by
  obtain ⟨_, B, n, ts, a, b, c⟩ := h
  obtain ⟨t, ht⟩ := a.at hi
  rw [(b.kd i t ht).2.1, (a.tk i t ht).2.2.1]
theorem sh_We.at {N : Nat} {K : Nat → Int32} {P V : Nat → Nat} {m : sh_X} (h : sh_We N K P V m) {i : Nat} (hi : i ≤ N) : m.I 69 i = Int32.ofNat (P i) := by
  obtain ⟨_, B, n, ts, a, b, c⟩ := h
  obtain ⟨t, ht⟩ := a.at hi
  rw [(b.kd i t ht).2.1, (a.tk i t ht).2.2.1]
/-- isWord, isName, typeOf -/
theorem sh_Wq.wd {N : Nat} {K : Nat → Int32} {P V : Nat → Nat} {m : sh_X} (h : sh_Wq N K P V m) {i j : Nat} (hi : i ≤ N) (hj : j < 12) : sf_256 (Int32.ofNat i) (sh_rsl.getD j 0) m = some (decide (K i = Int32.ofNat (4 + j))) := by
  obtain ⟨_, B, n, ts, a, b, c⟩ := h
  obtain ⟨t, ht⟩ := a.at hi
  have hn : ∀ j : Fin 12, 0 < sh_txn (sh_rsl.getD j.1 0) ∧ sh_txn (sh_rsl.getD j.1 0) < 1000 := by decide
  rw [sh_256 b c ht (a.t1 ht) (hn ⟨j, hj⟩).1 (hn ⟨j, hj⟩).2, (a.tk i t ht).2.1]
  congr 1
  rw [Bool.eq_iff_iff, decide_eq_true_eq, sh_ck_rs hj (a.tk i t ht).1, Bool.and_eq_true, decide_eq_true_eq]
theorem sh_Wq.nm {N : Nat} {K : Nat → Int32} {P V : Nat → Nat} {m : sh_X} (h : sh_Wq N K P V m) {i : Nat} (hi : i ≤ N) : sf_259 (Int32.ofNat i) m = some (decide (K i = 1)) := by
  obtain ⟨_, B, n, ts, a, b, c⟩ := h
  obtain ⟨t, ht⟩ := a.at hi
  rw [sh_259 b c ht (a.t1 ht), (a.tk i t ht).2.1]
theorem sh_Wq.ty {N : Nat} {K : Nat → Int32} {P V : Nat → Nat} {m : sh_X} (h : sh_Wq N K P V m) {i : Nat} (hi : i ≤ N) : ∃ x, sf_261 (Int32.ofNat i) m = some x ∧ (x < 0 ↔ ¬ K i = 3) := by
  obtain ⟨_, B, n, ts, a, b, c⟩ := h
  obtain ⟨t, ht⟩ := a.at hi
  refine ⟨_, sh_261 b c ht (a.t1 ht), ?_⟩
  have hr := sh_ty_rng B t.2.1 t.2.2
  rw [(a.tk i t ht).2.1]
  by_cases h1 : t.1 = 1 ∧ sp_ty B t.2.1 t.2.2 ≠ 0
  · rw [if_pos h1]
    have : sh_ck B t = 3 := by unfold sh_ck; rw [if_pos h1.1, if_neg h1.2]
    constructor
    · intro q; exact absurd q (sh_nI0 (by unfold sh_mt; split <;> (try split) <;> omega))
    · intro q; exact absurd this q
  · rw [if_neg h1]
    constructor
    · intro _ q
      have g1 := sh_ck_1 (a.tk i t ht).1 (Or.inr q)
      refine h1 ⟨g1, fun h0 => ?_⟩
      unfold sh_ck at q
      rw [if_pos g1, if_pos h0] at q
      rcases sh_rsv_16 (B := B) (s := t.2.1) (z := t.2.2) sh_rsl 4 (by omega) (by decide) with r | r
      · rw [r] at q; revert q; decide
      · rw [q] at r; revert r; decide
    · intro _; decide
/-- numberOf, typeWord, areSame -/
theorem sh_We.nu {N : Nat} {K : Nat → Int32} {P V : Nat → Nat} {m : sh_X} (h : sh_We N K P V m) {i : Nat} (hi : i ≤ N) (hk : K i = 2) : sf_281 (Int32.ofNat i) m = some (Int64.ofNat (V i)) := by
  obtain ⟨_, B, n, ts, a, b, c⟩ := h
  obtain ⟨t, ht⟩ := a.at hi
  have h2 : t.1 = 2 := by
    rcases a.kk ht with g | ⟨g1, g2, g3, g4⟩
    · rw [g, hk]
    · exact absurd hk g4
  have hT : sh_Tk B n t := by
    rcases (a.tk i t ht).1 with g | g
    · exact g
    · rw [h2] at g; exact absurd g (by decide)
  rw [sh_281 b c ht hT h2, (a.tk i t ht).2.2.2.1 h2]
theorem sh_We.ty {N : Nat} {K : Nat → Int32} {P V : Nat → Nat} {m : sh_X} (h : sh_We N K P V m) {i : Nat} (hi : i ≤ N) (hk : K i = 3) : sf_285 (Int32.ofNat i) m = some (Int32.ofNat (sh_mt (V i))) := by
  obtain ⟨_, B, n, ts, a, b, c⟩ := h
  obtain ⟨t, ht⟩ := a.at hi
  have g1 := sh_ck_1 (a.tk i t ht).1 (Or.inr ((a.tk i t ht).2.1.symm.trans hk))
  have h0 : sp_ty B t.2.1 t.2.2 ≠ 0 := by
    intro h0
    rw [(a.tk i t ht).2.1] at hk
    unfold sh_ck at hk
    rw [if_pos g1, if_pos h0] at hk
    rcases sh_rsv_16 (B := B) (s := t.2.1) (z := t.2.2) sh_rsl 4 (by omega) (by decide) with r | r
    · rw [r] at hk; revert hk; decide
    · rw [hk] at r; revert r; decide
  rw [sh_285 b c ht (a.t1 ht g1) g1 h0, (a.tk i t ht).2.2.2.2 g1 h0]
theorem sh_We.sm {N : Nat} {K : Nat → Int32} {P V : Nat → Nat} {m : sh_X} (h : sh_We N K P V m) {i j : Nat} (hi : i ≤ N) (hj : j ≤ N) (hk : K i = 1) (hl : K j = 1) : sf_279 (Int32.ofNat i) (Int32.ofNat j) m = some (decide (V i = V j)) := by
  obtain ⟨_, B, n, ts, a, b, c⟩ := h
  obtain ⟨t, ht⟩ := a.at hi
  obtain ⟨u, hu⟩ := a.at hj
  have g1 := sh_ck_1 (a.tk i t ht).1 (Or.inl ((a.tk i t ht).2.1.symm.trans hk))
  have g2 := sh_ck_1 (a.tk j u hu).1 (Or.inl ((a.tk j u hu).2.1.symm.trans hl))
  obtain ⟨x, e1, e2⟩ := sh_279 b c ht hu (a.t1 ht g1) (a.t1 hu g2) g1 g2
  rw [e1]
  congr 1
  rw [Bool.eq_iff_iff, e2, decide_eq_true_eq]
  exact (a.nm i j t u ht hu hk hl).symm
