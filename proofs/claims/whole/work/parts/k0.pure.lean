/-! CIRCUITS: numbers and letters of the text -/
/-- a number of the text: where it fails, or what it is and where it ends -/
noncomputable def sj_nu (B : Nat → Int32) (lo hi : Int32) (s : Nat) : Nat → Nat → Nat → Int32 → Nat ⊕ (Int32 × Nat)
  | 0, p, _, _ => .inl p
  | f + 1, p, k, v => if sf_31 (B p) = true then (if k = 9 ∨ (k = 1 ∧ v = 0) then .inl p else sj_nu B lo hi s f (p + 1) (k + 1) (((10 * v) + B p) - 48)) else (if k = 0 ∨ v < lo ∨ hi < v then .inl s else .inr (v, p))
/-- the class reads at p -/
def sj_rc (n p : Nat) (m : sh_X) : Prop := (sh_rf m.T 58 5 = 1) ∧ (sh_ln m.T 1 = 4000) ∧ (m.I 58 6 = Int32.ofNat n) ∧ (m.I 58 7 = Int32.ofNat p)
theorem sj_rc.rf {n p : Nat} {m : sh_X} (h : sj_rc n p m) : sh_rf m.T 58 5 = 1 := h.1
theorem sj_rc.ln {n p : Nat} {m : sh_X} (h : sj_rc n p m) : sh_ln m.T 1 = 4000 := h.2.1
theorem sj_rc.le {n p : Nat} {m : sh_X} (h : sj_rc n p m) : m.I 58 6 = Int32.ofNat n := h.2.2.1
theorem sj_rc.at_ {n p : Nat} {m : sh_X} (h : sj_rc n p m) : m.I 58 7 = Int32.ofNat p := h.2.2.2
theorem sj_rc.mk {n p : Nat} {m : sh_X} (rf : sh_rf m.T 58 5 = 1) (ln : sh_ln m.T 1 = 4000) (le : m.I 58 6 = Int32.ofNat n) (at_ : m.I 58 7 = Int32.ofNat p) : sj_rc n p m := ⟨rf, ln, le, at_⟩
def sj_Cf (m m2 : sh_X) : Prop := (m2.T = m.T) ∧ (m2.J = m.J) ∧ (m2.s = m.s) ∧ (∀ c, c ≠ 58 → m2.I c = m.I c) ∧ (∀ f, f ≠ 7 → m2.I 58 f = m.I 58 f)
theorem sj_Cf.T {m m2 : sh_X} (h : sj_Cf m m2) : m2.T = m.T := h.1
theorem sj_Cf.J {m m2 : sh_X} (h : sj_Cf m m2) : m2.J = m.J := h.2.1
theorem sj_Cf.s {m m2 : sh_X} (h : sj_Cf m m2) : m2.s = m.s := h.2.2.1
theorem sj_Cf.I {m m2 : sh_X} (h : sj_Cf m m2) : ∀ c, c ≠ 58 → m2.I c = m.I c := h.2.2.2.1
theorem sj_Cf.F {m m2 : sh_X} (h : sj_Cf m m2) : ∀ f, f ≠ 7 → m2.I 58 f = m.I 58 f := h.2.2.2.2
theorem sj_Cf.mk {m m2 : sh_X} (T : m2.T = m.T) (J : m2.J = m.J) (s : m2.s = m.s) (I : ∀ c, c ≠ 58 → m2.I c = m.I c) (F : ∀ f, f ≠ 7 → m2.I 58 f = m.I 58 f) : sj_Cf m m2 := ⟨T, J, s, I, F⟩
theorem sj_Cf.refl (m : sh_X) : sj_Cf m m := sj_Cf.mk rfl rfl rfl (fun _ _ => rfl) (fun _ _ => rfl)
theorem sj_Cf.trans {m m2 m3 : sh_X} (h : sj_Cf m m2) (g : sj_Cf m2 m3) : sj_Cf m m3 := sj_Cf.mk (g.T.trans h.T) (g.J.trans h.J) (g.s.trans h.s) (fun c a => (g.I c a).trans (h.I c a)) (fun f a => (g.F f a).trans (h.F f a))
theorem sj_Cf.w {m : sh_X} {x : Int32} : sj_Cf m (m.T, sh_u2 m.I 58 7 x, m.J, m.s) := sj_Cf.mk rfl rfl rfl (fun _ a => se_Ic a) (fun _ a => se_In (fun _ => a))
theorem sj_rc.w {n p q : Nat} {m : sh_X} (h : sj_rc n p m) : sj_rc n q (m.T, sh_u2 m.I 58 7 (Int32.ofNat q), m.J, m.s) := sj_rc.mk h.rf h.ln (by rw [se_In (by omega)]; exact h.le) se_Is
theorem sj_rc.cf {n p : Nat} {m m2 : sh_X} (h : sj_rc n p m) (f : sj_Cf m m2) (e : m2.I 58 7 = m.I 58 7) : sj_rc n p m2 := sj_rc.mk (by rw [f.T]; exact h.rf) (by rw [f.T]; exact h.ln) (by rw [f.F 6 (by omega)]; exact h.le) (by rw [e]; exact h.at_)
/-- the fault of a circuit -/
def sj_ft (q : Int32) (m : sh_X) : sh_X := ⟨m.T ++ [.inr (13, [])], sh_u2 m.I 58 11 q, m.J, m.s + 6⟩
theorem sj_203 {q : Int32} {m : sh_X} (h : m.T.length < 1000000) : sf_203 q m = some (none, sj_ft q m) := by
  unfold sf_203
  rw [if_pos h]
  rfl
theorem sj_202 {n p i : Nat} {m : sh_X} (h : sj_rc n p m) (hn4 : n ≤ 4000) (hi : i < 100000) : sf_202 (Int32.ofNat i) m = some (sh_by (m.I 1) n i) := by
  unfold sf_202
  rw [if_neg (sh_nI0 (by omega)), h.le, h.rf, h.ln]
  by_cases hn : i < n
  · rw [if_pos ((sh_nIlt (by omega) (by omega)).mpr hn), if_pos ((sh_nIlt (by omega) (by omega)).mpr (by omega)), if_pos ((sh_okn (by omega)).mpr (by omega)), sh_nIc (by omega), sh_by_in hn]
  · rw [if_neg (fun q => hn ((sh_nIlt (by omega) (by omega)).mp q)), sh_by_out hn]
theorem sj_dgn {I : Nat → Int32} {n i : Nat} (h : sf_31 (sh_by I n i) = true) : i < n := by
  rcases Nat.lt_or_ge i n with q | q
  · exact q
  · rw [sh_by_out (by omega)] at h
    exact absurd h (by decide)
theorem sj_201l {n : Nat} {B : Nat → Int32} {lo hi : Int32} {s : Nat} (hn4 : n ≤ 4000) : ∀ (f p k : Nat) (v : Int32) (m : sh_X), k + f = 10 → k ≤ 9 → sj_rc n p m → sh_by (m.I 1) n = B → p ≤ n → m.T.length < 1000000 → match sj_nu B lo hi s f p k v with
    | .inl q => ∃ m1, sf_201_11 lo hi (Int32.ofNat s) (Int32.ofNat k) v m = some (none, sj_ft (Int32.ofNat q) m1) ∧ sj_Cf m m1
    | .inr (v2, p2) => ∃ m1, sf_201_11 lo hi (Int32.ofNat s) (Int32.ofNat k) v m = some (some v2, m1) ∧ sj_rc n p2 m1 ∧ sj_Cf m m1 ∧ p2 ≤ n ∧ ¬ v2 < lo ∧ ¬ hi < v2 := by
  intro f
  induction f with
  | zero => intro p k v m hk hk9; exact absurd hk (by omega)
  | succ f ih =>
    intro p k v m hk hk9 h hB hp hl
    have eB : sf_202 (m.I 58 7) m = some (B p) := by rw [h.at_, sj_202 h hn4 (by omega), hB]
    have e9 : ¬ (9 : Int32) < Int32.ofNat k := fun q => by have := (sh_nIlt (a := 9) (by omega) (by omega)).mp q; omega
    have k9 : Int32.ofNat k = 9 ↔ k = 9 := sh_nIeq (b := 9) (by omega) (by omega)
    have k1 : Int32.ofNat k = 1 ↔ k = 1 := sh_nIeq (b := 1) (by omega) (by omega)
    have k0 : Int32.ofNat k = 0 ↔ k = 0 := sh_nIeq (b := 0) (by omega) (by omega)
    have hs : sf_201_11s lo hi (Int32.ofNat s) (Int32.ofNat k) v m = if sf_31 (B p) = true then (if k = 9 ∨ (k = 1 ∧ v = 0) then sf_201_50 lo hi (Int32.ofNat s) (Int32.ofNat k) v m else sf_201_58 lo hi (Int32.ofNat s) (Int32.ofNat k) v m) else sh_up (sf_201_93 lo hi (Int32.ofNat s) (Int32.ofNat k) v m) := by
      unfold sf_201_11s
      rw [if_neg e9, eB, sh_bc_some]
      by_cases hd : sf_31 (B p) = true
      · rw [if_pos hd, if_pos hd]
        by_cases a : k = 9
        · rw [if_pos (k9.mpr a), if_pos (Or.inl a)]
        · rw [if_neg (fun q => a (k9.mp q))]
          by_cases b : k = 1
          · rw [if_pos (k1.mpr b)]
            by_cases c : v = 0
            · rw [if_pos c, if_pos (Or.inr ⟨b, c⟩)]
            · rw [if_neg c, if_neg (fun q => q.elim a (fun q => c q.2))]
          · rw [if_neg (fun q => b (k1.mp q)), if_neg (fun q => q.elim a (fun q => b q.1))]
      · rw [if_neg hd, if_neg hd]
    unfold sj_nu
    by_cases hd : sf_31 (B p) = true
    · rw [if_pos hd]
      rw [if_pos hd] at hs
      have pn : p < n := sj_dgn (I := m.I 1) (by rw [hB]; exact hd)
      by_cases hz : k = 9 ∨ (k = 1 ∧ v = 0)
      · rw [if_pos hz]
        rw [if_pos hz] at hs
        refine ⟨m, ?_, sj_Cf.refl m⟩
        unfold sf_201_11
        refine sh_wend ?_
        show sf_201_11s lo hi (Int32.ofNat s) (Int32.ofNat k) v m = _
        rw [hs]
        unfold sf_201_50
        rw [h.at_, sj_203 hl]
        rfl
      · rw [if_neg hz]
        rw [if_neg hz] at hs
        have h2 : sj_rc n (p + 1) (m.T, sh_u2 m.I 58 7 (Int32.ofNat (p + 1)), m.J, m.s) := h.w
        have e1 : (sh_X.I (m.T, sh_u2 m.I 58 7 (Int32.ofNat (p + 1)), m.J, m.s)) 1 = m.I 1 := se_Ic (by omega)
        have st : sf_201_11 lo hi (Int32.ofNat s) (Int32.ofNat k) v m = sf_201_11 lo hi (Int32.ofNat s) (Int32.ofNat (k + 1)) (((10 * v) + B p) - 48) (m.T, sh_u2 m.I 58 7 (Int32.ofNat (p + 1)), m.J, m.s) := by
          unfold sf_201_11
          refine sh_wstep ?_
          show sf_201_11s lo hi (Int32.ofNat s) (Int32.ofNat k) v m = _
          rw [hs]
          unfold sf_201_58
          rw [eB, sh_bc_some, h.at_, sh_nI1, sh_nI1]
        rw [st]
        have r := ih (p + 1) (k + 1) (((10 * v) + B p) - 48) _ (by omega) (by omega) h2 (by rw [e1]; exact hB) (by omega) hl
        cases hq : sj_nu B lo hi s f (p + 1) (k + 1) (((10 * v) + B p) - 48) with
        | inl q =>
          rw [hq] at r
          obtain ⟨m1, r1, r2⟩ := r
          exact ⟨m1, r1, sj_Cf.w.trans r2⟩
        | inr q =>
          obtain ⟨v2, p2⟩ := q
          rw [hq] at r
          obtain ⟨m1, r1, r2, r3, r4⟩ := r
          exact ⟨m1, r1, r2, sj_Cf.w.trans r3, r4⟩
    · rw [if_neg hd]
      rw [if_neg hd] at hs
      have fin : sf_201_11 lo hi (Int32.ofNat s) (Int32.ofNat k) v m = sf_201_93 lo hi (Int32.ofNat s) (Int32.ofNat k) v m := by
        unfold sf_201_11
        cases hq : sf_201_93 lo hi (Int32.ofNat s) (Int32.ofNat k) v m with
        | none => exact sh_wnone (by show sf_201_11s lo hi (Int32.ofNat s) (Int32.ofNat k) v m = none; rw [hs, hq]; rfl)
        | some r => exact sh_wend (by show sf_201_11s lo hi (Int32.ofNat s) (Int32.ofNat k) v m = some (.inr r); rw [hs, hq]; rfl)
      rw [fin]
      have bd : sf_201_110 (Int32.ofNat s) v m = some (none, sj_ft (Int32.ofNat s) m) := by
        unfold sf_201_110
        rw [sj_203 hl]
        rfl
      unfold sf_201_93
      by_cases a : k = 0
      · rw [if_pos (Or.inl a), if_pos (k0.mpr a)]
        exact ⟨m, bd, sj_Cf.refl m⟩
      · rw [if_neg (fun q => a (k0.mp q))]
        by_cases b : v < lo
        · rw [if_pos (Or.inr (Or.inl b)), if_pos b]
          exact ⟨m, bd, sj_Cf.refl m⟩
        · rw [if_neg b]
          by_cases c : hi < v
          · rw [if_pos (Or.inr (Or.inr c)), if_pos c]
            exact ⟨m, bd, sj_Cf.refl m⟩
          · rw [if_neg (fun q => q.elim a (fun q => q.elim b c)), if_neg c]
            exact ⟨m, rfl, h, sj_Cf.refl m, hp, b, c⟩
/-- the model reads at p -/
def sj_rm (n p : Nat) (m : sh_X) : Prop := (m.I 66 3 = Int32.ofNat n) ∧ (m.I 66 91 = Int32.ofNat p)
theorem sj_rm.le {n p : Nat} {m : sh_X} (h : sj_rm n p m) : m.I 66 3 = Int32.ofNat n := h.1
theorem sj_rm.at_ {n p : Nat} {m : sh_X} (h : sj_rm n p m) : m.I 66 91 = Int32.ofNat p := h.2
theorem sj_rm.mk {n p : Nat} {m : sh_X} (le : m.I 66 3 = Int32.ofNat n) (at_ : m.I 66 91 = Int32.ofNat p) : sj_rm n p m := ⟨le, at_⟩
def sj_Mf (m m2 : sh_X) : Prop := (m2.T = m.T) ∧ (m2.J = m.J) ∧ (m2.s = m.s) ∧ (∀ c, c ≠ 66 → m2.I c = m.I c) ∧ (∀ f, f ≠ 91 → f ≠ 92 → f ≠ 93 → m2.I 66 f = m.I 66 f)
theorem sj_Mf.T {m m2 : sh_X} (h : sj_Mf m m2) : m2.T = m.T := h.1
theorem sj_Mf.J {m m2 : sh_X} (h : sj_Mf m m2) : m2.J = m.J := h.2.1
theorem sj_Mf.s {m m2 : sh_X} (h : sj_Mf m m2) : m2.s = m.s := h.2.2.1
theorem sj_Mf.I {m m2 : sh_X} (h : sj_Mf m m2) : ∀ c, c ≠ 66 → m2.I c = m.I c := h.2.2.2.1
theorem sj_Mf.F {m m2 : sh_X} (h : sj_Mf m m2) : ∀ f, f ≠ 91 → f ≠ 92 → f ≠ 93 → m2.I 66 f = m.I 66 f := h.2.2.2.2
theorem sj_Mf.mk {m m2 : sh_X} (T : m2.T = m.T) (J : m2.J = m.J) (s : m2.s = m.s) (I : ∀ c, c ≠ 66 → m2.I c = m.I c) (F : ∀ f, f ≠ 91 → f ≠ 92 → f ≠ 93 → m2.I 66 f = m.I 66 f) : sj_Mf m m2 := ⟨T, J, s, I, F⟩
theorem sj_Mf.refl (m : sh_X) : sj_Mf m m := sj_Mf.mk rfl rfl rfl (fun _ _ => rfl) (fun _ _ _ _ => rfl)
theorem sj_Mf.trans {m m2 m3 : sh_X} (h : sj_Mf m m2) (g : sj_Mf m2 m3) : sj_Mf m m3 := sj_Mf.mk (g.T.trans h.T) (g.J.trans h.J) (g.s.trans h.s) (fun c a => (g.I c a).trans (h.I c a)) (fun f a b c => (g.F f a b c).trans (h.F f a b c))
theorem sj_Mf.w {m : sh_X} {f : Nat} {x : Int32} (hf : f = 91 ∨ f = 92 ∨ f = 93) : sj_Mf m (m.T, sh_u2 m.I 66 f x, m.J, m.s) := sj_Mf.mk rfl rfl rfl (fun _ a => se_Ic a) (fun g a b c => se_In (by omega))
theorem sj_249 {n p i : Nat} {m : sh_X} (h : sj_rm n p m) (hn4 : n ≤ 4000) (hi : i < 100000) : sf_249 (Int32.ofNat i) m = some (sh_by (m.I 67) n i) := sh_249 (sh_Bm.mk h.le hn4) hi
theorem sj_252 {k q : Int32} {m : sh_X} : sf_252 k q m = some (false, sh_mft k q m) := rfl
theorem sj_326l {n : Nat} {B : Nat → Int32} {lo hi : Int32} {s : Nat} (hn4 : n ≤ 4000) : ∀ (f p k : Nat) (v : Int32) (m : sh_X), k + f = 10 → k ≤ 9 → (k = 0 → sf_31 (B p) = true) → sj_rm n p m → m.I 66 92 = v → m.I 66 93 = Int32.ofNat s → sh_by (m.I 67) n = B → p ≤ n → match sj_nu B lo hi s f p k v with
    | .inl q => ∃ m1, sf_326_39 lo hi (Int32.ofNat k) m = some (false, sh_mft 2 (Int32.ofNat q) m1) ∧ sj_Mf m m1
    | .inr (v2, p2) => ∃ m1, sf_326_39 lo hi (Int32.ofNat k) m = some (true, m1) ∧ sj_rm n p2 m1 ∧ m1.I 66 92 = v2 ∧ m1.I 66 93 = Int32.ofNat s ∧ sj_Mf m m1 := by
  intro f
  induction f with
  | zero => intro p k v m hk hk9; exact absurd hk (by omega)
  | succ f ih =>
    intro p k v m hk hk9 hk0 h hv h93 hB hp
    have eB : sf_249 (m.I 66 91) m = some (B p) := by rw [h.at_, sj_249 h hn4 (by omega), hB]
    have k9 : Int32.ofNat k = 9 ↔ k = 9 := sh_nIeq (b := 9) (by omega) (by omega)
    have k1 : Int32.ofNat k = 1 ↔ k = 1 := sh_nIeq (b := 1) (by omega) (by omega)
    have hs : sf_326_39s lo hi (Int32.ofNat k) m = if sf_31 (B p) = true then (if k = 9 ∨ (k = 1 ∧ v = 0) then sh_up (sf_326_71 m) else sf_326_81 lo hi (Int32.ofNat k) m) else (if v < lo ∨ hi < v then sh_up (sf_326_136 m) else sh_up (sf_326_148 m)) := by
      unfold sf_326_39s
      rw [eB, sh_bc_some, sh_251, hv]
      by_cases hd : sf_31 (B p) = true
      · rw [if_pos hd, if_pos hd]
        by_cases a : k = 9
        · rw [if_pos (k9.mpr a), if_pos (Or.inl a)]
        · rw [if_neg (fun q => a (k9.mp q))]
          by_cases b : k = 1
          · rw [if_pos (k1.mpr b)]
            by_cases c : v = 0
            · rw [if_pos c, if_pos (Or.inr ⟨b, c⟩)]
            · rw [if_neg c, if_neg (fun q => q.elim a (fun q => c q.2))]
          · rw [if_neg (fun q => b (k1.mp q)), if_neg (fun q => q.elim a (fun q => b q.1))]
      · rw [if_neg hd, if_neg hd]
        by_cases a : v < lo
        · rw [if_pos a, if_pos (Or.inl a)]
        · rw [if_neg a]
          by_cases b : hi < v
          · rw [if_pos b, if_pos (Or.inr b)]
          · rw [if_neg b, if_neg (fun q => q.elim a b)]
    unfold sj_nu
    by_cases hd : sf_31 (B p) = true
    · rw [if_pos hd]
      rw [if_pos hd] at hs
      have pn : p < n := sj_dgn (I := m.I 67) (by rw [hB]; exact hd)
      by_cases hz : k = 9 ∨ (k = 1 ∧ v = 0)
      · rw [if_pos hz]
        rw [if_pos hz] at hs
        refine ⟨m, ?_, sj_Mf.refl m⟩
        unfold sf_326_39
        refine sh_wend ?_
        show sf_326_39s lo hi (Int32.ofNat k) m = _
        rw [hs]
        unfold sf_326_71
        rw [h.at_, sj_252]
        rfl
      · rw [if_neg hz]
        rw [if_neg hz] at hs
        obtain ⟨m2, hm2⟩ : ∃ m2 : sh_X, (m.T, sh_u2 (sh_u2 m.I 66 92 (((10 * v) + B p) - 48)) 66 91 (Int32.ofNat (p + 1)), m.J, m.s) = m2 := ⟨_, rfl⟩
        have f2 : sj_Mf m m2 := by rw [← hm2]; exact (sj_Mf.w (f := 92) (by omega)).trans (sj_Mf.w (m := (m.T, sh_u2 m.I 66 92 (((10 * v) + B p) - 48), m.J, m.s)) (f := 91) (by omega))
        have h2 : sj_rm n (p + 1) m2 := sj_rm.mk (by rw [f2.F 3 (by omega) (by omega) (by omega)]; exact h.le) (by rw [← hm2]; exact se_Is)
        have st : sf_326_39 lo hi (Int32.ofNat k) m = sf_326_39 lo hi (Int32.ofNat (k + 1)) m2 := by
          unfold sf_326_39
          refine sh_wstep ?_
          show sf_326_39s lo hi (Int32.ofNat k) m = _
          rw [hs]
          unfold sf_326_81
          rw [eB, sh_bc_some, h.at_, sh_nI1, sh_nI1, hv, hm2]
        rw [st]
        have r := ih (p + 1) (k + 1) (((10 * v) + B p) - 48) m2 (by omega) (by omega) (fun q => absurd q (by omega)) h2 (by rw [← hm2, se_In (by omega), sh_u2_same]) (by rw [← hm2, se_In (by omega), sh_u2_idx (by omega)]; exact h93) (by rw [f2.I 67 (by omega)]; exact hB) (by omega)
        cases hq : sj_nu B lo hi s f (p + 1) (k + 1) (((10 * v) + B p) - 48) with
        | inl q =>
          rw [hq] at r
          obtain ⟨m1, r1, r2⟩ := r
          exact ⟨m1, r1, f2.trans r2⟩
        | inr q =>
          obtain ⟨v2, p2⟩ := q
          rw [hq] at r
          obtain ⟨m1, r1, r2, r3, r4, r5⟩ := r
          exact ⟨m1, r1, r2, r3, r4, f2.trans r5⟩
    · have k0 : ¬ k = 0 := fun q => hd (hk0 q)
      rw [if_neg hd]
      rw [if_neg hd] at hs
      by_cases b : v < lo ∨ hi < v
      · rw [if_pos (Or.inr b)]
        rw [if_pos b] at hs
        refine ⟨m, ?_, sj_Mf.refl m⟩
        unfold sf_326_39
        refine sh_wend ?_
        show sf_326_39s lo hi (Int32.ofNat k) m = _
        rw [hs]
        unfold sf_326_136
        rw [h93, sj_252]
        rfl
      · rw [if_neg (fun q => q.elim k0 b)]
        rw [if_neg b] at hs
        refine ⟨m, ?_, h, hv, h93, sj_Mf.refl m⟩
        unfold sf_326_39
        refine sh_wend ?_
        show sf_326_39s lo hi (Int32.ofNat k) m = _
        rw [hs]
        rfl
/-- both read at p -/
def sj_P (n : Nat) (B : Nat → Int32) (p : Nat) (mc mm : sh_X) : Prop := (sj_rc n p mc) ∧ (sj_rm n p mm) ∧ (sh_by (mc.I 1) n = B) ∧ (sh_by (mm.I 67) n = B) ∧ (p ≤ n) ∧ (n ≤ 4000) ∧ (mc.T.length < 900001)
theorem sj_P.c {n : Nat} {B : Nat → Int32} {p : Nat} {mc mm : sh_X} (h : sj_P n B p mc mm) : sj_rc n p mc := h.1
theorem sj_P.m {n : Nat} {B : Nat → Int32} {p : Nat} {mc mm : sh_X} (h : sj_P n B p mc mm) : sj_rm n p mm := h.2.1
theorem sj_P.bc {n : Nat} {B : Nat → Int32} {p : Nat} {mc mm : sh_X} (h : sj_P n B p mc mm) : sh_by (mc.I 1) n = B := h.2.2.1
theorem sj_P.bm {n : Nat} {B : Nat → Int32} {p : Nat} {mc mm : sh_X} (h : sj_P n B p mc mm) : sh_by (mm.I 67) n = B := h.2.2.2.1
theorem sj_P.pn {n : Nat} {B : Nat → Int32} {p : Nat} {mc mm : sh_X} (h : sj_P n B p mc mm) : p ≤ n := h.2.2.2.2.1
theorem sj_P.n4 {n : Nat} {B : Nat → Int32} {p : Nat} {mc mm : sh_X} (h : sj_P n B p mc mm) : n ≤ 4000 := h.2.2.2.2.2.1
theorem sj_P.tl {n : Nat} {B : Nat → Int32} {p : Nat} {mc mm : sh_X} (h : sj_P n B p mc mm) : mc.T.length < 900001 := h.2.2.2.2.2.2
theorem sj_P.mk {n : Nat} {B : Nat → Int32} {p : Nat} {mc mm : sh_X} (c : sj_rc n p mc) (m : sj_rm n p mm) (bc : sh_by (mc.I 1) n = B) (bm : sh_by (mm.I 67) n = B) (pn : p ≤ n) (n4 : n ≤ 4000) (tl : mc.T.length < 900001) : sj_P n B p mc mm := ⟨c, m, bc, bm, pn, n4, tl⟩
/-- both fail at the same place -/
def sj_bd {α : Type} (ec : Option (Option α × sh_X)) (em : Option (Bool × sh_X)) (mc mm : sh_X) : Prop := ∃ q m1 m2, ec = some (none, sj_ft (Int32.ofNat q) m1) ∧ em = some (false, sh_mft 2 (Int32.ofNat q) m2) ∧ sj_Cf mc m1 ∧ sj_Mf mm m2
theorem sj_i32 {lo hi : Nat} {v : Int32} (h1 : ¬ v < Int32.ofNat lo) (h2 : ¬ Int32.ofNat hi < v) (hl : lo < 1000000) (hh : hi < 1000000) : ∃ x, v = Int32.ofNat x ∧ lo ≤ x ∧ x ≤ hi := by
  have a : (Int32.ofNat lo).toInt = lo := sh_nI (by omega)
  have b : (Int32.ofNat hi).toInt = hi := sh_nI (by omega)
  have c1 : (lo : Int) ≤ v.toInt := by
    have : ¬ v.toInt < (Int32.ofNat lo).toInt := fun q => h1 (Int32.lt_iff_toInt_lt.mpr q)
    omega
  have c2 : v.toInt ≤ (hi : Int) := by
    have : ¬ (Int32.ofNat hi).toInt < v.toInt := fun q => h2 (Int32.lt_iff_toInt_lt.mpr q)
    omega
  refine ⟨v.toInt.toNat, ?_, by omega, by omega⟩
  apply Int32.toInt_inj.mp
  rw [sh_nI (by omega)]
  omega
theorem sj_num {n p lo hi : Nat} {B : Nat → Int32} {mc mm : sh_X} (h : sj_P n B p mc mm) (hl : lo < 1000000) (hh : hi < 1000000) :
    sj_bd (sf_201 (Int32.ofNat lo) (Int32.ofNat hi) mc) (sf_326 (Int32.ofNat lo) (Int32.ofNat hi) mm) mc mm ∨
    ∃ v p2 m1 m2, sf_201 (Int32.ofNat lo) (Int32.ofNat hi) mc = some (some (Int32.ofNat v), m1) ∧ sf_326 (Int32.ofNat lo) (Int32.ofNat hi) mm = some (true, m2) ∧ lo ≤ v ∧ v ≤ hi ∧ sj_P n B p2 m1 m2 ∧ sj_Cf mc m1 ∧ sj_Mf mm m2 ∧ m2.I 66 92 = Int32.ofNat v ∧ m2.I 66 93 = Int32.ofNat p := by
  have n4 := h.n4
  have pn := h.pn
  obtain ⟨mm1, hmm1⟩ : ∃ mm1 : sh_X, (mm.T, sh_u2 (sh_u2 mm.I 66 93 (Int32.ofNat p)) 66 92 0, mm.J, mm.s) = mm1 := ⟨_, rfl⟩
  have f1 : sj_Mf mm mm1 := by rw [← hmm1]; exact (sj_Mf.w (f := 93) (by omega)).trans (sj_Mf.w (m := (mm.T, sh_u2 mm.I 66 93 (Int32.ofNat p), mm.J, mm.s)) (f := 92) (by omega))
  have r1 : sj_rm n p mm1 := sj_rm.mk (by rw [f1.F 3 (by omega) (by omega) (by omega)]; exact h.m.le) (by rw [← hmm1, se_In (by omega), sh_u2_idx (by omega)]; exact h.m.at_)
  have b1 : sh_by (mm1.I 67) n = B := by rw [f1.I 67 (by omega)]; exact h.bm
  have z2 : mm1.I 66 92 = 0 := by rw [← hmm1]; exact se_Is
  have z3 : mm1.I 66 93 = Int32.ofNat p := by rw [← hmm1, se_In (by omega), sh_u2_same]
  have ec : sf_201 (Int32.ofNat lo) (Int32.ofNat hi) mc = sf_201_11 (Int32.ofNat lo) (Int32.ofNat hi) (Int32.ofNat p) (Int32.ofNat 0) 0 mc := by
    unfold sf_201
    rw [h.c.at_]
    rfl
  have em : sf_326 (Int32.ofNat lo) (Int32.ofNat hi) mm = if sf_31 (B p) = true then sf_326_39 (Int32.ofNat lo) (Int32.ofNat hi) (Int32.ofNat 0) mm1 else some (false, sh_mft 2 (Int32.ofNat p) mm1) := by
    unfold sf_326
    rw [h.m.at_, hmm1, sj_249 r1 n4 (by omega), b1, sh_bc_some, sh_251, sj_252]
    rfl
  have rc := sj_201l (B := B) (lo := Int32.ofNat lo) (hi := Int32.ofNat hi) (s := p) n4 10 p 0 0 mc (by omega) (by omega) h.c h.bc pn (by have := h.tl; omega)
  by_cases hd : sf_31 (B p) = true
  · rw [if_pos hd] at em
    have rm := sj_326l (B := B) (lo := Int32.ofNat lo) (hi := Int32.ofNat hi) (s := p) n4 10 p 0 0 mm1 (by omega) (by omega) (fun _ => hd) r1 z2 z3 b1 pn
    cases hq : sj_nu B (Int32.ofNat lo) (Int32.ofNat hi) p 10 p 0 0 with
    | inl q =>
      rw [hq] at rc rm
      obtain ⟨m1, c1, c2⟩ := rc
      obtain ⟨m2, d1, d2⟩ := rm
      exact Or.inl ⟨q, m1, m2, by rw [ec]; exact c1, by rw [em]; exact d1, c2, f1.trans d2⟩
    | inr q =>
      obtain ⟨v, p2⟩ := q
      rw [hq] at rc rm
      obtain ⟨m1, c1, c2, c3, c4, c5, c6⟩ := rc
      obtain ⟨m2, d1, d2, d3, d4, d5⟩ := rm
      obtain ⟨x, x1, x2, x3⟩ := sj_i32 c5 c6 hl hh
      refine Or.inr ⟨x, p2, m1, m2, by rw [ec, ← x1]; exact c1, by rw [em]; exact d1, x2, x3, sj_P.mk c2 d2 (by rw [c3.I 1 (by omega)]; exact h.bc) (by rw [d5.I 67 (by omega)]; exact b1) c4 n4 (by rw [c3.T]; exact h.tl), c3, f1.trans d5, by rw [d3, x1], d4⟩
  · rw [if_neg hd] at em
    have e : sj_nu B (Int32.ofNat lo) (Int32.ofNat hi) p 10 p 0 0 = .inl p := by
      show (if sf_31 (B p) = true then _ else _) = _
      rw [if_neg hd, if_pos (Or.inl rfl)]
    rw [e] at rc
    obtain ⟨m1, c1, c2⟩ := rc
    exact Or.inl ⟨p, m1, mm1, by rw [ec]; exact c1, em, c2, f1⟩
/-- a letter of the text -/
theorem sj_chr {n p x : Nat} {B : Nat → Int32} {mc mm : sh_X} (h : sj_P n B p mc mm) (hx : x < 256) :
    sj_bd (sf_204 (Int32.ofNat x) mc) (sf_327 (Int32.ofNat x) mm) mc mm ∨
    ∃ m1 m2, sf_204 (Int32.ofNat x) mc = some (some (), m1) ∧ sf_327 (Int32.ofNat x) mm = some (true, m2) ∧ sj_P n B (p + 1) m1 m2 ∧ sj_Cf mc m1 ∧ sj_Mf mm m2 ∧ m2.I 66 92 = mm.I 66 92 ∧ m2.I 66 93 = mm.I 66 93 := by
  have n4 := h.n4
  have pn := h.pn
  have ec : sf_202 (mc.I 58 7) mc = some (B p) := by rw [h.c.at_, sj_202 h.c n4 (by omega), h.bc]
  have em : sf_249 (mm.I 66 91) mm = some (B p) := by rw [h.m.at_, sj_249 h.m n4 (by omega), h.bm]
  unfold sf_204 sf_327
  rw [ec, em, sh_bc_some, sh_bc_some]
  by_cases hq : B p = Int32.ofNat x
  · rw [if_pos hq, if_pos hq]
    have pl : p < n := by
      rcases Nat.lt_or_ge p n with q | q
      · exact q
      · rw [← h.bc, sh_by_out (by omega)] at hq
        have := congrArg Int32.toInt hq
        rw [sh_nI (by omega)] at this
        have e : (-1 : Int32).toInt = -1 := by decide
        omega
    refine Or.inr ⟨(mc.T, sh_u2 mc.I 58 7 (Int32.ofNat (p + 1)), mc.J, mc.s), (mm.T, sh_u2 mm.I 66 91 (Int32.ofNat (p + 1)), mm.J, mm.s), ?_, ?_, sj_P.mk h.c.w (sj_rm.mk (by rw [se_In (by omega)]; exact h.m.le) se_Is) (by rw [se_Ic (by omega)]; exact h.bc) (by rw [se_Ic (by omega)]; exact h.bm) (by omega) n4 h.tl, sj_Cf.w, sj_Mf.w (by omega), se_In (by omega), se_In (by omega)⟩
    · unfold sf_204_20
      rw [h.c.at_, sh_nI1]
    · rw [h.m.at_, sh_nI1]
  · rw [if_neg hq, if_neg hq]
    refine Or.inl ⟨p, mc, mm, ?_, ?_, sj_Cf.refl mc, sj_Mf.refl mm⟩
    · rw [h.c.at_, sj_203 (by have := h.tl; omega)]
      rfl
    · rw [h.m.at_, sj_252]
      rfl
