/-! the lexer of the class: the words that were found -/
noncomputable def sh_ck (B : Nat → Int32) (t : sh_Tok) : Int32 := if t.1 = 1 then (if sp_ty B t.2.1 t.2.2 = 0 then sh_rsv B t.2.1 t.2.2 sh_rsl 4 else 3) else t.1
def sh_dvn (B : Nat → Int32) (s : Nat) : Nat → Nat
  | 0 => 0
  | i + 1 => 10 * sh_dvn B s i + sh_dgt (B (s + i))
def sh_nu (B : Nat → Int32) (nm : List (Nat × Nat)) (t : sh_Tok) (x : Int64) : Prop :=
  (t.1 = 2 → x = Int64.ofNat (sh_dvn B t.2.1 t.2.2)) ∧ (t.1 = 1 → sp_ty B t.2.1 t.2.2 ≠ 0 → x = Int32.toInt64 (Int32.ofNat (sp_ty B t.2.1 t.2.2))) ∧ (t.1 = 1 → sh_ck B t = 1 → ∃ a w, nm[a]? = some w ∧ sp_sw B w t.2 ∧ x = Int32.toInt64 (Int32.ofNat a))
def sh_Cw (B : Nat → Int32) (ts : List sh_Tok) (nm : List (Nat × Nat)) (m : sh_X) : Prop := (m.I 2 7 = Int32.ofNat ts.length) ∧ (∀ i t, ts[i]? = some t → m.I 3 i = sh_ck B t ∧ m.I 4 i = Int32.ofNat t.2.1 ∧ sh_nu B nm t (m.J 5 i)) ∧ (m.I 2 8 = Int32.ofNat nm.length) ∧ (∀ a w, nm[a]? = some w → m.I 6 a = Int32.ofNat w.1 ∧ m.I 7 a = Int32.ofNat w.2 ∧ w.1 < 4000 ∧ w.2 ≤ 12) ∧ (∀ (a b : Nat) (u v : Nat × Nat), nm[a]? = some u → nm[b]? = some v → sp_sw B u v → a = b)
theorem sh_Cw.am {B : Nat → Int32} {ts : List sh_Tok} {nm : List (Nat × Nat)} {m : sh_X} (h : sh_Cw B ts nm m) : m.I 2 7 = Int32.ofNat ts.length := h.1
theorem sh_Cw.kd {B : Nat → Int32} {ts : List sh_Tok} {nm : List (Nat × Nat)} {m : sh_X} (h : sh_Cw B ts nm m) : ∀ i t, ts[i]? = some t → m.I 3 i = sh_ck B t ∧ m.I 4 i = Int32.ofNat t.2.1 ∧ sh_nu B nm t (m.J 5 i) := h.2.1
theorem sh_Cw.nc {B : Nat → Int32} {ts : List sh_Tok} {nm : List (Nat × Nat)} {m : sh_X} (h : sh_Cw B ts nm m) : m.I 2 8 = Int32.ofNat nm.length := h.2.2.1
theorem sh_Cw.ns {B : Nat → Int32} {ts : List sh_Tok} {nm : List (Nat × Nat)} {m : sh_X} (h : sh_Cw B ts nm m) : ∀ a w, nm[a]? = some w → m.I 6 a = Int32.ofNat w.1 ∧ m.I 7 a = Int32.ofNat w.2 ∧ w.1 < 4000 ∧ w.2 ≤ 12 := h.2.2.2.1
theorem sh_Cw.nd {B : Nat → Int32} {ts : List sh_Tok} {nm : List (Nat × Nat)} {m : sh_X} (h : sh_Cw B ts nm m) : ∀ (a b : Nat) (u v : Nat × Nat), nm[a]? = some u → nm[b]? = some v → sp_sw B u v → a = b := h.2.2.2.2
theorem sh_Cw.mk {B : Nat → Int32} {ts : List sh_Tok} {nm : List (Nat × Nat)} {m : sh_X} (am : m.I 2 7 = Int32.ofNat ts.length) (kd : ∀ i t, ts[i]? = some t → m.I 3 i = sh_ck B t ∧ m.I 4 i = Int32.ofNat t.2.1 ∧ sh_nu B nm t (m.J 5 i)) (nc : m.I 2 8 = Int32.ofNat nm.length) (ns : ∀ a w, nm[a]? = some w → m.I 6 a = Int32.ofNat w.1 ∧ m.I 7 a = Int32.ofNat w.2 ∧ w.1 < 4000 ∧ w.2 ≤ 12) (nd : ∀ (a b : Nat) (u v : Nat × Nat), nm[a]? = some u → nm[b]? = some v → sp_sw B u v → a = b) : sh_Cw B ts nm m := ⟨am, kd, nc, ns, nd⟩
/-- what the lexer leaves as it was -/
def sh_Lf (m m2 : sh_X) : Prop := (m2.T = m.T) ∧ (m2.s = m.s) ∧ (∀ c, c ≠ 2 → c ≠ 3 → c ≠ 4 → c ≠ 6 → c ≠ 7 → m2.I c = m.I c) ∧ (∀ j, j ≠ 7 → j ≠ 8 → m2.I 2 j = m.I 2 j) ∧ (∀ c, c ≠ 5 → m2.J c = m.J c)
theorem sh_Lf.T {m m2 : sh_X} (h : sh_Lf m m2) : m2.T = m.T := h.1
theorem sh_Lf.s {m m2 : sh_X} (h : sh_Lf m m2) : m2.s = m.s := h.2.1
theorem sh_Lf.I {m m2 : sh_X} (h : sh_Lf m m2) : ∀ c, c ≠ 2 → c ≠ 3 → c ≠ 4 → c ≠ 6 → c ≠ 7 → m2.I c = m.I c := h.2.2.1
theorem sh_Lf.I2 {m m2 : sh_X} (h : sh_Lf m m2) : ∀ j, j ≠ 7 → j ≠ 8 → m2.I 2 j = m.I 2 j := h.2.2.2.1
theorem sh_Lf.J {m m2 : sh_X} (h : sh_Lf m m2) : ∀ c, c ≠ 5 → m2.J c = m.J c := h.2.2.2.2
theorem sh_Lf.mk {m m2 : sh_X} (T : m2.T = m.T) (s : m2.s = m.s) (I : ∀ c, c ≠ 2 → c ≠ 3 → c ≠ 4 → c ≠ 6 → c ≠ 7 → m2.I c = m.I c) (I2 : ∀ j, j ≠ 7 → j ≠ 8 → m2.I 2 j = m.I 2 j) (J : ∀ c, c ≠ 5 → m2.J c = m.J c) : sh_Lf m m2 := ⟨T, s, I, I2, J⟩
theorem sh_Lf.refl (m : sh_X) : sh_Lf m m := sh_Lf.mk rfl rfl (fun _ _ _ _ _ _ => rfl) (fun _ _ _ => rfl) (fun _ _ => rfl)
theorem sh_Lf.trans {m m2 m3 : sh_X} (h : sh_Lf m m2) (g : sh_Lf m2 m3) : sh_Lf m m3 := sh_Lf.mk (g.T.trans h.T) (g.s.trans h.s) (fun c a b d e f => (g.I c a b d e f).trans (h.I c a b d e f)) (fun j a b => (g.I2 j a b).trans (h.I2 j a b)) (fun c a => (g.J c a).trans (h.J c a))
theorem sh_Lf.Bc {n : Nat} {m m2 : sh_X} (f : sh_Lf m m2) (h : sh_Bc n m) : sh_Bc n m2 := sh_Bc.mk (by rw [f.T]; exact h.rf) (by rw [f.T]; exact h.ln) (by rw [f.I2 6 (by omega) (by omega)]; exact h.le) h.n4
theorem sh_Lf.B {n : Nat} {m m2 : sh_X} (f : sh_Lf m m2) : sh_by (m2.I 1) n = sh_by (m.I 1) n := by rw [f.I 1 (by omega) (by omega) (by omega) (by omega) (by omega)]
/-- Words.add -/
theorem sh_38 {B : Nat → Int32} {ts : List sh_Tok} {nm : List (Nat × Nat)} {m : sh_X} {k : Int32} {x : Int64} {t : sh_Tok} (h : sh_Cw B ts nm m) (hl : ts.length < 4001) (hk : sh_ck B t = k) (hx : sh_nu B nm t x) : ∃ m2, sf_38 k (Int32.ofNat t.2.1) x m = some ((), m2) ∧ sh_Cw B (ts ++ [t]) nm m2 ∧ sh_Lf m m2 := by
  have hlt : m.I 2 7 < 4001 := by rw [h.am]; exact (sh_nIlt (b := 4001) (by omega) (by omega)).mpr hl
  have hok : sh_okb (m.I 2 7) 4001 = true := by rw [h.am]; exact (sh_okn (by omega)).mpr hl
  have hc : Int32.toNatClampNeg (m.I 2 7) = ts.length := by rw [h.am]; exact sh_nIc (by omega)
  refine ⟨_, by unfold sf_38; rw [if_pos hlt, if_pos hok, if_pos hok, if_pos hok, hc], ?_, ?_⟩
  · refine sh_Cw.mk ?_ ?_ ?_ ?_ h.nd
    · show sh_u2 (sh_u2 (sh_u2 m.I 3 ts.length k) 4 ts.length (Int32.ofNat t.2.1)) 2 7 (m.I 2 7 + 1) 2 7 = _
      rw [sh_u2_same, h.am, sh_nI1, List.length_append]
      rfl
    · intro i u hu
      show sh_u2 (sh_u2 (sh_u2 m.I 3 ts.length k) 4 ts.length (Int32.ofNat t.2.1)) 2 7 (m.I 2 7 + 1) 3 i = _ ∧ sh_u2 (sh_u2 (sh_u2 m.I 3 ts.length k) 4 ts.length (Int32.ofNat t.2.1)) 2 7 (m.I 2 7 + 1) 4 i = _ ∧ sh_nu B nm u (sh_u2 m.J 5 ts.length x 5 i)
      rw [sh_u2_cell (show (3 : Nat) ≠ 2 by omega), sh_u2_cell (show (3 : Nat) ≠ 4 by omega), sh_u2_cell (show (4 : Nat) ≠ 2 by omega)]
      by_cases hi : i < ts.length
      · rw [List.getElem?_append_left hi] at hu
        rw [sh_u2_idx (by omega), sh_u2_idx (by omega), sh_u2_cell (show (4 : Nat) ≠ 3 by omega), sh_u2_idx (by omega)]
        exact h.kd i u hu
      · by_cases hi2 : i = ts.length
        · subst hi2
          rw [List.getElem?_append_right (Nat.le_refl _), Nat.sub_self] at hu
          cases hu
          rw [sh_u2_same, sh_u2_same, sh_u2_same]
          exact ⟨hk.symm, rfl, hx⟩
        · rw [List.getElem?_eq_none (by simp; omega)] at hu
          cases hu
    · show sh_u2 (sh_u2 (sh_u2 m.I 3 ts.length k) 4 ts.length (Int32.ofNat t.2.1)) 2 7 (m.I 2 7 + 1) 2 8 = _
      rw [sh_u2_idx (by omega), sh_u2_cell (by omega), sh_u2_cell (by omega)]
      exact h.nc
    · intro a w hw
      show sh_u2 (sh_u2 (sh_u2 m.I 3 ts.length k) 4 ts.length (Int32.ofNat t.2.1)) 2 7 (m.I 2 7 + 1) 6 a = _ ∧ sh_u2 (sh_u2 (sh_u2 m.I 3 ts.length k) 4 ts.length (Int32.ofNat t.2.1)) 2 7 (m.I 2 7 + 1) 7 a = _ ∧ _
      rw [sh_u2_cell (by omega), sh_u2_cell (by omega), sh_u2_cell (by omega), sh_u2_cell (by omega), sh_u2_cell (by omega), sh_u2_cell (by omega)]
      exact h.ns a w hw
  · refine sh_Lf.mk rfl rfl ?_ ?_ ?_
    · intro c h2 h3 h4 h6 h7
      show sh_u2 (sh_u2 (sh_u2 m.I 3 ts.length k) 4 ts.length (Int32.ofNat t.2.1)) 2 7 (m.I 2 7 + 1) c = _
      rw [sh_u2_cell h2, sh_u2_cell h4, sh_u2_cell h3]
    · intro j h7 h8
      show sh_u2 (sh_u2 (sh_u2 m.I 3 ts.length k) 4 ts.length (Int32.ofNat t.2.1)) 2 7 (m.I 2 7 + 1) 2 j = _
      rw [sh_u2_idx h7, sh_u2_cell (by omega), sh_u2_cell (by omega)]
    · intro c h5
      exact sh_u2_cell h5
/-- nameNumber -/
theorem sh_36 {n : Nat} {ts : List sh_Tok} {nm : List (Nat × Nat)} {m : sh_X} {s z : Nat} (hB : sh_Bc n m) (h : sh_Cw (sh_by (m.I 1) n) ts nm m) (hs : s < 4000) (hz : z ≤ 12) (hl : nm.length < 2001) : ∃ a nm2 m2, sf_36 (Int32.ofNat s) (Int32.ofNat z) m = some (Int32.ofNat a, m2) ∧ sh_Cw (sh_by (m.I 1) n) ts nm2 m2 ∧ sh_Lf m m2 ∧ nm2.length ≤ nm.length + 1 ∧ (∃ w, nm2[a]? = some w ∧ sp_sw (sh_by (m.I 1) n) w (s, z)) := by
  generalize hBy : sh_by (m.I 1) n = B at *
  have hsame : ∀ a w, nm[a]? = some w → ∃ b, (m.I 7 a = Int32.ofNat z → sf_37 (m.I 6 a) (Int32.ofNat s) (Int32.ofNat z) m = some b) ∧ ((m.I 7 a = Int32.ofNat z ∧ b = true) ↔ sp_sw B w (s, z)) := by
    intro a w hw
    obtain ⟨h1, h2, h3, h4⟩ := h.ns a w hw
    obtain ⟨b, hb, hbi⟩ := sh_37 (s := w.1) (t := s) (z := z) hB (by omega) (by omega) (by omega)
    rw [hBy] at hbi
    refine ⟨b, fun _ => by rw [h1]; exact hb, ?_⟩
    rw [hbi, h2, sh_nIeq (by omega) (by omega)]
    constructor
    · rintro ⟨e, g⟩; exact ⟨e, fun k hk => g k (by omega)⟩
    · rintro ⟨e, g⟩; exact ⟨e, fun k hk => g k (by rw [e]; exact hk)⟩
  have hstep : ∀ a, a < nm.length → ∀ w, nm[a]? = some w → (sp_sw B w (s, z) → sf_36_2s (Int32.ofNat s) (Int32.ofNat z) (Int32.ofNat a) m = some (.inr (Int32.ofNat a, m))) ∧ (¬ sp_sw B w (s, z) → sf_36_2s (Int32.ofNat s) (Int32.ofNat z) (Int32.ofNat a) m = some (.inl (Int32.ofNat (a + 1), m))) := by
    intro a ha w hw
    obtain ⟨b, hb, hbi⟩ := hsame a w hw
    have hok : sh_okb (Int32.ofNat a) 2001 = true := (sh_okn (by omega)).mpr (by omega)
    unfold sf_36_2s sf_36_37
    rw [h.nc, if_pos ((sh_nIlt (by omega) (by omega)).mpr ha), if_pos hok, sh_nIc (by omega)]
    constructor
    · intro q
      obtain ⟨h7, hbt⟩ := hbi.mpr q
      rw [if_pos h7, if_pos hok, hb h7, sh_bc_some, if_pos hbt]
    · intro q
      by_cases h7 : m.I 7 a = Int32.ofNat z
      · rw [if_pos h7, if_pos hok, hb h7, sh_bc_some, if_neg (fun hbt => q (hbi.mp ⟨h7, hbt⟩)), sh_nI1]
      · rw [if_neg h7, sh_nI1]
  unfold sf_36 sf_36_2
  by_cases hex : ∃ a, a < nm.length ∧ ∃ w, nm[a]? = some w ∧ sp_sw B w (s, z)
  · obtain ⟨a, ha, w, hw, hsw⟩ := hex
    have hrun := sh_wrun (f := fun q : Int32 × sh_X => sf_36_2s (Int32.ofNat s) (Int32.ofNat z) q.1 q.2) (fun i => (Int32.ofNat i, m)) (k := 0) (e := a) (by omega) (fun i _ hi => by
      have hi2 : i < nm.length := by omega
      obtain ⟨u, hu⟩ : ∃ u, nm[i]? = some u := ⟨nm[i], List.getElem?_eq_getElem hi2⟩
      show sf_36_2s _ _ _ _ = _
      exact (hstep i hi2 u hu).2 (fun q => absurd (h.nd i a u w hu hw (q.trans hsw.symm)) (by omega)))
    refine ⟨a, nm, m, ?_, h, sh_Lf.refl m, by omega, w, hw, hsw⟩
    rw [show ((0 : Int32), m) = (Int32.ofNat 0, m) from rfl, hrun]
    refine sh_wend ?_
    show sf_36_2s _ _ _ _ = _
    exact (hstep a ha w hw).1 hsw
  · have hrun := sh_wrun (f := fun q : Int32 × sh_X => sf_36_2s (Int32.ofNat s) (Int32.ofNat z) q.1 q.2) (fun i => (Int32.ofNat i, m)) (k := 0) (e := nm.length) (by omega) (fun i _ hi2 => by
      obtain ⟨u, hu⟩ : ∃ u, nm[i]? = some u := ⟨nm[i], List.getElem?_eq_getElem hi2⟩
      show sf_36_2s _ _ _ _ = _
      exact (hstep i hi2 u hu).2 (fun q => hex ⟨i, hi2, u, hu, q⟩))
    have hlt : m.I 2 8 < 2001 := by rw [h.nc]; exact (sh_nIlt (b := 2001) (by omega) (by omega)).mpr hl
    have hok : sh_okb (m.I 2 8) 2001 = true := by rw [h.nc]; exact (sh_okn (by omega)).mpr hl
    have hc : Int32.toNatClampNeg (m.I 2 8) = nm.length := by rw [h.nc]; exact sh_nIc (by omega)
    refine ⟨nm.length, nm ++ [(s, z)], ⟨m.T, sh_u2 (sh_u2 (sh_u2 m.I 6 nm.length (Int32.ofNat s)) 7 nm.length (Int32.ofNat z)) 2 8 (m.I 2 8 + 1), m.J, m.s⟩, ?_, ?_, ?_, by simp, (s, z), by simp, sp_sw.refl _⟩
    · rw [show ((0 : Int32), m) = (Int32.ofNat 0, m) from rfl, hrun]
      refine sh_wend ?_
      show sf_36_2s _ _ _ _ = _
      unfold sf_36_2s
      rw [if_neg (by rw [h.nc]; exact fun q => absurd ((sh_nIlt (by omega) (by omega)).mp q) (by omega)), if_pos hlt, if_pos hok, if_pos hok, hc]
      unfold sf_36_83
      show some (Sum.inr (sh_u2 (sh_u2 (sh_u2 m.I 6 nm.length (Int32.ofNat s)) 7 nm.length (Int32.ofNat z)) 2 8 (m.I 2 8 + 1) 2 8 - 1, _)) = _
      rw [sh_u2_same, h.nc, Int32.add_sub_cancel]
    · refine sh_Cw.mk ?_ ?_ ?_ ?_ ?_
      · show sh_u2 (sh_u2 (sh_u2 m.I 6 nm.length (Int32.ofNat s)) 7 nm.length (Int32.ofNat z)) 2 8 (m.I 2 8 + 1) 2 7 = _
        rw [sh_u2_idx (by omega), sh_u2_cell (by omega), sh_u2_cell (by omega)]
        exact h.am
      · intro i t ht
        show sh_u2 (sh_u2 (sh_u2 m.I 6 nm.length (Int32.ofNat s)) 7 nm.length (Int32.ofNat z)) 2 8 (m.I 2 8 + 1) 3 i = _ ∧ sh_u2 (sh_u2 (sh_u2 m.I 6 nm.length (Int32.ofNat s)) 7 nm.length (Int32.ofNat z)) 2 8 (m.I 2 8 + 1) 4 i = _ ∧ _
        rw [sh_u2_cell (by omega), sh_u2_cell (by omega), sh_u2_cell (by omega), sh_u2_cell (by omega), sh_u2_cell (by omega), sh_u2_cell (by omega)]
        obtain ⟨a, b, c, d, e⟩ := h.kd i t ht
        refine ⟨a, b, c, d, fun h1 h2 => ?_⟩
        obtain ⟨a, w, hw, h3, h4⟩ := e h1 h2
        have ha : a < nm.length := by
          rw [List.getElem?_eq_some_iff] at hw
          exact hw.1
        exact ⟨a, w, by rw [List.getElem?_append_left ha]; exact hw, h3, h4⟩
      · show sh_u2 (sh_u2 (sh_u2 m.I 6 nm.length (Int32.ofNat s)) 7 nm.length (Int32.ofNat z)) 2 8 (m.I 2 8 + 1) 2 8 = _
        rw [sh_u2_same, h.nc, sh_nI1, List.length_append]
        rfl
      · intro a w hw
        show sh_u2 (sh_u2 (sh_u2 m.I 6 nm.length (Int32.ofNat s)) 7 nm.length (Int32.ofNat z)) 2 8 (m.I 2 8 + 1) 6 a = _ ∧ sh_u2 (sh_u2 (sh_u2 m.I 6 nm.length (Int32.ofNat s)) 7 nm.length (Int32.ofNat z)) 2 8 (m.I 2 8 + 1) 7 a = _ ∧ _
        have e6 : sh_u2 (sh_u2 (sh_u2 m.I 6 nm.length (Int32.ofNat s)) 7 nm.length (Int32.ofNat z)) 2 8 (m.I 2 8 + 1) 6 a = if a = nm.length then Int32.ofNat s else m.I 6 a := by simp [sh_u2]
        have e7 : sh_u2 (sh_u2 (sh_u2 m.I 6 nm.length (Int32.ofNat s)) 7 nm.length (Int32.ofNat z)) 2 8 (m.I 2 8 + 1) 7 a = if a = nm.length then Int32.ofNat z else m.I 7 a := by simp [sh_u2]
        rw [e6, e7]
        by_cases ha : a < nm.length
        · rw [List.getElem?_append_left ha] at hw
          rw [if_neg (by omega), if_neg (by omega)]
          exact h.ns a w hw
        · by_cases ha2 : a = nm.length
          · subst ha2
            rw [List.getElem?_append_right (Nat.le_refl _), Nat.sub_self] at hw
            cases hw
            rw [if_pos rfl, if_pos rfl]
            exact ⟨rfl, rfl, hs, hz⟩
          · rw [List.getElem?_eq_none (by simp; omega)] at hw
            cases hw
      · intro a b u v hu hv huv
        have key : ∀ a u, (nm ++ [(s, z)])[a]? = some u → (a < nm.length ∧ nm[a]? = some u) ∨ (a = nm.length ∧ u = (s, z)) := by
          intro a u hu
          by_cases ha : a < nm.length
          · rw [List.getElem?_append_left ha] at hu; exact Or.inl ⟨ha, hu⟩
          · by_cases ha2 : a = nm.length
            · subst ha2
              rw [List.getElem?_append_right (Nat.le_refl _), Nat.sub_self] at hu
              cases hu
              exact Or.inr ⟨rfl, rfl⟩
            · rw [List.getElem?_eq_none (by simp; omega)] at hu
              cases hu
        rcases key a u hu with ⟨h1, h2⟩ | ⟨h1, h2⟩ <;> rcases key b v hv with ⟨h3, h4⟩ | ⟨h3, h4⟩
        · exact h.nd a b u v h2 h4 huv
        · exact absurd ⟨a, h1, u, h2, by rw [h4] at huv; exact huv⟩ hex
        · exact absurd ⟨b, h3, v, h4, by rw [h2] at huv; exact huv.symm⟩ hex
        · omega
    · refine sh_Lf.mk rfl rfl ?_ ?_ (fun _ _ => rfl)
      · intro c h2 h3 h4 h6 h7
        show sh_u2 (sh_u2 (sh_u2 m.I 6 nm.length (Int32.ofNat s)) 7 nm.length (Int32.ofNat z)) 2 8 (m.I 2 8 + 1) c = _
        rw [sh_u2_cell h2, sh_u2_cell h7, sh_u2_cell h6]
      · intro j h7 h8
        show sh_u2 (sh_u2 (sh_u2 m.I 6 nm.length (Int32.ofNat s)) 7 nm.length (Int32.ofNat z)) 2 8 (m.I 2 8 + 1) 2 j = _
        rw [sh_u2_idx h8, sh_u2_cell (by omega), sh_u2_cell (by omega)]
