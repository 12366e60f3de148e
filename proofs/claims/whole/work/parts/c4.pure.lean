/-! EVALUATION: the steps of the class, one by one -/
noncomputable def se_go (n : Nat) (r : Option (Option Unit × sh_X)) : Option (Option Unit × sh_X) := match r with
  | none => none
  | some (none, m) => some (none, m)
  | some (some _, m2) => sf_78_10 (Int32.ofNat (n + 1)) m2
noncomputable def se_gn (n : Nat) (r : Option (Unit × sh_X)) : Option (Option Unit × sh_X) := match r with
  | none => none
  | some (_, m2) => sf_78_10 (Int32.ofNat (n + 1)) m2
/-- the code stands in the memory: c2 steps; the next one is i, with its act, word and more -/
def se_At (n i c2 : Nat) (a w x : Int32) (m : sh_X) : Prop := (n < 1000000) ∧ (m.I 41 13 = Int32.ofNat i) ∧ (m.I 28 10 = Int32.ofNat c2) ∧ (i < c2) ∧ (c2 ≤ 6000) ∧ (m.I 36 i = a) ∧ (m.I 37 i = w) ∧ (m.I 38 i = x)
theorem se_At.hn {n i c2 : Nat} {a w x : Int32} {m : sh_X} (h : se_At n i c2 a w x m) : n < 1000000 := h.1
theorem se_At.at_ {n i c2 : Nat} {a w x : Int32} {m : sh_X} (h : se_At n i c2 a w x m) : m.I 41 13 = Int32.ofNat i := h.2.1
theorem se_At.hc {n i c2 : Nat} {a w x : Int32} {m : sh_X} (h : se_At n i c2 a w x m) : m.I 28 10 = Int32.ofNat c2 := h.2.2.1
theorem se_At.hi {n i c2 : Nat} {a w x : Int32} {m : sh_X} (h : se_At n i c2 a w x m) : i < c2 := h.2.2.2.1
theorem se_At.c6 {n i c2 : Nat} {a w x : Int32} {m : sh_X} (h : se_At n i c2 a w x m) : c2 ≤ 6000 := h.2.2.2.2.1
theorem se_At.fa {n i c2 : Nat} {a w x : Int32} {m : sh_X} (h : se_At n i c2 a w x m) : m.I 36 i = a := h.2.2.2.2.2.1
theorem se_At.fw {n i c2 : Nat} {a w x : Int32} {m : sh_X} (h : se_At n i c2 a w x m) : m.I 37 i = w := h.2.2.2.2.2.2.1
theorem se_At.fx {n i c2 : Nat} {a w x : Int32} {m : sh_X} (h : se_At n i c2 a w x m) : m.I 38 i = x := h.2.2.2.2.2.2.2
theorem se_At.mk {n i c2 : Nat} {a w x : Int32} {m : sh_X} (hn : n < 1000000) (at_ : m.I 41 13 = Int32.ofNat i) (hc : m.I 28 10 = Int32.ofNat c2) (hi : i < c2) (c6 : c2 ≤ 6000) (fa : m.I 36 i = a) (fw : m.I 37 i = w) (fx : m.I 38 i = x) : se_At n i c2 a w x m := ⟨hn, at_, hc, hi, c6, fa, fw, fx⟩
theorem se_64 {i c2 : Nat} {m : sh_X} (hc : m.I 28 10 = Int32.ofNat c2) (hi : i < c2) (h6 : c2 ≤ 6000) : sf_64 (Int32.ofNat i) m = some true := by
  unfold sf_64
  rw [if_neg (sh_nI0 (by omega)), hc, if_pos ((sh_nIlt (by omega) (by omega)).mpr hi)]
theorem se_87 {i c2 : Nat} {m : sh_X} (hc : m.I 28 10 = Int32.ofNat c2) (hi : i < c2) (h6 : c2 ≤ 6000) : sf_87 (Int32.ofNat i) m = some (m.I 37 i) ∧ sf_88 (Int32.ofNat i) m = some (m.I 38 i) ∧ sf_89 (Int32.ofNat i) m = some (m.I 36 i) := by
  have e := se_64 hc hi h6
  unfold sf_87 sf_88 sf_89
  rw [e, sh_bc_some, sh_bc_some, sh_bc_some, if_pos rfl, if_pos rfl, if_pos rfl, if_pos (sh_okn' (by omega) (by omega)), if_pos (sh_okn' (by omega) (by omega)), if_pos (sh_okn' (by omega) (by omega)), sh_nIc (by omega)]
  exact ⟨rfl, rfl, rfl⟩
theorem se_i1 {i : Nat} : Int32.ofNat i + 1 - 1 = Int32.ofNat i := by rw [sh_nI1, show (1 : Int32) = Int32.ofNat 1 from rfl, sh_nIsub (by omega)]; rfl
/-- at is set -/
def se_nx (i : Nat) (m : sh_X) : sh_X := ⟨m.T, sh_u2 m.I 41 13 (Int32.ofNat i), m.J, m.s⟩
theorem se_nxI {i c : Nat} {m : sh_X} (h : c ≠ 41) : (se_nx i m).I c = m.I c := sh_u2_cell h
theorem se_nxF {i f : Nat} {m : sh_X} (h : f ≠ 13) : (se_nx i m).I 41 f = m.I 41 f := by
  unfold se_nx
  simp only [sh_X.I]
  rw [sh_u2_idx h]
theorem se_nxA {i : Nat} {m : sh_X} : (se_nx i m).I 41 13 = Int32.ofNat i := by
  unfold se_nx
  simp only [sh_X.I]
  rw [sh_u2_same]
theorem se_end {n c2 : Nat} {m : sh_X} (hn : n < 1000000) (hat : m.I 41 13 = Int32.ofNat c2) (hc : m.I 28 10 = Int32.ofNat c2) (h6 : c2 ≤ 6000) : sf_78_10 (Int32.ofNat n) m = some (some (), m) := by
  unfold sf_78_10
  rw [sh_while_eq]
  have e : sf_78_10s (Int32.ofNat n) m = some (.inr (some (), m)) := by
    unfold sf_78_10s
    rw [if_pos (show Int32.ofNat n < 1000000 from (sh_nIlt (b := 1000000) (by omega) (by omega)).mpr hn), hat]
    have e2 : sf_64 (Int32.ofNat c2) m = some false := by
      unfold sf_64
      rw [if_neg (sh_nI0 (by omega)), hc, if_neg (sh_nlt0 c2)]
    rw [e2, sh_bc_some, if_neg (by decide)]
  rw [e]
theorem se_78s {n i c2 : Nat} {a w x : Int32} {m : sh_X} (h : se_At n i c2 a w x m) {r : Option ((Int32 × sh_X) ⊕ (Option Unit × sh_X))} (hr : ∀ r4, r4 = a → (if r4 = 0 then
        sh_bt (sf_90 1 w (se_nx (i + 1) m)) (fun m => .inr ((none, m))) fun _ m15 =>
        sf_78_490 (Int32.ofNat n) m15
      else
      if r4 = 1 then
        sh_bt (sf_91 w (se_nx (i + 1) m)) (fun m => .inr ((none, m))) fun _ m16 =>
        sf_78_490 (Int32.ofNat n) m16
      else
      if r4 = 2 then
        sh_bt (sf_106 w (se_nx (i + 1) m)) (fun m => .inr ((none, m))) fun _ m17 =>
        sf_78_490 (Int32.ofNat n) m17
      else
      if r4 = 3 then
        sh_bt (sf_119 w (se_nx (i + 1) m)) (fun m => .inr ((none, m))) fun _ m18 =>
        sf_78_490 (Int32.ofNat n) m18
      else
      if r4 = 4 then
        sh_bt (sf_122 w x (se_nx (i + 1) m)) (fun m => .inr ((none, m))) fun _ m19 =>
        sf_78_490 (Int32.ofNat n) m19
      else
      if r4 = 5 then
        sh_bt (sf_124 w x (se_nx (i + 1) m)) (fun m => .inr ((none, m))) fun _ m20 =>
        sf_78_490 (Int32.ofNat n) m20
      else
      if r4 = 6 then
        sh_bt (sf_134 w x (se_nx (i + 1) m)) (fun m => .inr ((none, m))) fun _ m21 =>
        sf_78_490 (Int32.ofNat n) m21
      else
      if r4 = 7 then
        sh_bt (sf_142 w (se_nx (i + 1) m)) (fun m => .inr ((none, m))) fun _ m22 =>
        sf_78_490 (Int32.ofNat n) m22
      else
      if r4 = 8 then
        sh_bn (sf_144 (se_nx (i + 1) m)) fun _ m23 =>
        sf_78_490 (Int32.ofNat n) m23
      else
      if r4 = 9 then
        sh_bn (sf_147 (se_nx (i + 1) m)) fun _ m24 =>
        sf_78_490 (Int32.ofNat n) m24
      else
      if r4 = 10 then
        sh_bt (sf_149 w x (se_nx (i + 1) m)) (fun m => .inr ((none, m))) fun _ m25 =>
        sf_78_490 (Int32.ofNat n) m25
      else
      if r4 = 11 then
        sh_bt (sf_151 w x (se_nx (i + 1) m)) (fun m => .inr ((none, m))) fun _ m26 =>
        sf_78_490 (Int32.ofNat n) m26
      else
      if r4 = 12 then
        sh_bt (sf_153 w (se_nx (i + 1) m)) (fun m => .inr ((none, m))) fun _ m27 =>
        sf_78_490 (Int32.ofNat n) m27
      else
      if r4 = 13 then
        sh_bt (sf_154 w (se_nx (i + 1) m)) (fun m => .inr ((none, m))) fun _ m28 =>
        sf_78_490 (Int32.ofNat n) m28
      else
      if r4 = 14 then
        sh_bt (sf_155 w x (se_nx (i + 1) m)) (fun m => .inr ((none, m))) fun _ m29 =>
        sf_78_490 (Int32.ofNat n) m29
      else
      if r4 = 15 then
        sh_bt (sf_157 w x (se_nx (i + 1) m)) (fun m => .inr ((none, m))) fun _ m30 =>
        sf_78_490 (Int32.ofNat n) m30
      else
      if r4 = 16 then
        sh_bt (sf_159 w x (se_nx (i + 1) m)) (fun m => .inr ((none, m))) fun _ m31 =>
        sf_78_490 (Int32.ofNat n) m31
      else
      if r4 = 17 then
        sh_bn (sf_160 x (se_nx (i + 1) m)) fun _ m32 =>
        sf_78_490 (Int32.ofNat n) m32
      else
      if r4 = 18 then
        sh_bt (sf_161 w (se_nx (i + 1) m)) (fun m => .inr ((none, m))) fun _ m33 =>
        sf_78_490 (Int32.ofNat n) m33
      else
      if r4 = 19 then
        sh_bc (sf_66 w (se_nx (i + 1) m)) fun r24 =>
        sh_bn (sf_162 r24 w (se_nx (i + 1) m)) fun _ m35 =>
        sf_78_490 (Int32.ofNat n) m35
      else
      if r4 = 20 then
        sh_bn (sf_163 257 x (se_nx (i + 1) m)) fun _ m36 =>
        sf_78_490 (Int32.ofNat n) m36
      else
      if r4 = 21 then
        sh_bt (sf_164 w (se_nx (i + 1) m)) (fun m => .inr ((none, m))) fun _ m37 =>
        sf_78_490 (Int32.ofNat n) m37
      else
      if r4 = 22 then
        sh_bt (sf_165 w (se_nx (i + 1) m)) (fun m => .inr ((none, m))) fun _ m38 =>
        sf_78_490 (Int32.ofNat n) m38
      else
      if r4 = 23 then
        sh_bt (sf_168 w (se_nx (i + 1) m)) (fun m => .inr ((none, m))) fun _ m39 =>
        sf_78_490 (Int32.ofNat n) m39
      else
      if r4 = 24 then
        sh_bt (sf_170 w (se_nx (i + 1) m)) (fun m => .inr ((none, m))) fun _ m40 =>
        sf_78_490 (Int32.ofNat n) m40
      else
      if r4 = 25 then
        sh_bt (sf_171 w (se_nx (i + 1) m)) (fun m => .inr ((none, m))) fun _ m41 =>
        sf_78_490 (Int32.ofNat n) m41
      else
      if r4 = 26 then
        sh_bt (sf_192 w x (se_nx (i + 1) m)) (fun m => .inr ((none, m))) fun _ m42 =>
        sf_78_490 (Int32.ofNat n) m42
      else
      if r4 = 27 then
        sh_bt (sf_194 w x (se_nx (i + 1) m)) (fun m => .inr ((none, m))) fun _ m43 =>
        sf_78_490 (Int32.ofNat n) m43
      else
      if r4 = 28 then
        sh_bt (sf_195 w (se_nx (i + 1) m)) (fun m => .inr ((none, m))) fun _ m44 =>
        sf_78_490 (Int32.ofNat n) m44
      else
      if r4 = 29 then
        sh_bt (sf_196 w (se_nx (i + 1) m)) (fun m => .inr ((none, m))) fun _ m45 =>
        sf_78_490 (Int32.ofNat n) m45
      else
      if r4 = 30 then
        sh_bt (sf_197 w (se_nx (i + 1) m)) (fun m => .inr ((none, m))) fun _ m46 =>
        sf_78_490 (Int32.ofNat n) m46
      else
        sf_78_490 (Int32.ofNat n) (se_nx (i + 1) m)) = r) : sf_78_10s (Int32.ofNat n) m = r := by
  have e := se_87 h.hc h.hi h.c6
  have c6 := h.c6
  have hi := h.hi
  unfold sf_78_10s
  rw [if_pos (show Int32.ofNat n < 1000000 from (sh_nIlt (b := 1000000) (by have := h.hn; omega) (by omega)).mpr h.hn), h.at_, se_64 h.hc h.hi h.c6, sh_bc_some, if_pos rfl, e.1, sh_bc_some, e.2.1, sh_bc_some, se_i1, h.fw, h.fx, sh_nI1]
  have e4 : sf_89 (Int32.ofNat i) (se_nx (i + 1) m) = some a := by
    rw [(se_87 (m := se_nx (i + 1) m) (i := i) (c2 := c2) (by rw [se_nxI (by omega)]; exact h.hc) h.hi h.c6).2.2, se_nxI (by omega), h.fa]
  show sh_bc (sf_89 (Int32.ofNat i) (se_nx (i + 1) m)) _ = _
  rw [e4, sh_bc_some]
  exact hr a rfl
theorem se_a0 {n i c2 : Nat} {w x : Int32} {m : sh_X} (h : se_At n i c2 0 w x m) : sf_78_10 (Int32.ofNat n) m = se_go n (sf_90 1 w (se_nx (i + 1) m)) := by
  have e : sf_78_10s (Int32.ofNat n) m = sh_bt (sf_90 1 w (se_nx (i + 1) m)) (fun m => .inr ((none, m))) fun _ m15 => sf_78_490 (Int32.ofNat n) m15 := se_78s h (fun r4 q => by
    subst q
    (repeat rw [if_neg (by decide)])
    rw [if_pos (by decide)])
  unfold sf_78_10
  rw [sh_while_eq]
  rw [e]
  cases sf_90 1 w (se_nx (i + 1) m) with
  | none => rfl
  | some q =>
    obtain ⟨r, m2⟩ := q
    cases r with
    | none => rfl
    | some r =>
      show sh_while _ (Int32.ofNat n + 1, m2) = sh_while _ (Int32.ofNat (n + 1), m2)
      rw [sh_nI1]
theorem se_a1 {n i c2 : Nat} {w x : Int32} {m : sh_X} (h : se_At n i c2 1 w x m) : sf_78_10 (Int32.ofNat n) m = se_go n (sf_91 w (se_nx (i + 1) m)) := by
  have e : sf_78_10s (Int32.ofNat n) m = sh_bt (sf_91 w (se_nx (i + 1) m)) (fun m => .inr ((none, m))) fun _ m15 => sf_78_490 (Int32.ofNat n) m15 := se_78s h (fun r4 q => by
    subst q
    (repeat rw [if_neg (by decide)])
    rw [if_pos (by decide)])
  unfold sf_78_10
  rw [sh_while_eq]
  rw [e]
  cases sf_91 w (se_nx (i + 1) m) with
  | none => rfl
  | some q =>
    obtain ⟨r, m2⟩ := q
    cases r with
    | none => rfl
    | some r =>
      show sh_while _ (Int32.ofNat n + 1, m2) = sh_while _ (Int32.ofNat (n + 1), m2)
      rw [sh_nI1]
theorem se_a2 {n i c2 : Nat} {w x : Int32} {m : sh_X} (h : se_At n i c2 2 w x m) : sf_78_10 (Int32.ofNat n) m = se_go n (sf_106 w (se_nx (i + 1) m)) := by
  have e : sf_78_10s (Int32.ofNat n) m = sh_bt (sf_106 w (se_nx (i + 1) m)) (fun m => .inr ((none, m))) fun _ m15 => sf_78_490 (Int32.ofNat n) m15 := se_78s h (fun r4 q => by
    subst q
    (repeat rw [if_neg (by decide)])
    rw [if_pos (by decide)])
  unfold sf_78_10
  rw [sh_while_eq]
  rw [e]
  cases sf_106 w (se_nx (i + 1) m) with
  | none => rfl
  | some q =>
    obtain ⟨r, m2⟩ := q
    cases r with
    | none => rfl
    | some r =>
      show sh_while _ (Int32.ofNat n + 1, m2) = sh_while _ (Int32.ofNat (n + 1), m2)
      rw [sh_nI1]
theorem se_a3 {n i c2 : Nat} {w x : Int32} {m : sh_X} (h : se_At n i c2 3 w x m) : sf_78_10 (Int32.ofNat n) m = se_go n (sf_119 w (se_nx (i + 1) m)) := by
  have e : sf_78_10s (Int32.ofNat n) m = sh_bt (sf_119 w (se_nx (i + 1) m)) (fun m => .inr ((none, m))) fun _ m15 => sf_78_490 (Int32.ofNat n) m15 := se_78s h (fun r4 q => by
    subst q
    (repeat rw [if_neg (by decide)])
    rw [if_pos (by decide)])
  unfold sf_78_10
  rw [sh_while_eq]
  rw [e]
  cases sf_119 w (se_nx (i + 1) m) with
  | none => rfl
  | some q =>
    obtain ⟨r, m2⟩ := q
    cases r with
    | none => rfl
    | some r =>
      show sh_while _ (Int32.ofNat n + 1, m2) = sh_while _ (Int32.ofNat (n + 1), m2)
      rw [sh_nI1]
theorem se_a4 {n i c2 : Nat} {w x : Int32} {m : sh_X} (h : se_At n i c2 4 w x m) : sf_78_10 (Int32.ofNat n) m = se_go n (sf_122 w x (se_nx (i + 1) m)) := by
  have e : sf_78_10s (Int32.ofNat n) m = sh_bt (sf_122 w x (se_nx (i + 1) m)) (fun m => .inr ((none, m))) fun _ m15 => sf_78_490 (Int32.ofNat n) m15 := se_78s h (fun r4 q => by
    subst q
    (repeat rw [if_neg (by decide)])
    rw [if_pos (by decide)])
  unfold sf_78_10
  rw [sh_while_eq]
  rw [e]
  cases sf_122 w x (se_nx (i + 1) m) with
  | none => rfl
  | some q =>
    obtain ⟨r, m2⟩ := q
    cases r with
    | none => rfl
    | some r =>
      show sh_while _ (Int32.ofNat n + 1, m2) = sh_while _ (Int32.ofNat (n + 1), m2)
      rw [sh_nI1]
theorem se_a5 {n i c2 : Nat} {w x : Int32} {m : sh_X} (h : se_At n i c2 5 w x m) : sf_78_10 (Int32.ofNat n) m = se_go n (sf_124 w x (se_nx (i + 1) m)) := by
  have e : sf_78_10s (Int32.ofNat n) m = sh_bt (sf_124 w x (se_nx (i + 1) m)) (fun m => .inr ((none, m))) fun _ m15 => sf_78_490 (Int32.ofNat n) m15 := se_78s h (fun r4 q => by
    subst q
    (repeat rw [if_neg (by decide)])
    rw [if_pos (by decide)])
  unfold sf_78_10
  rw [sh_while_eq]
  rw [e]
  cases sf_124 w x (se_nx (i + 1) m) with
  | none => rfl
  | some q =>
    obtain ⟨r, m2⟩ := q
    cases r with
    | none => rfl
    | some r =>
      show sh_while _ (Int32.ofNat n + 1, m2) = sh_while _ (Int32.ofNat (n + 1), m2)
      rw [sh_nI1]
theorem se_a6 {n i c2 : Nat} {w x : Int32} {m : sh_X} (h : se_At n i c2 6 w x m) : sf_78_10 (Int32.ofNat n) m = se_go n (sf_134 w x (se_nx (i + 1) m)) := by
  have e : sf_78_10s (Int32.ofNat n) m = sh_bt (sf_134 w x (se_nx (i + 1) m)) (fun m => .inr ((none, m))) fun _ m15 => sf_78_490 (Int32.ofNat n) m15 := se_78s h (fun r4 q => by
    subst q
    (repeat rw [if_neg (by decide)])
    rw [if_pos (by decide)])
  unfold sf_78_10
  rw [sh_while_eq]
  rw [e]
  cases sf_134 w x (se_nx (i + 1) m) with
  | none => rfl
  | some q =>
    obtain ⟨r, m2⟩ := q
    cases r with
    | none => rfl
    | some r =>
      show sh_while _ (Int32.ofNat n + 1, m2) = sh_while _ (Int32.ofNat (n + 1), m2)
      rw [sh_nI1]
theorem se_a7 {n i c2 : Nat} {w x : Int32} {m : sh_X} (h : se_At n i c2 7 w x m) : sf_78_10 (Int32.ofNat n) m = se_go n (sf_142 w (se_nx (i + 1) m)) := by
  have e : sf_78_10s (Int32.ofNat n) m = sh_bt (sf_142 w (se_nx (i + 1) m)) (fun m => .inr ((none, m))) fun _ m15 => sf_78_490 (Int32.ofNat n) m15 := se_78s h (fun r4 q => by
    subst q
    (repeat rw [if_neg (by decide)])
    rw [if_pos (by decide)])
  unfold sf_78_10
  rw [sh_while_eq]
  rw [e]
  cases sf_142 w (se_nx (i + 1) m) with
  | none => rfl
  | some q =>
    obtain ⟨r, m2⟩ := q
    cases r with
    | none => rfl
    | some r =>
      show sh_while _ (Int32.ofNat n + 1, m2) = sh_while _ (Int32.ofNat (n + 1), m2)
      rw [sh_nI1]
theorem se_a8 {n i c2 : Nat} {w x : Int32} {m : sh_X} (h : se_At n i c2 8 w x m) : sf_78_10 (Int32.ofNat n) m = se_gn n (sf_144 (se_nx (i + 1) m)) := by
  have e : sf_78_10s (Int32.ofNat n) m = sh_bn (sf_144 (se_nx (i + 1) m)) fun _ m15 => sf_78_490 (Int32.ofNat n) m15 := se_78s h (fun r4 q => by
    subst q
    (repeat rw [if_neg (by decide)])
    rw [if_pos (by decide)])
  unfold sf_78_10
  rw [sh_while_eq]
  rw [e]
  cases sf_144 (se_nx (i + 1) m) with
  | none => rfl
  | some q =>
    obtain ⟨r, m2⟩ := q
    show sh_while _ (Int32.ofNat n + 1, m2) = sh_while _ (Int32.ofNat (n + 1), m2)
    rw [sh_nI1]
theorem se_a9 {n i c2 : Nat} {w x : Int32} {m : sh_X} (h : se_At n i c2 9 w x m) : sf_78_10 (Int32.ofNat n) m = se_gn n (sf_147 (se_nx (i + 1) m)) := by
  have e : sf_78_10s (Int32.ofNat n) m = sh_bn (sf_147 (se_nx (i + 1) m)) fun _ m15 => sf_78_490 (Int32.ofNat n) m15 := se_78s h (fun r4 q => by
    subst q
    (repeat rw [if_neg (by decide)])
    rw [if_pos (by decide)])
  unfold sf_78_10
  rw [sh_while_eq]
  rw [e]
  cases sf_147 (se_nx (i + 1) m) with
  | none => rfl
  | some q =>
    obtain ⟨r, m2⟩ := q
    show sh_while _ (Int32.ofNat n + 1, m2) = sh_while _ (Int32.ofNat (n + 1), m2)
    rw [sh_nI1]
theorem se_a10 {n i c2 : Nat} {w x : Int32} {m : sh_X} (h : se_At n i c2 10 w x m) : sf_78_10 (Int32.ofNat n) m = se_go n (sf_149 w x (se_nx (i + 1) m)) := by
  have e : sf_78_10s (Int32.ofNat n) m = sh_bt (sf_149 w x (se_nx (i + 1) m)) (fun m => .inr ((none, m))) fun _ m15 => sf_78_490 (Int32.ofNat n) m15 := se_78s h (fun r4 q => by
    subst q
    (repeat rw [if_neg (by decide)])
    rw [if_pos (by decide)])
  unfold sf_78_10
  rw [sh_while_eq]
  rw [e]
  cases sf_149 w x (se_nx (i + 1) m) with
  | none => rfl
  | some q =>
    obtain ⟨r, m2⟩ := q
    cases r with
    | none => rfl
    | some r =>
      show sh_while _ (Int32.ofNat n + 1, m2) = sh_while _ (Int32.ofNat (n + 1), m2)
      rw [sh_nI1]
theorem se_a11 {n i c2 : Nat} {w x : Int32} {m : sh_X} (h : se_At n i c2 11 w x m) : sf_78_10 (Int32.ofNat n) m = se_go n (sf_151 w x (se_nx (i + 1) m)) := by
  have e : sf_78_10s (Int32.ofNat n) m = sh_bt (sf_151 w x (se_nx (i + 1) m)) (fun m => .inr ((none, m))) fun _ m15 => sf_78_490 (Int32.ofNat n) m15 := se_78s h (fun r4 q => by
    subst q
    (repeat rw [if_neg (by decide)])
    rw [if_pos (by decide)])
  unfold sf_78_10
  rw [sh_while_eq]
  rw [e]
  cases sf_151 w x (se_nx (i + 1) m) with
  | none => rfl
  | some q =>
    obtain ⟨r, m2⟩ := q
    cases r with
    | none => rfl
    | some r =>
      show sh_while _ (Int32.ofNat n + 1, m2) = sh_while _ (Int32.ofNat (n + 1), m2)
      rw [sh_nI1]
theorem se_a12 {n i c2 : Nat} {w x : Int32} {m : sh_X} (h : se_At n i c2 12 w x m) : sf_78_10 (Int32.ofNat n) m = se_go n (sf_153 w (se_nx (i + 1) m)) := by
  have e : sf_78_10s (Int32.ofNat n) m = sh_bt (sf_153 w (se_nx (i + 1) m)) (fun m => .inr ((none, m))) fun _ m15 => sf_78_490 (Int32.ofNat n) m15 := se_78s h (fun r4 q => by
    subst q
    (repeat rw [if_neg (by decide)])
    rw [if_pos (by decide)])
  unfold sf_78_10
  rw [sh_while_eq]
  rw [e]
  cases sf_153 w (se_nx (i + 1) m) with
  | none => rfl
  | some q =>
    obtain ⟨r, m2⟩ := q
    cases r with
    | none => rfl
    | some r =>
      show sh_while _ (Int32.ofNat n + 1, m2) = sh_while _ (Int32.ofNat (n + 1), m2)
      rw [sh_nI1]
theorem se_a13 {n i c2 : Nat} {w x : Int32} {m : sh_X} (h : se_At n i c2 13 w x m) : sf_78_10 (Int32.ofNat n) m = se_go n (sf_154 w (se_nx (i + 1) m)) := by
  have e : sf_78_10s (Int32.ofNat n) m = sh_bt (sf_154 w (se_nx (i + 1) m)) (fun m => .inr ((none, m))) fun _ m15 => sf_78_490 (Int32.ofNat n) m15 := se_78s h (fun r4 q => by
    subst q
    (repeat rw [if_neg (by decide)])
    rw [if_pos (by decide)])
  unfold sf_78_10
  rw [sh_while_eq]
  rw [e]
  cases sf_154 w (se_nx (i + 1) m) with
  | none => rfl
  | some q =>
    obtain ⟨r, m2⟩ := q
    cases r with
    | none => rfl
    | some r =>
      show sh_while _ (Int32.ofNat n + 1, m2) = sh_while _ (Int32.ofNat (n + 1), m2)
      rw [sh_nI1]
theorem se_a14 {n i c2 : Nat} {w x : Int32} {m : sh_X} (h : se_At n i c2 14 w x m) : sf_78_10 (Int32.ofNat n) m = se_go n (sf_155 w x (se_nx (i + 1) m)) := by
  have e : sf_78_10s (Int32.ofNat n) m = sh_bt (sf_155 w x (se_nx (i + 1) m)) (fun m => .inr ((none, m))) fun _ m15 => sf_78_490 (Int32.ofNat n) m15 := se_78s h (fun r4 q => by
    subst q
    (repeat rw [if_neg (by decide)])
    rw [if_pos (by decide)])
  unfold sf_78_10
  rw [sh_while_eq]
  rw [e]
  cases sf_155 w x (se_nx (i + 1) m) with
  | none => rfl
  | some q =>
    obtain ⟨r, m2⟩ := q
    cases r with
    | none => rfl
    | some r =>
      show sh_while _ (Int32.ofNat n + 1, m2) = sh_while _ (Int32.ofNat (n + 1), m2)
      rw [sh_nI1]
theorem se_a15 {n i c2 : Nat} {w x : Int32} {m : sh_X} (h : se_At n i c2 15 w x m) : sf_78_10 (Int32.ofNat n) m = se_go n (sf_157 w x (se_nx (i + 1) m)) := by
  have e : sf_78_10s (Int32.ofNat n) m = sh_bt (sf_157 w x (se_nx (i + 1) m)) (fun m => .inr ((none, m))) fun _ m15 => sf_78_490 (Int32.ofNat n) m15 := se_78s h (fun r4 q => by
    subst q
    (repeat rw [if_neg (by decide)])
    rw [if_pos (by decide)])
  unfold sf_78_10
  rw [sh_while_eq]
  rw [e]
  cases sf_157 w x (se_nx (i + 1) m) with
  | none => rfl
  | some q =>
    obtain ⟨r, m2⟩ := q
    cases r with
    | none => rfl
    | some r =>
      show sh_while _ (Int32.ofNat n + 1, m2) = sh_while _ (Int32.ofNat (n + 1), m2)
      rw [sh_nI1]
theorem se_a16 {n i c2 : Nat} {w x : Int32} {m : sh_X} (h : se_At n i c2 16 w x m) : sf_78_10 (Int32.ofNat n) m = se_go n (sf_159 w x (se_nx (i + 1) m)) := by
  have e : sf_78_10s (Int32.ofNat n) m = sh_bt (sf_159 w x (se_nx (i + 1) m)) (fun m => .inr ((none, m))) fun _ m15 => sf_78_490 (Int32.ofNat n) m15 := se_78s h (fun r4 q => by
    subst q
    (repeat rw [if_neg (by decide)])
    rw [if_pos (by decide)])
  unfold sf_78_10
  rw [sh_while_eq]
  rw [e]
  cases sf_159 w x (se_nx (i + 1) m) with
  | none => rfl
  | some q =>
    obtain ⟨r, m2⟩ := q
    cases r with
    | none => rfl
    | some r =>
      show sh_while _ (Int32.ofNat n + 1, m2) = sh_while _ (Int32.ofNat (n + 1), m2)
      rw [sh_nI1]
theorem se_a17 {n i c2 : Nat} {w x : Int32} {m : sh_X} (h : se_At n i c2 17 w x m) : sf_78_10 (Int32.ofNat n) m = se_gn n (sf_160 x (se_nx (i + 1) m)) := by
  have e : sf_78_10s (Int32.ofNat n) m = sh_bn (sf_160 x (se_nx (i + 1) m)) fun _ m15 => sf_78_490 (Int32.ofNat n) m15 := se_78s h (fun r4 q => by
    subst q
    (repeat rw [if_neg (by decide)])
    rw [if_pos (by decide)])
  unfold sf_78_10
  rw [sh_while_eq]
  rw [e]
  cases sf_160 x (se_nx (i + 1) m) with
  | none => rfl
  | some q =>
    obtain ⟨r, m2⟩ := q
    show sh_while _ (Int32.ofNat n + 1, m2) = sh_while _ (Int32.ofNat (n + 1), m2)
    rw [sh_nI1]
theorem se_a18 {n i c2 : Nat} {w x : Int32} {m : sh_X} (h : se_At n i c2 18 w x m) : sf_78_10 (Int32.ofNat n) m = se_go n (sf_161 w (se_nx (i + 1) m)) := by
  have e : sf_78_10s (Int32.ofNat n) m = sh_bt (sf_161 w (se_nx (i + 1) m)) (fun m => .inr ((none, m))) fun _ m15 => sf_78_490 (Int32.ofNat n) m15 := se_78s h (fun r4 q => by
    subst q
    (repeat rw [if_neg (by decide)])
    rw [if_pos (by decide)])
  unfold sf_78_10
  rw [sh_while_eq]
  rw [e]
  cases sf_161 w (se_nx (i + 1) m) with
  | none => rfl
  | some q =>
    obtain ⟨r, m2⟩ := q
    cases r with
    | none => rfl
    | some r =>
      show sh_while _ (Int32.ofNat n + 1, m2) = sh_while _ (Int32.ofNat (n + 1), m2)
      rw [sh_nI1]
theorem se_a19 {n i c2 : Nat} {w x : Int32} {v : Int64} {m : sh_X} (h : se_At n i c2 19 w x m) (hv : sf_66 w (se_nx (i + 1) m) = some v) : sf_78_10 (Int32.ofNat n) m = se_gn n (sf_162 v w (se_nx (i + 1) m)) := by
  have e : sf_78_10s (Int32.ofNat n) m = sh_bn (sf_162 v w (se_nx (i + 1) m)) fun _ m15 => sf_78_490 (Int32.ofNat n) m15 := se_78s h (fun r4 q => by
    subst q
    (repeat rw [if_neg (by decide)])
    rw [if_pos (by decide), hv, sh_bc_some])
  unfold sf_78_10
  rw [sh_while_eq]
  rw [e]
  cases sf_162 v w (se_nx (i + 1) m) with
  | none => rfl
  | some q =>
    obtain ⟨r, m2⟩ := q
    show sh_while _ (Int32.ofNat n + 1, m2) = sh_while _ (Int32.ofNat (n + 1), m2)
    rw [sh_nI1]
theorem se_a20 {n i c2 : Nat} {w x : Int32} {m : sh_X} (h : se_At n i c2 20 w x m) : sf_78_10 (Int32.ofNat n) m = se_gn n (sf_163 257 x (se_nx (i + 1) m)) := by
  have e : sf_78_10s (Int32.ofNat n) m = sh_bn (sf_163 257 x (se_nx (i + 1) m)) fun _ m15 => sf_78_490 (Int32.ofNat n) m15 := se_78s h (fun r4 q => by
    subst q
    (repeat rw [if_neg (by decide)])
    rw [if_pos (by decide)])
  unfold sf_78_10
  rw [sh_while_eq]
  rw [e]
  cases sf_163 257 x (se_nx (i + 1) m) with
  | none => rfl
  | some q =>
    obtain ⟨r, m2⟩ := q
    show sh_while _ (Int32.ofNat n + 1, m2) = sh_while _ (Int32.ofNat (n + 1), m2)
    rw [sh_nI1]
theorem se_a21 {n i c2 : Nat} {w x : Int32} {m : sh_X} (h : se_At n i c2 21 w x m) : sf_78_10 (Int32.ofNat n) m = se_go n (sf_164 w (se_nx (i + 1) m)) := by
  have e : sf_78_10s (Int32.ofNat n) m = sh_bt (sf_164 w (se_nx (i + 1) m)) (fun m => .inr ((none, m))) fun _ m15 => sf_78_490 (Int32.ofNat n) m15 := se_78s h (fun r4 q => by
    subst q
    (repeat rw [if_neg (by decide)])
    rw [if_pos (by decide)])
  unfold sf_78_10
  rw [sh_while_eq]
  rw [e]
  cases sf_164 w (se_nx (i + 1) m) with
  | none => rfl
  | some q =>
    obtain ⟨r, m2⟩ := q
    cases r with
    | none => rfl
    | some r =>
      show sh_while _ (Int32.ofNat n + 1, m2) = sh_while _ (Int32.ofNat (n + 1), m2)
      rw [sh_nI1]
theorem se_a22 {n i c2 : Nat} {w x : Int32} {m : sh_X} (h : se_At n i c2 22 w x m) : sf_78_10 (Int32.ofNat n) m = se_go n (sf_165 w (se_nx (i + 1) m)) := by
  have e : sf_78_10s (Int32.ofNat n) m = sh_bt (sf_165 w (se_nx (i + 1) m)) (fun m => .inr ((none, m))) fun _ m15 => sf_78_490 (Int32.ofNat n) m15 := se_78s h (fun r4 q => by
    subst q
    (repeat rw [if_neg (by decide)])
    rw [if_pos (by decide)])
  unfold sf_78_10
  rw [sh_while_eq]
  rw [e]
  cases sf_165 w (se_nx (i + 1) m) with
  | none => rfl
  | some q =>
    obtain ⟨r, m2⟩ := q
    cases r with
    | none => rfl
    | some r =>
      show sh_while _ (Int32.ofNat n + 1, m2) = sh_while _ (Int32.ofNat (n + 1), m2)
      rw [sh_nI1]
theorem se_a23 {n i c2 : Nat} {w x : Int32} {m : sh_X} (h : se_At n i c2 23 w x m) : sf_78_10 (Int32.ofNat n) m = se_go n (sf_168 w (se_nx (i + 1) m)) := by
  have e : sf_78_10s (Int32.ofNat n) m = sh_bt (sf_168 w (se_nx (i + 1) m)) (fun m => .inr ((none, m))) fun _ m15 => sf_78_490 (Int32.ofNat n) m15 := se_78s h (fun r4 q => by
    subst q
    (repeat rw [if_neg (by decide)])
    rw [if_pos (by decide)])
  unfold sf_78_10
  rw [sh_while_eq]
  rw [e]
  cases sf_168 w (se_nx (i + 1) m) with
  | none => rfl
  | some q =>
    obtain ⟨r, m2⟩ := q
    cases r with
    | none => rfl
    | some r =>
      show sh_while _ (Int32.ofNat n + 1, m2) = sh_while _ (Int32.ofNat (n + 1), m2)
      rw [sh_nI1]
theorem se_a24 {n i c2 : Nat} {w x : Int32} {m : sh_X} (h : se_At n i c2 24 w x m) : sf_78_10 (Int32.ofNat n) m = se_go n (sf_170 w (se_nx (i + 1) m)) := by
  have e : sf_78_10s (Int32.ofNat n) m = sh_bt (sf_170 w (se_nx (i + 1) m)) (fun m => .inr ((none, m))) fun _ m15 => sf_78_490 (Int32.ofNat n) m15 := se_78s h (fun r4 q => by
    subst q
    (repeat rw [if_neg (by decide)])
    rw [if_pos (by decide)])
  unfold sf_78_10
  rw [sh_while_eq]
  rw [e]
  cases sf_170 w (se_nx (i + 1) m) with
  | none => rfl
  | some q =>
    obtain ⟨r, m2⟩ := q
    cases r with
    | none => rfl
    | some r =>
      show sh_while _ (Int32.ofNat n + 1, m2) = sh_while _ (Int32.ofNat (n + 1), m2)
      rw [sh_nI1]
theorem se_a25 {n i c2 : Nat} {w x : Int32} {m : sh_X} (h : se_At n i c2 25 w x m) : sf_78_10 (Int32.ofNat n) m = se_go n (sf_171 w (se_nx (i + 1) m)) := by
  have e : sf_78_10s (Int32.ofNat n) m = sh_bt (sf_171 w (se_nx (i + 1) m)) (fun m => .inr ((none, m))) fun _ m15 => sf_78_490 (Int32.ofNat n) m15 := se_78s h (fun r4 q => by
    subst q
    (repeat rw [if_neg (by decide)])
    rw [if_pos (by decide)])
  unfold sf_78_10
  rw [sh_while_eq]
  rw [e]
  cases sf_171 w (se_nx (i + 1) m) with
  | none => rfl
  | some q =>
    obtain ⟨r, m2⟩ := q
    cases r with
    | none => rfl
    | some r =>
      show sh_while _ (Int32.ofNat n + 1, m2) = sh_while _ (Int32.ofNat (n + 1), m2)
      rw [sh_nI1]
theorem se_a26 {n i c2 : Nat} {w x : Int32} {m : sh_X} (h : se_At n i c2 26 w x m) : sf_78_10 (Int32.ofNat n) m = se_go n (sf_192 w x (se_nx (i + 1) m)) := by
  have e : sf_78_10s (Int32.ofNat n) m = sh_bt (sf_192 w x (se_nx (i + 1) m)) (fun m => .inr ((none, m))) fun _ m15 => sf_78_490 (Int32.ofNat n) m15 := se_78s h (fun r4 q => by
    subst q
    (repeat rw [if_neg (by decide)])
    rw [if_pos (by decide)])
  unfold sf_78_10
  rw [sh_while_eq]
  rw [e]
  cases sf_192 w x (se_nx (i + 1) m) with
  | none => rfl
  | some q =>
    obtain ⟨r, m2⟩ := q
    cases r with
    | none => rfl
    | some r =>
      show sh_while _ (Int32.ofNat n + 1, m2) = sh_while _ (Int32.ofNat (n + 1), m2)
      rw [sh_nI1]
theorem se_a27 {n i c2 : Nat} {w x : Int32} {m : sh_X} (h : se_At n i c2 27 w x m) : sf_78_10 (Int32.ofNat n) m = se_go n (sf_194 w x (se_nx (i + 1) m)) := by
  have e : sf_78_10s (Int32.ofNat n) m = sh_bt (sf_194 w x (se_nx (i + 1) m)) (fun m => .inr ((none, m))) fun _ m15 => sf_78_490 (Int32.ofNat n) m15 := se_78s h (fun r4 q => by
    subst q
    (repeat rw [if_neg (by decide)])
    rw [if_pos (by decide)])
  unfold sf_78_10
  rw [sh_while_eq]
  rw [e]
  cases sf_194 w x (se_nx (i + 1) m) with
  | none => rfl
  | some q =>
    obtain ⟨r, m2⟩ := q
    cases r with
    | none => rfl
    | some r =>
      show sh_while _ (Int32.ofNat n + 1, m2) = sh_while _ (Int32.ofNat (n + 1), m2)
      rw [sh_nI1]
theorem se_a28 {n i c2 : Nat} {w x : Int32} {m : sh_X} (h : se_At n i c2 28 w x m) : sf_78_10 (Int32.ofNat n) m = se_go n (sf_195 w (se_nx (i + 1) m)) := by
  have e : sf_78_10s (Int32.ofNat n) m = sh_bt (sf_195 w (se_nx (i + 1) m)) (fun m => .inr ((none, m))) fun _ m15 => sf_78_490 (Int32.ofNat n) m15 := se_78s h (fun r4 q => by
    subst q
    (repeat rw [if_neg (by decide)])
    rw [if_pos (by decide)])
  unfold sf_78_10
  rw [sh_while_eq]
  rw [e]
  cases sf_195 w (se_nx (i + 1) m) with
  | none => rfl
  | some q =>
    obtain ⟨r, m2⟩ := q
    cases r with
    | none => rfl
    | some r =>
      show sh_while _ (Int32.ofNat n + 1, m2) = sh_while _ (Int32.ofNat (n + 1), m2)
      rw [sh_nI1]
theorem se_a29 {n i c2 : Nat} {w x : Int32} {m : sh_X} (h : se_At n i c2 29 w x m) : sf_78_10 (Int32.ofNat n) m = se_go n (sf_196 w (se_nx (i + 1) m)) := by
  have e : sf_78_10s (Int32.ofNat n) m = sh_bt (sf_196 w (se_nx (i + 1) m)) (fun m => .inr ((none, m))) fun _ m15 => sf_78_490 (Int32.ofNat n) m15 := se_78s h (fun r4 q => by
    subst q
    (repeat rw [if_neg (by decide)])
    rw [if_pos (by decide)])
  unfold sf_78_10
  rw [sh_while_eq]
  rw [e]
  cases sf_196 w (se_nx (i + 1) m) with
  | none => rfl
  | some q =>
    obtain ⟨r, m2⟩ := q
    cases r with
    | none => rfl
    | some r =>
      show sh_while _ (Int32.ofNat n + 1, m2) = sh_while _ (Int32.ofNat (n + 1), m2)
      rw [sh_nI1]
theorem se_a30 {n i c2 : Nat} {w x : Int32} {m : sh_X} (h : se_At n i c2 30 w x m) : sf_78_10 (Int32.ofNat n) m = se_go n (sf_197 w (se_nx (i + 1) m)) := by
  have e : sf_78_10s (Int32.ofNat n) m = sh_bt (sf_197 w (se_nx (i + 1) m)) (fun m => .inr ((none, m))) fun _ m15 => sf_78_490 (Int32.ofNat n) m15 := se_78s h (fun r4 q => by
    subst q
    (repeat rw [if_neg (by decide)])
    rw [if_pos (by decide)])
  unfold sf_78_10
  rw [sh_while_eq]
  rw [e]
  cases sf_197 w (se_nx (i + 1) m) with
  | none => rfl
  | some q =>
    obtain ⟨r, m2⟩ := q
    cases r with
    | none => rfl
    | some r =>
      show sh_while _ (Int32.ofNat n + 1, m2) = sh_while _ (Int32.ofNat (n + 1), m2)
      rw [sh_nI1]
