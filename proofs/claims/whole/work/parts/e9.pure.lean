/-! EVALUATION: rows are made -/
/-- i longs of the list, from S on, are copied to D -/
def se_cl (J : Nat → Nat → Int64) (D S i : Nat) : Nat → Nat → Int64 := fun c j => if c = 92 ∧ D ≤ j ∧ j < D + i then J 115 (S + (j - D)) else J c j
theorem se_cl_0 {J : Nat → Nat → Int64} {D S : Nat} : se_cl J D S 0 = J := by
  funext c j
  unfold se_cl
  rw [if_neg (by omega)]
theorem se_cl_in {J : Nat → Nat → Int64} {D S i k : Nat} (h : k < i) : se_cl J D S i 92 (D + k) = J 115 (S + k) := by
  unfold se_cl
  rw [if_pos (by omega)]
  congr 1
  omega
theorem se_cl_out {J : Nat → Nat → Int64} {D S i j : Nat} (h : j < D ∨ D + i ≤ j) : se_cl J D S i 92 j = J 92 j := by
  unfold se_cl
  rw [if_neg (by omega)]
theorem se_cl_c {J : Nat → Nat → Int64} {D S i c : Nat} (h : c ≠ 92) : se_cl J D S i c = J c := by
  funext j
  unfold se_cl
  rw [if_neg (by omega)]
theorem se_cl_1 {J : Nat → Nat → Int64} {D S i : Nat} : sh_u2 (se_cl J D S i) 92 (D + i) (se_cl J D S i 115 (S + i)) = se_cl J D S (i + 1) := by
  rw [se_cl_c (by omega)]
  funext c j
  by_cases hc : c = 92
  · subst hc
    by_cases hj : j = D + i
    · subst hj
      rw [sh_u2_same]
      exact (se_cl_in (by omega)).symm
    · rw [sh_u2_idx hj]
      unfold se_cl
      by_cases hr : D ≤ j ∧ j < D + i
      · rw [if_pos ⟨rfl, hr⟩, if_pos (by omega)]
      · rw [if_neg (by omega), if_neg (by omega)]
  · rw [sh_u2_cell hc, se_cl_c hc, se_cl_c hc]
theorem se_clG {tp q un li D S i : Nat} {m : sh_X} (h : tp ≤ D) : se_G tp q un li m (m.T, m.I, se_cl m.J D S i, m.s) :=
  se_G.mk rfl rfl (fun _ _ _ => rfl) (fun x _ a _ _ _ => se_cl_c a) (fun _ _ => rfl) (fun j hj => se_cl_out (by omega)) (fun j _ => ⟨rfl, rfl, rfl, rfl, rfl, by simp only [sh_X.J]; rw [se_cl_c (by omega)]⟩) (fun j _ => ⟨rfl, rfl, rfl, rfl, rfl, rfl, by simp only [sh_X.J]; rw [se_cl_c (by omega)]⟩) (fun j _ => ⟨rfl, rfl, rfl, rfl, by simp only [sh_X.J]; rw [se_cl_c (by omega)]⟩)
/-- listed is set -/
def se_li (li : Nat) (m : sh_X) : sh_X := (m.T, sh_u2 m.I 66 79 (Int32.ofNat li), m.J, m.s)
theorem se_liI {li c : Nat} {m : sh_X} (h : c ≠ 66) : (se_li li m).I c = m.I c := sh_u2_cell h
theorem se_liF {li f : Nat} {m : sh_X} (h : f ≠ 79) : (se_li li m).I 66 f = m.I 66 f := se_In (by omega)
theorem se_li9 {li : Nat} {m : sh_X} : (se_li li m).I 66 79 = Int32.ofNat li := se_Is
theorem se_G.li {tp q un l2 li : Nat} {m m2 : sh_X} (h : se_G tp q un l2 m m2) : se_G tp q un l2 (se_li li m) (se_li li m2) :=
  se_G.mk h.T h.s (fun x a b => by rw [se_liI a, se_liI a]; exact h.I x a b) (fun x a b c d e => h.J x a b c d e) (fun f a => by
    by_cases e : f = 79
    · subst e; rw [se_li9, se_li9]
    · rw [se_liF e, se_liF e]; exact h.F f a) h.me (fun j hj => by rw [se_liI (by omega), se_liI (by omega), se_liI (by omega), se_liI (by omega), se_liI (by omega), se_liI (by omega), se_liI (by omega), se_liI (by omega), se_liI (by omega), se_liI (by omega)]; exact h.na j hj) (fun j hj => by rw [se_liI (by omega), se_liI (by omega), se_liI (by omega), se_liI (by omega), se_liI (by omega), se_liI (by omega), se_liI (by omega), se_liI (by omega), se_liI (by omega), se_liI (by omega), se_liI (by omega), se_liI (by omega)]; exact h.ws j hj) (fun j hj => by rw [se_liI (by omega), se_liI (by omega), se_liI (by omega), se_liI (by omega), se_liI (by omega), se_liI (by omega), se_liI (by omega), se_liI (by omega)]; exact h.ls j hj)
theorem se_li_U {li : Nat} {m : sh_X} : se_U m (se_li li m) := se_U.mk rfl rfl (fun x a _ => se_liI a) (fun _ _ _ => rfl) (fun f a => se_liF (by omega))
section
variable {N : Nat} {K : Nat → Int32} {P V : Nat → Nat} {A C : Nat → Nat → Int32} {p : Nat → Bool} {gs : sh_gL} {u z q B fr cl sp cw ifs cd kn : Nat} {mc mm : sh_X} {n un li tp t0 e ky bY : Nat} {K1 B1 N1 T1 R1 : Nat → Nat} {V1 : Nat → Nat → Int64}
/-- the model looks at the list once more -/
theorem se_rw3 {m : sh_X} {K2 B2 : Nat → Nat} (hN : N ≤ 4000) (hw : sh_We N K P V m) (hl2 : li + n < 2000) (h79 : m.I 66 79 = Int32.ofNat (li + n)) (he : e < 9000) (h73 : m.I 73 e = Int32.ofNat t0) (ht : t0 ≤ N) (bk : ky ≤ 64 ∧ bY ≤ 64) (hl : ∀ i, i < n → K2 i ≤ 64 ∧ B2 i ≤ 64 ∧ N1 i ≤ 64 ∧ m.I 112 (li + i) = Int32.ofNat (K2 i) ∧ m.I 113 (li + i) = Int32.ofNat (B2 i) ∧ m.I 114 (li + i) = Int32.ofNat (N1 i)) :
    ∀ d x, x + d = n → ((∀ i, x ≤ i → i < n → K2 i = ky ∧ B2 i = bY ∧ N1 i = 0) ∧ n ≤ 32 ∧ sf_312_171 (Int32.ofNat e) (Int32.ofNat li) (Int32.ofNat ky) (Int32.ofNat bY) (Int32.ofNat (li + x)) m = sf_312_299 (Int32.ofNat e) (Int32.ofNat li) (Int32.ofNat bY) (Int32.ofNat n) 0 (m.T, sh_u2 (sh_u2 (sh_u2 m.I 66 43 (Int32.ofNat ky)) 66 44 (Int32.ofNat bY)) 66 45 (Int32.ofNat n), sh_u2 m.J 66 46 (Int32.toInt64 (m.I 66 41)), m.s)) ∨
      (¬ ((∀ i, x ≤ i → i < n → K2 i = ky ∧ B2 i = bY ∧ N1 i = 0) ∧ n ≤ 32) ∧ sf_312_171 (Int32.ofNat e) (Int32.ofNat li) (Int32.ofNat ky) (Int32.ofNat bY) (Int32.ofNat (li + x)) m = some (false, sh_mft 4 (Int32.ofNat (P t0)) m)) := by
  have f14 : sf_312_214 (Int32.ofNat e) m = some (false, sh_mft 4 (Int32.ofNat (P t0)) m) := by
    unfold sf_312_214
    rw [if_pos (sh_okn' he (by omega)), sh_nIc (by omega), h73, if_pos (sh_okn' (by omega) (by omega)), sh_nIc (by omega), hw.at ht, sh_252, sh_bn_some]
  intro d
  induction d with
  | zero =>
    intro x hx
    have : x = n := by omega
    subst this
    have sb : Int32.ofNat (li + x) - Int32.ofNat li = Int32.ofNat x := by rw [sh_nIsub (by omega)]; congr 1; omega
    by_cases h32 : x ≤ 32
    · left
      refine ⟨fun i h1 h2 => by omega, h32, ?_⟩
      unfold sf_312_171
      rw [sh_while_eq]
      have e1 : sf_312_171s (Int32.ofNat e) (Int32.ofNat li) (Int32.ofNat ky) (Int32.ofNat bY) (Int32.ofNat (li + x)) m = sh_up (sf_312_299 (Int32.ofNat e) (Int32.ofNat li) (Int32.ofNat bY) (Int32.ofNat x) 0 (m.T, sh_u2 (sh_u2 (sh_u2 m.I 66 43 (Int32.ofNat ky)) 66 44 (Int32.ofNat bY)) 66 45 (Int32.ofNat x), sh_u2 m.J 66 46 (Int32.toInt64 (m.I 66 41)), m.s)) := by
        unfold sf_312_171s
        rw [h79, if_neg (sh_nlt0 _), sb, if_neg (show ¬ 32 < Int32.ofNat x from fun r => by have := (sh_nIlt (a := 32) (by omega) (by omega)).mp r; omega)]
      rw [e1]
      cases sf_312_299 (Int32.ofNat e) (Int32.ofNat li) (Int32.ofNat bY) (Int32.ofNat x) 0 (m.T, sh_u2 (sh_u2 (sh_u2 m.I 66 43 (Int32.ofNat ky)) 66 44 (Int32.ofNat bY)) 66 45 (Int32.ofNat x), sh_u2 m.J 66 46 (Int32.toInt64 (m.I 66 41)), m.s) with
      | none => rfl
      | some r => rfl
    · right
      refine ⟨fun r => h32 r.2, ?_⟩
      unfold sf_312_171
      rw [sh_while_eq]
      have e1 : sf_312_171s (Int32.ofNat e) (Int32.ofNat li) (Int32.ofNat ky) (Int32.ofNat bY) (Int32.ofNat (li + x)) m = some (.inr (false, sh_mft 4 (Int32.ofNat (P t0)) m)) := by
        unfold sf_312_171s
        rw [h79, if_neg (sh_nlt0 _), sb, if_pos (show 32 < Int32.ofNat x from (sh_nIlt (a := 32) (by omega) (by omega)).mpr (by omega)), if_pos (sh_okn' he (by omega)), sh_nIc (by omega), h73, if_pos (sh_okn' (by omega) (by omega)), sh_nIc (by omega), hw.at ht, sh_252, sh_bn_some]
      rw [e1]
  | succ d ih =>
    intro x hx
    obtain ⟨q1, q2, q3, q4, q5, q6⟩ := hl x (by omega)
    have o : sh_okb (Int32.ofNat (li + x)) 2000 = true := sh_okn' (by omega) (by omega)
    have un : sf_312_171s (Int32.ofNat e) (Int32.ofNat li) (Int32.ofNat ky) (Int32.ofNat bY) (Int32.ofNat (li + x)) m = if K2 x = ky ∧ B2 x = bY ∧ N1 x = 0 then some (.inl (Int32.ofNat (li + (x + 1)), m)) else some (.inr (false, sh_mft 4 (Int32.ofNat (P t0)) m)) := by
      unfold sf_312_171s
      rw [h79, if_pos ((sh_nIlt (by omega) (by omega)).mpr (by omega)), if_pos o, if_pos o, if_pos o, sh_nIc (by omega), q4, q5, q6, f14, sh_nI1]
      by_cases w1 : 0 < N1 x
      · rw [if_pos ((se_0lt (by omega)).mpr w1), if_neg (by omega)]
        rfl
      · rw [if_neg (fun r => w1 ((se_0lt (by omega)).mp r))]
        by_cases w2 : K2 x = ky
        · rw [if_pos (by rw [w2])]
          by_cases w3 : B2 x = bY
          · rw [if_pos (by rw [w3]), if_pos ⟨w2, w3, by omega⟩]
            rfl
          · rw [if_neg (fun r => w3 ((sh_nIeq (by omega) (by omega)).mp r)), if_neg (fun r => w3 r.2.1)]
            rfl
        · rw [if_neg (fun r => w2 ((sh_nIeq (by omega) (by omega)).mp r)), if_neg (fun r => w2 r.1)]
          rfl
    by_cases w : K2 x = ky ∧ B2 x = bY ∧ N1 x = 0
    · rw [if_pos w] at un
      have st : sf_312_171 (Int32.ofNat e) (Int32.ofNat li) (Int32.ofNat ky) (Int32.ofNat bY) (Int32.ofNat (li + x)) m = sf_312_171 (Int32.ofNat e) (Int32.ofNat li) (Int32.ofNat ky) (Int32.ofNat bY) (Int32.ofNat (li + (x + 1))) m := by
        unfold sf_312_171
        rw [sh_while_eq, un]
      rcases ih (x + 1) (by omega) with ⟨r1, r2, r3⟩ | ⟨r1, r3⟩
      · left
        refine ⟨fun i h1 h2 => ?_, r2, st.trans r3⟩
        by_cases v : i = x
        · rw [v]; exact w
        · exact r1 i (by omega) h2
      · right
        exact ⟨fun r => r1 ⟨fun i h1 h2 => r.1 i (by omega) h2, r.2⟩, st.trans r3⟩
    · rw [if_neg w] at un
      right
      refine ⟨fun r => w (r.1 x (Nat.le_refl _) (by omega)), ?_⟩
      unfold sf_312_171
      rw [sh_while_eq, un]
/-- the class puts the wires of n values into a row -/
theorem se_188 {m1 : sh_X} {W : Nat → Nat} {FW : Nat → Nat → (Nat → Bool) → Bool} {ty : Int32} (h : se_c N K P V C gs u (z + n) q B fr cl sp cw ifs cd kn mc) (hz : z + n ≤ 2048) (hn : 1 ≤ n) (b1 : 1 ≤ bY) (hb : u + n * bY ≤ 8192) (h1 : sh_RS gs (u + n * bY) m1) (h2 : sh_Rf mc m1) (h3 : ∀ j, m1.I 45 j = mc.I 45 j) (hW : ∀ i, i < n → mc.I 50 (z + i) = Int32.ofNat (W i) ∧ sh_val mc gs u (W i) bY (FW i)) :
    ∃ m2, sf_194_188 (Int32.ofNat n) (Int32.ofNat z) ty (Int32.ofNat bY) (Int32.ofNat u) 0 m1 = some (some (), m2) ∧ se_c N K P V C gs (u + n * bY) (z + 1) q B fr cl sp cw ifs cd kn m2 ∧ se_F u z q fr cl mc m2 ∧ m2.I 49 z = ty + 512 * Int32.ofNat n ∧ m2.I 50 z = Int32.ofNat u ∧ sh_val m2 gs (u + n * bY) u (n * bY) (fun j => FW (j / bY) (j % bY)) ∧ m2.I 41 = mc.I 41 := by
  have hu := h.rs.2.2.1
  have main : ∀ d x m, x + d = n → sh_RI 0 (fun j => FW (j / bY) (j % bY)) gs u (n * bY) mc (x * bY) [] m → ∃ m2, sf_194_188 (Int32.ofNat n) (Int32.ofNat z) ty (Int32.ofNat bY) (Int32.ofNat u) (Int32.ofNat x) m = some (some (), m2) ∧ se_c N K P V C gs (u + n * bY) (z + 1) q B fr cl sp cw ifs cd kn m2 ∧ se_F u z q fr cl mc m2 ∧ m2.I 49 z = ty + 512 * Int32.ofNat n ∧ m2.I 50 z = Int32.ofNat u ∧ sh_val m2 gs (u + n * bY) u (n * bY) (fun j => FW (j / bY) (j % bY)) ∧ m2.I 41 = mc.I 41 := by
    intro d
    induction d with
    | zero =>
      intro x m hx hR
      have : x = n := by omega
      subst this
      have c5 := h.R hR.fr hR.po hR.rs
      obtain ⟨m2, a1, a2, a3, a4, a5, a6, a7⟩ := se_rep c5 (k := x) (by omega) hz (ty + 512 * Int32.ofNat x) (Int32.ofNat u)
      have zx : z + x - x = z := by omega
      rw [zx] at a2 a3 a4 a5
      refine ⟨m2, ?_, a2, (se_F.R hR.fr hR.po).trans a3 (by omega) (Nat.le_refl _) (Nat.le_refl _) (Nat.le_refl _) (Nat.le_refl _), a4, a5, ?_, ?_⟩
      · unfold sf_194_188
        rw [sh_while_eq]
        have e1 : sf_194_188s (Int32.ofNat x) (Int32.ofNat z) ty (Int32.ofNat bY) (Int32.ofNat u) (Int32.ofNat x) m = some (.inr (some (), m2)) := by
          unfold sf_194_188s
          rw [if_neg (sh_nlt0 x), a1]
          rfl
        rw [e1]
      · have v : sh_val m gs (u + x * bY) u (x * bY) (fun j => FW (j / bY) (j % bY)) := ⟨Nat.le_refl _, fun j hj => hR.rb j hj⟩
        have := v.keep (m2 := m2) (e := []) (Nat.le_refl _) (fun j _ => by rw [a6])
        exact this
      · rw [a7]
        exact hR.fr.I 41 (by omega) (by omega) (by omega) (by omega) (by omega) (by omega) (by omega) (by omega) (by omega)
    | succ d ih =>
      intro x m hx hR
      obtain ⟨w1, w2⟩ := hW x (by omega)
      have le : (x + 1) * bY ≤ n * bY := Nat.mul_le_mul_right _ (by omega)
      have sm : (x + 1) * bY = x * bY + bY := Nat.succ_mul x bY
      obtain ⟨m4, d1, d2⟩ := se_137 (i := x * bY) hR hu hb w2 (fun j hj p => by
        obtain ⟨q1, q2⟩ := sh_divmod (k := x) hj
        show FW ((x * bY + j) / bY) ((x * bY + j) % bY) p = _
        rw [q1, q2]) (by omega)
      rw [← sm] at d2
      obtain ⟨m2, g1, g2⟩ := ih (x + 1) m4 (by omega) d2
      refine ⟨m2, ?_, g2⟩
      rw [← g1]
      have c5 := h.R hR.fr hR.po hR.rs
      have e50 : m.I 50 = mc.I 50 := hR.fr.I 50 (by omega) (by omega) (by omega) (by omega) (by omega) (by omega) (by omega) (by omega) (by omega)
      unfold sf_194_188
      rw [sh_while_eq]
      have e1 : sf_194_188s (Int32.ofNat n) (Int32.ofNat z) ty (Int32.ofNat bY) (Int32.ofNat u) (Int32.ofNat x) m = some (.inl (Int32.ofNat (x + 1), m4)) := by
        unfold sf_194_188s
        rw [if_pos ((sh_nIlt (by omega) (by omega)).mpr (by omega)), sh_nIadd, (se_slot c5.cz (by omega : z + x < z + n) hz).2.2.2, sh_bc_some, e50, w1, sh_nImul, sh_nIadd, d1, sh_bn_some, sh_nI1]
      rw [e1]
  exact main n 0 m1 (by omega) (by rw [Nat.zero_mul]; exact sh_RI_0 h1 h2 h3)
end
