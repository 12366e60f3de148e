/-! the lexer of the class: digits, signs, all -/
theorem sh_dig10L {c : Int32} {a : Nat} (h : sf_31 c = true) : (((10 : Int64) * Int64.ofNat a) + Int32.toInt64 c) - (48 : Int64) = Int64.ofNat (10 * a + sh_dgt c) := by
  obtain ⟨h1, h2⟩ := sh_dgt_lt h
  have e : Int32.toInt64 c = Int64.ofNat (48 + sh_dgt c) := by
    rw [h2]
    generalize sh_dgt c = d at h1
    have h9 : ∀ d : Fin 10, Int32.toInt64 (Int32.ofNat (48 + d.1)) = Int64.ofNat (48 + sh_dgt (Int32.ofNat (48 + d.1))) := by decide
    exact h9 ⟨d, h1⟩
  rw [e, show (10 : Int64) = Int64.ofNat 10 from rfl, show (48 : Int64) = Int64.ofNat 48 from rfl, ← Int64.ofNat_mul, ← Int64.ofNat_add]
  rw [show 10 * a + (48 + sh_dgt c) = (10 * a + sh_dgt c) + 48 by omega, Int64.ofNat_add, Int64.add_sub_cancel]
/-- scanDigits -/
theorem sh_39 {n k : Nat} {ts : List sh_Tok} {nm : List (Nat × Nat)} {m : sh_X} (h : sh_Bc n m) (hC : sh_Cw (sh_by (m.I 1) n) ts nm m) (hk : k < n) (hT : m.T.length < 1000000) (hts : ts.length ≤ k) (hN : sh_Nb (sh_by (m.I 1) n) nm k) (hl : sf_31 (sh_by (m.I 1) n k) = true) : sh_scn (sh_by (m.I 1) n) ts nm k m (if 18 < sh_re sf_31 (sh_by (m.I 1) n) n k - k then none else some (some 2, sh_re sf_31 (sh_by (m.I 1) n) n k)) (sf_39 (Int32.ofNat k) m) := by
  have n4 := h.n4
  obtain ⟨h1, h2, h3, h4⟩ := sh_re_spec (P := sf_31) (B := sh_by (m.I 1) n) (n := n) sh_by_end (by simpa using sh_dig_m1) (f := n) (k := k) (by omega)
  have h4 := h4 (by omega)
  have h5 : k < sh_re sf_31 (sh_by (m.I 1) n) n k := sh_re_pos (by omega) hl
  generalize sh_re sf_31 (sh_by (m.I 1) n) n k = e at *
  have hrun : sf_39 (Int32.ofNat k) m = sf_39_46 (Int32.ofNat k) (Int32.ofNat e) (Int64.ofNat (sh_dvn (sh_by (m.I 1) n) k (e - k))) m := by
    unfold sf_39 sf_39_4
    have hrun := sh_wrun (f := fun q : Int32 × Int64 × sh_X => sf_39_4s (Int32.ofNat k) q.1 q.2.1 q.2.2) (fun i => (Int32.ofNat i, Int64.ofNat (sh_dvn (sh_by (m.I 1) n) k (i - k)), m)) h1 (fun i hi1 hi2 => by
      show sf_39_4s _ _ _ m = _
      unfold sf_39_4s
      rw [if_pos ((sh_len_lt h (by omega)).mpr (by omega)), sh_26 h (by omega), sh_bc_some, if_pos (h2 i hi1 hi2), sh_bc_some, sh_dig10L (h2 i hi1 hi2), sh_nI1]
      rw [show i + 1 - k = (i - k) + 1 by omega]
      show _ = some (Sum.inl (_, Int64.ofNat (10 * sh_dvn (sh_by (m.I 1) n) k (i - k) + sh_dgt (sh_by (m.I 1) n (k + (i - k)))), m))
      rw [show k + (i - k) = i by omega])
    have h0 : ((Int32.ofNat k, (0 : Int64), m) : Int32 × Int64 × sh_X) = (Int32.ofNat k, Int64.ofNat (sh_dvn (sh_by (m.I 1) n) k (k - k)), m) := by rw [Nat.sub_self]; rfl
    rw [h0, hrun]
    refine sh_wup ?_
    show sf_39_4s (Int32.ofNat k) (Int32.ofNat e) _ m = _
    unfold sf_39_4s
    by_cases hen : e < n
    · rw [if_pos ((sh_len_lt h (by omega)).mpr hen), sh_26 h (by omega), sh_bc_some, if_neg (by rw [h3]; simp)]
    · rw [if_neg (fun q => hen ((sh_len_lt h (by omega)).mp q))]
  rw [hrun]
  unfold sf_39_46
  have hsub : Int32.ofNat e - Int32.ofNat k = Int32.ofNat (e - k) := sh_nIsub h1
  have c12 : (18 : Int32) < Int32.ofNat (e - k) ↔ 18 < e - k := sh_nIlt (a := 18) (by omega) (by omega)
  rw [hsub]
  by_cases h12 : 18 < e - k
  · rw [if_pos h12, if_pos (c12.mpr h12), sh_32 hT]
    rfl
  · rw [if_neg h12, if_neg (fun q => h12 (c12.mp q))]
    unfold sf_39_60
    have hck : sh_ck (sh_by (m.I 1) n) (2, k, e - k) = 2 := if_neg (show ¬ (2 : Int32) = 1 by decide)
    obtain ⟨m3, r1, r2, r3⟩ := sh_38 (t := (2, k, e - k)) (x := Int64.ofNat (sh_dvn (sh_by (m.I 1) n) k (e - k))) hC (by omega) hck ⟨fun _ => rfl, fun q => absurd q (by show ¬ (2 : Int32) = 1; decide), fun q => absurd q (by show ¬ (2 : Int32) = 1; decide)⟩
    show ∃ nm2 m2, _
    refine ⟨nm, m3, by rw [r1]; rfl, r2, r3, Or.inl ?_⟩
    rcases hN with hN | ⟨hN, _⟩ <;> omega
theorem sh_u16 {c : Int32} (h : -1 ≤ c.toInt ∧ c.toInt < 256) (h1 : ¬ c = -1) : (Int32.toUInt32 c % 65536).toInt32 = c := by
  have h0 : 0 ≤ c.toInt := by
    rcases (show c.toInt = -1 ∨ 0 ≤ c.toInt by omega) with q | q
    · exact absurd (sh_Ieq.mpr q) h1
    · exact q
  have e : c = Int32.ofNat c.toInt.toNat := by rw [sh_Ieq, sh_nI (by omega)]; omega
  have hn : c.toInt.toNat < 256 := by omega
  rw [e]
  generalize c.toInt.toNat = d at hn
  have h9 : ∀ d : Fin 256, (Int32.toUInt32 (Int32.ofNat d.1) % 65536).toInt32 = Int32.ofNat d.1 := by decide +kernel
  exact h9 ⟨d, hn⟩
theorem sh_sgk {c : Int32} (h : ¬ sh_txi 1 c < 0) : ¬ c = 1 ∧ ¬ c = 2 ∧ ¬ c = 3 := by
  refine ⟨fun q => ?_, fun q => ?_, fun q => ?_⟩ <;> (subst q; exact h (by decide))
theorem sh_253k {c d : Int32} (hc : -1 ≤ c.toInt ∧ c.toInt < 256) (hd : -1 ≤ d.toInt ∧ d.toInt < 256) (h : sf_253 c d = true) : ¬ 256 * c + d = 1 ∧ ¬ 256 * c + d = 2 ∧ c * 256 + d = 256 * c + d := by
  have e : c * 256 + d = 256 * c + d := by rw [Int32.mul_comm]
  rw [← sh_41 hc hd] at h
  rw [← e]
  generalize c * 256 + d = x at h
  refine ⟨fun q => ?_, fun q => ?_, rfl⟩ <;> (subst q; exact absurd h (by unfold sf_41; decide))
/-- scanSign -/
theorem sh_40 {n k : Nat} {ts : List sh_Tok} {nm : List (Nat × Nat)} {m : sh_X} (h : sh_Bc n m) (hC : sh_Cw (sh_by (m.I 1) n) ts nm m) (hk : k < n) (hT : m.T.length < 1000000) (hts : ts.length ≤ k) (hN : sh_Nb (sh_by (m.I 1) n) nm k) : sh_scn (sh_by (m.I 1) n) ts nm k m (if sf_253 (sh_by (m.I 1) n k) (sh_by (m.I 1) n (k + 1)) = true then some (some (256 * sh_by (m.I 1) n k + sh_by (m.I 1) n (k + 1)), k + 2) else if sh_txi 1 (sh_by (m.I 1) n k) < 0 then none else some (some (sh_by (m.I 1) n k), k + 1)) (sf_40 (Int32.ofNat k) (sh_by (m.I 1) n k) m) := by
  have n4 := h.n4
  have hc := sh_by_rng (m.I 1) n k
  have hd := sh_by_rng (m.I 1) n (k + 1)
  have hm1 : ¬ sh_by (m.I 1) n k = -1 := by
    intro q
    have := sh_and255 (m.I 1 k)
    rw [← sh_by_in (n := n) hk, q] at this
    exact absurd this.1 (by decide)
  have hNb : 2 * nm.length ≤ k + 1 := by rcases hN with hN | ⟨hN, _⟩ <;> omega
  unfold sf_40
  rw [sh_nI1, sh_26 h (by omega), sh_bc_some, sh_41 hc hd, sh_u16 hc hm1]
  by_cases hp : sf_253 (sh_by (m.I 1) n k) (sh_by (m.I 1) n (k + 1)) = true
  · obtain ⟨g1, g2, g3⟩ := sh_253k hc hd hp
    rw [if_pos hp, if_pos hp, g3]
    have hck : sh_ck (sh_by (m.I 1) n) (256 * sh_by (m.I 1) n k + sh_by (m.I 1) n (k + 1), k, 2) = 256 * sh_by (m.I 1) n k + sh_by (m.I 1) n (k + 1) := if_neg g1
    obtain ⟨m3, r1, r2, r3⟩ := sh_38 (t := (256 * sh_by (m.I 1) n k + sh_by (m.I 1) n (k + 1), k, 2)) (x := 0) hC (by omega) hck ⟨fun q => absurd q g2, fun q => absurd q g1, fun q => absurd q g1⟩
    show ∃ nm2 m2, _
    rw [show k + 2 - k = 2 by omega]
    refine ⟨nm, m3, ?_, r2, r3, Or.inl (by omega)⟩
    rw [r1, sh_bn_some, show (2 : Int32) = Int32.ofNat 2 from rfl, sh_nIadd]
  · rw [if_neg hp, if_neg hp]
    by_cases hs : sh_txi 1 (sh_by (m.I 1) n k) < 0
    · rw [if_pos hs, if_pos hs, sh_32 hT]
      rfl
    · rw [if_neg hs, if_neg hs]
      obtain ⟨g1, g2, _⟩ := sh_sgk hs
      have hck : sh_ck (sh_by (m.I 1) n) (sh_by (m.I 1) n k, k, 1) = sh_by (m.I 1) n k := if_neg g1
      obtain ⟨m3, r1, r2, r3⟩ := sh_38 (t := (sh_by (m.I 1) n k, k, 1)) (x := 0) hC (by omega) hck ⟨fun q => absurd q g2, fun q => absurd q g1, fun q => absurd q g1⟩
      show ∃ nm2 m2, _
      rw [show k + 1 - k = 1 by omega]
      refine ⟨nm, m3, ?_, r2, r3, Or.inl (by omega)⟩
      unfold sf_40_48
      rw [r1, sh_bn_some, sh_nI1]
/-- scanOne -/
theorem sh_25 {n k : Nat} {ts : List sh_Tok} {nm : List (Nat × Nat)} {m : sh_X} (h : sh_Bc n m) (hC : sh_Cw (sh_by (m.I 1) n) ts nm m) (hk : k < n) (hT : m.T.length < 1000000) (hts : ts.length ≤ k) (hN : sh_Nb (sh_by (m.I 1) n) nm k) : sh_scn (sh_by (m.I 1) n) ts nm k m (sh_tk1 (sh_by (m.I 1) n) n k) (sf_25 (Int32.ofNat k) m) := by
  have n4 := h.n4
  have hid : ∀ q : Option (Option Int32 × sh_X), (sh_bt q (fun m => (none, m)) fun r m2 => some (some r, m2)) = q := by
    intro q
    rcases q with _ | ⟨_ | r, m⟩ <;> rfl
  unfold sf_25 sh_tk1 sf_25_30
  rw [sh_26 h (by omega), sh_bc_some]
  simp only [hid]
  by_cases hw : sh_by (m.I 1) n k = 32 ∨ sh_by (m.I 1) n k = 9 ∨ sh_by (m.I 1) n k = 10 ∨ sh_by (m.I 1) n k = 13
  · rw [if_pos hw, sh_nI1]
    show _ = _
    repeat' split
    all_goals first | rfl | (exfalso; simp_all; done)
  · rw [if_neg hw]
    rw [if_neg (fun q => hw (Or.inl q)), if_neg (fun q => hw (Or.inr (Or.inl q))), if_neg (fun q => hw (Or.inr (Or.inr (Or.inl q)))), if_neg (fun q => hw (Or.inr (Or.inr (Or.inr q))))]
    by_cases h35 : sh_by (m.I 1) n k = 35
    · rw [if_pos h35, if_pos h35, sh_27 h hk]
      rfl
    · rw [if_neg h35, if_neg h35]
      by_cases hl : sf_28 (sh_by (m.I 1) n k) = true
      · rw [if_pos hl, if_pos hl]
        exact sh_29 h hC hk hT hts hN hl
      · rw [if_neg hl, if_neg hl]
        by_cases hd : sf_31 (sh_by (m.I 1) n k) = true
        · rw [if_pos hd, if_pos hd]
          exact sh_39 h hC hk hT hts hN hd
        · rw [if_neg hd, if_neg hd]
          exact sh_40 h hC hk hT hts hN
theorem sh_lx_e0 {B : Nat → Int32} {n f k : Nat} (hk : ¬ k < n) : sh_lx B n f k = .inr [] := by
  cases f with
  | zero => rfl
  | succ f => exact if_neg hk
theorem sh_lx_e1 {B : Nat → Int32} {n f k : Nat} (hk : k < n) (h : sh_tk1 B n k = none) : sh_lx B n (f + 1) k = .inl k := by
  unfold sh_lx
  rw [if_pos hk, h]
theorem sh_lx_e2 {B : Nat → Int32} {n f k k2 : Nat} (hk : k < n) (h : sh_tk1 B n k = some (none, k2)) : sh_lx B n (f + 1) k = sh_lx B n f k2 := by
  show (if k < n then _ else _) = _
  rw [if_pos hk, h]
theorem sh_lx_e3 {B : Nat → Int32} {n f k k2 p : Nat} {t : Int32} (hk : k < n) (h : sh_tk1 B n k = some (some t, k2)) (h2 : sh_lx B n f k2 = .inl p) : sh_lx B n (f + 1) k = .inl p := by
  show (if k < n then _ else _) = _
  rw [if_pos hk, h]
  show (match sh_lx B n f k2 with
        | .inl p => .inl p
        | .inr l => .inr ((t, k, k2 - k) :: l) : Nat ⊕ List sh_Tok) = _
  rw [h2]
theorem sh_lx_e4 {B : Nat → Int32} {n f k k2 : Nat} {t : Int32} {l : List sh_Tok} (hk : k < n) (h : sh_tk1 B n k = some (some t, k2)) (h2 : sh_lx B n f k2 = .inr l) : sh_lx B n (f + 1) k = .inr ((t, k, k2 - k) :: l) := by
  show (if k < n then _ else _) = _
  rw [if_pos hk, h]
  show (match sh_lx B n f k2 with
        | .inl p => .inl p
        | .inr l => .inr ((t, k, k2 - k) :: l) : Nat ⊕ List sh_Tok) = _
  rw [h2]
def sh_scr (B : Nat → Int32) (n : Nat) (ts : List sh_Tok) (m : sh_X) (q : Option (Option Unit × sh_X)) (r : Nat ⊕ List sh_Tok) : Prop := match r with
  | .inl p => ∃ m1, q = some (none, sh_flt 1 (Int32.ofNat p) m1) ∧ sh_Lf m m1
  | .inr l => ∃ nm2 m2, q = some (some (), m2) ∧ sh_Cw B (ts ++ l ++ [(0, n, 0)]) nm2 m2 ∧ sh_Lf m m2 ∧ (ts ++ l).length ≤ n ∧ nm2.length ≤ 2001
/-- scan -/
theorem sh_24l {n : Nat} {B : Nat → Int32} : ∀ (f k c : Nat) (ts : List sh_Tok) (nm : List (Nat × Nat)) (m : sh_X), n ≤ k + f → sh_by (m.I 1) n = B → sh_Bc n m → sh_Cw B ts nm m → m.T.length < 1000000 → ts.length ≤ k → sh_Nb B nm k → c ≤ k → k ≤ n →
    sh_scr B n ts m (sf_24_30 (Int32.ofNat k) (Int32.ofNat c) m) (sh_lx B n f k) := by
  intro f
  induction f with
  | zero =>
    intro k c ts nm m hf hB h hC hT hts hN hc hkn
    have n4 := h.n4
    have hk : k = n := by omega
    show ∃ nm2 m2, _
    obtain ⟨m3, r1, r2, r3⟩ := sh_38 (t := (0, n, 0)) (x := 0) (k := 0) hC (by omega) (if_neg (show ¬ (0 : Int32) = 1 by decide)) ⟨fun q => absurd q (by show ¬ (0 : Int32) = 2; decide), fun q => absurd q (by show ¬ (0 : Int32) = 1; decide), fun q => absurd q (by show ¬ (0 : Int32) = 1; decide)⟩
    refine ⟨nm, m3, ?_, by rw [List.append_nil]; exact r2, r3, by rw [List.append_nil]; omega, by rcases hN with hN | ⟨hN, _⟩ <;> omega⟩
    unfold sf_24_30
    refine sh_wend ?_
    show sf_24_30s (Int32.ofNat k) (Int32.ofNat c) m = _
    have hex : sh_up (α := Int32 × Int32 × sh_X) (sf_24_59 m) = some (.inr (some (), m3)) := by
      unfold sf_24_59
      rw [h.le, r1]
      rfl
    unfold sf_24_30s
    rw [hex]
    split
    · rw [if_neg (fun q => absurd ((sh_len_lt h (by omega)).mp q) (by omega))]
    · rfl
  | succ f ih =>
    intro k c ts nm m hf hB h hC hT hts hN hc hkn
    have n4 := h.n4
    by_cases hk : k < n
    · have hs := sh_25 h (by rw [hB]; exact hC) hk hT hts (by rw [hB]; exact hN)
      rw [hB] at hs
      have hend : ∀ i, n ≤ i → B i = -1 := by rw [← hB]; exact sh_by_end
      have hstep : sf_24_30s (Int32.ofNat k) (Int32.ofNat c) m = sh_bt (sf_25 (Int32.ofNat k) m) (fun m => .inr ((none, m))) fun r1 m11 => some (.inl (r1, Int32.ofNat c + 1, m11)) := by
        unfold sf_24_30s
        rw [if_pos ((sh_len_lt h (by omega)).mpr (by omega)), if_pos ((sh_len_lt h (by omega)).mpr hk)]
      cases htk : sh_tk1 B n k with
      | none =>
        rw [htk] at hs
        rw [sh_lx_e1 hk htk]
        refine ⟨m, ?_, sh_Lf.refl m⟩
        unfold sf_24_30
        refine sh_wend ?_
        show sf_24_30s (Int32.ofNat k) (Int32.ofNat c) m = _
        rw [hstep, show sf_25 (Int32.ofNat k) m = _ from hs]
        rfl
      | some r =>
        obtain ⟨o, k2⟩ := r
        obtain ⟨g1, g2⟩ := sh_tk1_go hend hk htk
        cases o with
        | none =>
          rw [htk] at hs
          have hgo : sf_24_30 (Int32.ofNat k) (Int32.ofNat c) m = sf_24_30 (Int32.ofNat k2) (Int32.ofNat (c + 1)) m := by
            unfold sf_24_30
            refine sh_wstep ?_
            show sf_24_30s (Int32.ofNat k) (Int32.ofNat c) m = _
            rw [hstep, show sf_25 (Int32.ofNat k) m = _ from hs, ← sh_nI1]
            rfl
          rw [hgo, sh_lx_e2 hk htk]
          exact ih k2 (c + 1) ts nm m (by omega) hB h hC hT (by omega) (Or.inl (by rcases hN with hN | ⟨hN, _⟩ <;> omega)) (by omega) g2
        | some t =>
          rw [htk] at hs
          obtain ⟨nm2, m2, q1, q2, q3, q4⟩ := hs
          have hgo : sf_24_30 (Int32.ofNat k) (Int32.ofNat c) m = sf_24_30 (Int32.ofNat k2) (Int32.ofNat (c + 1)) m2 := by
            unfold sf_24_30
            refine sh_wstep ?_
            show sf_24_30s (Int32.ofNat k) (Int32.ofNat c) m = _
            rw [hstep, q1, ← sh_nI1]
            rfl
          rw [hgo]
          have := ih k2 (c + 1) (ts ++ [(t, k, k2 - k)]) nm2 m2 (by omega) (by rw [q3.B]; exact hB) (q3.Bc h) q2 (by rw [q3.T]; exact hT) (by rw [List.length_append]; show ts.length + 1 ≤ k2; omega) q4 (by omega) g2
          cases hl2 : sh_lx B n f k2 with
          | inl p =>
            rw [hl2] at this
            rw [sh_lx_e3 hk htk hl2]
            obtain ⟨m1, a, b⟩ := this
            exact ⟨m1, a, q3.trans b⟩
          | inr l =>
            rw [hl2] at this
            rw [sh_lx_e4 hk htk hl2]
            obtain ⟨nm3, m3, a, b, d, e⟩ := this
            rw [List.append_assoc ts] at b e
            exact ⟨nm3, m3, a, b, q3.trans d, e⟩
    · have h0 := ih k c ts nm m (by omega) hB h hC hT hts hN hc hkn
      rw [sh_lx_e0 hk] at h0 ⊢
      exact h0
