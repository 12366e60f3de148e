/-! what the model's methods say of words -/
/-- the words stand in the model's arrays; the bytes in the cell c -/
def sh_Wa (ts : List sh_Tok) (m : sh_X) : Prop := (∀ (i : Nat) (t : sh_Tok), ts[i]? = some t → m.I 68 i = t.1 ∧ m.I 69 i = Int32.ofNat t.2.1 ∧ m.I 70 i = Int32.ofNat t.2.2) ∧ (ts.length ≤ 4001)
theorem sh_Wa.kd {ts : List sh_Tok} {m : sh_X} (h : sh_Wa ts m) : ∀ (i : Nat) (t : sh_Tok), ts[i]? = some t → m.I 68 i = t.1 ∧ m.I 69 i = Int32.ofNat t.2.1 ∧ m.I 70 i = Int32.ofNat t.2.2 := h.1
theorem sh_Wa.l4 {ts : List sh_Tok} {m : sh_X} (h : sh_Wa ts m) : ts.length ≤ 4001 := h.2
theorem sh_Wa.mk {ts : List sh_Tok} {m : sh_X} (kd : ∀ (i : Nat) (t : sh_Tok), ts[i]? = some t → m.I 68 i = t.1 ∧ m.I 69 i = Int32.ofNat t.2.1 ∧ m.I 70 i = Int32.ofNat t.2.2) (l4 : ts.length ≤ 4001) : sh_Wa ts m := ⟨kd, l4⟩
def sh_Wb (B : Nat → Int32) (n c : Nat) (m : sh_X) : Prop := (n ≤ 4000) ∧ (∀ i, i < n → m.I c i &&& 255 = B i) ∧ (∀ i, i < n → -128 ≤ (m.I c i).toInt ∧ (m.I c i).toInt ≤ 127)
theorem sh_Wb.n4 {B : Nat → Int32} {n c : Nat} {m : sh_X} (h : sh_Wb B n c m) : n ≤ 4000 := h.1
theorem sh_Wb.eb {B : Nat → Int32} {n c : Nat} {m : sh_X} (h : sh_Wb B n c m) : ∀ i, i < n → m.I c i &&& 255 = B i := h.2.1
theorem sh_Wb.lo {B : Nat → Int32} {n c : Nat} {m : sh_X} (h : sh_Wb B n c m) : ∀ i, i < n → -128 ≤ (m.I c i).toInt ∧ (m.I c i).toInt ≤ 127 := h.2.2
theorem sh_Wb.mk {B : Nat → Int32} {n c : Nat} {m : sh_X} (n4 : n ≤ 4000) (eb : ∀ i, i < n → m.I c i &&& 255 = B i) (lo : ∀ i, i < n → -128 ≤ (m.I c i).toInt ∧ (m.I c i).toInt ≤ 127) : sh_Wb B n c m := ⟨n4, eb, lo⟩
theorem sh_Wb.raw {B : Nat → Int32} {n c i : Nat} {m : sh_X} (h : sh_Wb B n c m) (hi : i < n) (hp : sf_30 (B i) = true) : m.I c i = B i := by
  have h1 := sh_np_rng hp
  rw [← h.eb i hi] at h1 ⊢
  exact (sh_raw (h.lo i hi).1 (h.lo i hi).2 (by omega)).symm
theorem sh_len_of {α : Type} {l : List α} {i : Nat} {t : α} (h : l[i]? = some t) : i < l.length := by
  rw [List.getElem?_eq_some_iff] at h
  exact h.1
/-- isWord -/
theorem sh_256 {B : Nat → Int32} {n i j : Nat} {ts : List sh_Tok} {t : sh_Tok} {m : sh_X} (h : sh_Wa ts m) (hb : sh_Wb B n 67 m) (ht : ts[i]? = some t) (hk : t.1 = 1 → sh_Tk B n t) (hj : 0 < sh_txn j) (hj2 : sh_txn j < 1000) : sf_256 (Int32.ofNat i) j m = some (decide (t.1 = 1) && sh_eqw B t.2.1 t.2.2 (sh_txs j)) := by
  have n4 := hb.n4
  have hi : i < 4001 := by have := sh_len_of ht; have := h.l4; omega
  obtain ⟨k1, k2, k3⟩ := h.kd i t ht
  have hok : sh_okb (Int32.ofNat i) 4002 = true := (sh_okn (by omega)).mpr (by omega)
  unfold sf_256
  rw [if_pos hok, sh_nIc (by omega), k1]
  by_cases h1 : t.1 = 1
  · rw [if_pos h1, if_pos hok, if_pos hj, k3, decide_eq_true h1, Bool.true_and]
    obtain ⟨g1, g2, g3⟩ := hk h1
    obtain ⟨g4, g5, g6⟩ : t.2.2 ≤ 12 ∧ sf_28 (B t.2.1) = true ∧ ∀ i, i < t.2.2 → sf_30 (B (t.2.1 + i)) = true := by
      rcases g3 with g | g | g
      · exact g.2
      · exact absurd (h1.symm.trans g.1) (by decide)
      · rw [h1] at g; exact absurd g (by decide)
    have e1 : sh_txl j = Int32.ofNat (sh_txn j) := rfl
    by_cases hz : t.2.2 = sh_txn j
    · rw [e1, if_pos (by rw [hz])]
      unfold sf_256_27
      have hraw : ∀ k, k < t.2.2 → m.I 67 (t.2.1 + k) = B (t.2.1 + k) := fun k hk => hb.raw (by omega) (g6 k hk)
      have hcc : ∀ k, k < t.2.2 → sh_txc j (Int32.ofNat k) = Int32.ofNat ((sh_txs j).getD k 0) := by
        intro k hk
        unfold sh_txc
        rw [sh_nIc (by omega)]
      have := sh_wall (f := fun q => sf_256_27s (Int32.ofNat i) j q m) (P := fun k => B (t.2.1 + k) = Int32.ofNat ((sh_txs j).getD k 0)) (n := t.2.2) (a := false) (b := true) (fun k hk hp => by
        show sf_256_27s _ _ _ m = _
        unfold sf_256_27s
        rw [if_pos hok, sh_nIc (by omega), k3, k2, if_pos ((sh_nIlt (by omega) (by omega)).mpr hk), if_pos hok, sh_nIadd, if_pos ((sh_okn (by omega)).mpr (by omega)), if_pos ((sh_okn (by omega)).mpr (by omega)), sh_nIc (by omega), hraw k hk, hcc k hk, if_pos hp, sh_nI1]) (fun k hk hp => by
        show sf_256_27s _ _ _ m = _
        unfold sf_256_27s
        rw [if_pos hok, sh_nIc (by omega), k3, k2, if_pos ((sh_nIlt (by omega) (by omega)).mpr hk), if_pos hok, sh_nIadd, if_pos ((sh_okn (by omega)).mpr (by omega)), if_pos ((sh_okn (by omega)).mpr (by omega)), sh_nIc (by omega), hraw k hk, hcc k hk, if_neg hp]) (by
        show sf_256_27s _ _ _ m = _
        unfold sf_256_27s
        rw [if_pos hok, sh_nIc (by omega), k3, if_neg (fun q => absurd ((sh_nIlt (by omega) (by omega)).mp q) (by omega))]) 0 (by omega) (fun i hi => absurd hi (by omega))
      rcases this with ⟨a, b⟩ | ⟨a, b⟩
      · rw [show (0 : Int32) = Int32.ofNat 0 from rfl, b, sh_eqw_iff.mpr ⟨hz, a⟩]
      · rw [show (0 : Int32) = Int32.ofNat 0 from rfl, b]
        cases hq : sh_eqw B t.2.1 t.2.2 (sh_txs j) with
        | false => rfl
        | true => exact absurd (sh_eqw_iff.mp hq).2 a
    · rw [e1, if_neg (fun q => hz ((sh_nIeq (by omega) (by omega)).mp q))]
      cases hq : sh_eqw B t.2.1 t.2.2 (sh_txs j) with
      | false => rfl
      | true => exact absurd (sh_eqw_iff.mp hq).1 hz
  · rw [if_neg h1, decide_eq_false h1, Bool.false_and]
/-- a word is at most one of the reserved ones -/
theorem sh_eqw_det {B : Nat → Int32} {s z : Nat} {l r : List Nat} (h : sh_eqw B s z l = true) (g : sh_eqw B s z r = true) (hl : ∀ x, x ∈ l → x < 1000) (hr : ∀ x, x ∈ r → x < 1000) : l = r := by
  obtain ⟨a, b⟩ := sh_eqw_iff.mp h
  obtain ⟨c, d⟩ := sh_eqw_iff.mp g
  apply List.ext_getElem (by omega)
  intro i h1 h2
  have e := (b i (by omega)).symm.trans (d i (by omega))
  have e1 : l.getD i 0 = l[i] := by simp [List.getD, List.getElem?_eq_getElem h1]
  have e2 : r.getD i 0 = r[i] := by simp [List.getD, List.getElem?_eq_getElem h2]
  rw [e1, e2] at e
  exact (sh_nIeq (by have := hl l[i] (List.getElem_mem h1); omega) (by have := hr r[i] (List.getElem_mem h2); omega)).mp e
theorem sh_rsv_ge {B : Nat → Int32} {s z : Nat} : ∀ (l : List Nat) (c : Nat), c + l.length < 1000 → 2 ≤ c → (∀ x, sh_rsv B s z l c = Int32.ofNat x → x < 1000 → x = 1 ∨ (c ≤ x ∧ x < c + l.length ∧ ∃ j, l[x - c]? = some j ∧ sh_eqw B s z (sh_txs j) = true)) := by
  intro l
  induction l with
  | nil =>
    intro c _ _ x hx hx2
    exact Or.inl ((sh_nIeq (a := 1) (by omega) (by omega)).mp hx).symm
  | cons j r ih =>
    intro c hc h2 x hx hx2
    unfold sh_rsv at hx
    by_cases hq : sh_eqw B s z (sh_txs j) = true
    · rw [if_pos hq] at hx
      simp at hc
      have := (sh_nIeq (by omega) (by omega)).mp hx
      subst this
      exact Or.inr ⟨Nat.le_refl _, by simp, j, by simp, hq⟩
    · rw [if_neg hq] at hx
      simp at hc
      rcases ih (c + 1) (by omega) (by omega) x hx hx2 with h | ⟨h1, h3, j2, h4, h5⟩
      · exact Or.inl h
      · refine Or.inr ⟨by omega, by simp; omega, j2, ?_, h5⟩
        rw [show x - c = (x - (c + 1)) + 1 by omega]
        simpa using h4
theorem sh_rsv_at {B : Nat → Int32} {s z : Nat} : ∀ (l : List Nat) (c i j : Nat), l[i]? = some j → sh_eqw B s z (sh_txs j) = true → (∀ k j2, k < i → l[k]? = some j2 → ¬ sh_eqw B s z (sh_txs j2) = true) → sh_rsv B s z l c = Int32.ofNat (c + i) := by
  intro l
  induction l with
  | nil => intro c i j h; simp at h
  | cons a r ih =>
    intro c i j h hq hn
    unfold sh_rsv
    cases i with
    | zero =>
      simp at h
      subst h
      rw [if_pos hq]
      rfl
    | succ i =>
      simp at h
      rw [if_neg (hn 0 a (by omega) (by simp)), ih (c + 1) i j h hq (fun k j2 hk hj => hn (k + 1) j2 (by omega) (by simpa using hj))]
      congr 1
      omega
theorem sh_txs_small (j : Nat) : ∀ x, x ∈ sh_txs j → x < 1000 := by
  by_cases hj : j < 27
  · have : ∀ j : Fin 27, ∀ x, x ∈ sh_txs j.1 → x < 1000 := by decide
    exact this ⟨j, hj⟩
  · intro x hx
    obtain ⟨k, rfl⟩ : ∃ k, j = k + 27 := ⟨j - 27, by omega⟩
    simp [sh_txs] at hx
theorem sh_rsl_inj : ∀ i k : Fin 12, sh_txs (sh_rsl.getD i.1 0) = sh_txs (sh_rsl.getD k.1 0) → i = k := by decide
/-- reserved words: their codes -/
theorem sh_rsv_iff {B : Nat → Int32} {s z i : Nat} (hi : i < 12) : sh_rsv B s z sh_rsl 4 = Int32.ofNat (4 + i) ↔ sh_eqw B s z (sh_txs (sh_rsl.getD i 0)) = true := by
  have hget : ∀ k, k < 12 → sh_rsl[k]? = some (sh_rsl.getD k 0) := by
    intro k hk
    have : k < sh_rsl.length := hk
    simp [List.getD, List.getElem?_eq_getElem this]
  constructor
  · intro h
    rcases sh_rsv_ge sh_rsl 4 (by decide) (by omega) (4 + i) h (by omega) with q | ⟨_, _, j, q1, q2⟩
    · omega
    · rw [show 4 + i - 4 = i by omega, hget i hi] at q1
      cases q1
      exact q2
  · intro h
    exact sh_rsv_at sh_rsl 4 i _ (hget i hi) h (fun k j2 hk hj hq => by
      rw [hget k (by omega)] at hj
      cases hj
      have e := sh_eqw_det hq h (sh_txs_small _) (sh_txs_small _)
      have := sh_rsl_inj ⟨k, by omega⟩ ⟨i, hi⟩ e
      simp at this
      omega)
