/-! EVALUATION: values, slots, frames -/
/-- the value at w: what p makes of its wires is what the model has, v -/
def se_V (p : Nat → Bool) (m : sh_X) (gs : sh_gL) (u w k b n : Nat) (v : Nat → Int64) : Prop := ∃ F, sh_val m gs u w (b * sh_mx n) F ∧ ∀ i, i < sh_mx n → sh_Ft (decide (k = 2)) b (fun j => F (i * b + j) p) (v i)
theorem se_V.keep {p : Nat → Bool} {m m2 : sh_X} {e gs : sh_gL} {u u2 w k b n : Nat} {v : Nat → Int64} (h : se_V p m gs u w k b n v) (hu : u ≤ u2) (hp : ∀ j, j < u → m2.I 45 j = m.I 45 j) : se_V p m2 (e ++ gs) u2 w k b n v := by
  obtain ⟨F, h1, h2⟩ := h
  exact ⟨F, h1.keep hu hp, h2⟩
theorem se_V.cong {p : Nat → Bool} {m : sh_X} {gs : sh_gL} {u w k b n : Nat} {v v2 : Nat → Int64} (h : se_V p m gs u w k b n v) (he : ∀ i, i < sh_mx n → v i = v2 i) : se_V p m gs u w k b n v2 := by
  obtain ⟨F, h1, h2⟩ := h
  exact ⟨F, h1, fun i hi => by rw [← he i hi]; exact h2 i hi⟩
/-- a value without elements -/
theorem se_V.one {p : Nat → Bool} {m : sh_X} {gs : sh_gL} {u w k b : Nat} {v : Nat → Int64} (h : se_V p m gs u w k b 0 v) : ∃ F, sh_val m gs u w b F ∧ sh_Ft (decide (k = 2)) b (fun j => F j p) (v 0) := by
  obtain ⟨F, h1, h2⟩ := h
  have e : b * sh_mx 0 = b := Nat.mul_one b
  rw [e] at h1
  have := h2 0 (sh_mx_1 0)
  simp only [Nat.zero_mul, Nat.zero_add] at this
  exact ⟨F, h1, this⟩
theorem se_V.of1 {p : Nat → Bool} {m : sh_X} {gs : sh_gL} {u w k b : Nat} {v : Nat → Int64} {F : Nat → (Nat → Bool) → Bool} (h : sh_val m gs u w b F) (g : sh_Ft (decide (k = 2)) b (fun j => F j p) (v 0)) : se_V p m gs u w k b 0 v := by
  refine ⟨F, by rw [show b * sh_mx 0 = b from Nat.mul_one b]; exact h, fun i hi => ?_⟩
  have : i = 0 := by have e : sh_mx 0 = 1 := rfl; omega
  subst this
  simp only [Nat.zero_mul, Nat.zero_add]
  exact g
/-- a slot of the class: a loose number; a value of a type -/
def se_L (m : sh_X) (s t : Nat) (v : Int64) : Prop := m.I 49 s = 0 ∧ m.I 52 s = Int32.ofNat t ∧ m.J 51 s = v ∧ sh_lo v
def se_T (p : Nat → Bool) (m : sh_X) (gs : sh_gL) (u s k b n : Nat) (v : Nat → Int64) : Prop := sh_typ k b n ∧ m.I 49 s = Int32.ofNat (sh_te k b n) ∧ ∃ w, m.I 50 s = Int32.ofNat w ∧ se_V p m gs u w k b n v
def se_D (p : Nat → Bool) (m : sh_X) (gs : sh_gL) (u s t k b n : Nat) (v : Nat → Int64) : Prop := (k = 3 ∧ n = 0 ∧ se_L m s t (v 0)) ∨ se_T p m gs u s k b n v
/-- what an expression leaves as it was, in the class -/
def se_F (u z q fr cl : Nat) (m m2 : sh_X) : Prop := (∀ c t, c ≠ 9 → m.T[c]? = some t → m2.T[c]? = some t) ∧ (m.T.length + 3 * (131072 / sh_ln m.T (sh_rf m.T 9 0)) ≥ m2.T.length + 3 * (131072 / sh_ln m2.T (sh_rf m2.T 9 0))) ∧ (m.T.length ≤ m2.T.length) ∧ (m2.s + 6 * sh_ln m.T (sh_rf m.T 9 0) = m.s + 6 * sh_ln m2.T (sh_rf m2.T 9 0)) ∧ (∀ c, c < 125 → (c < 9 ∨ (12 < c ∧ c < 41) ∨ 57 < c) → m2.I c = m.I c) ∧ (∀ c, c ≠ 51 → c ≠ 57 → m2.J c = m.J c) ∧ (∀ j, j < u → m2.I 45 j = m.I 45 j) ∧ (∀ j, j < z → m2.I 49 j = m.I 49 j ∧ m2.I 50 j = m.I 50 j ∧ m2.I 52 j = m.I 52 j ∧ m2.J 51 j = m.J 51 j) ∧ (∀ j, j < q → m2.I 54 j = m.I 54 j ∧ m2.I 55 j = m.I 55 j ∧ m2.I 56 j = m.I 56 j ∧ m2.J 57 j = m.J 57 j) ∧ (∀ j, j < fr → m2.I 42 j = m.I 42 j) ∧ (∀ j, j < cl → m2.I 43 j = m.I 43 j)
theorem se_F.T {u z q fr cl : Nat} {m m2 : sh_X} (h : se_F u z q fr cl m m2) : ∀ c t, c ≠ 9 → m.T[c]? = some t → m2.T[c]? = some t := h.1
theorem se_F.n {u z q fr cl : Nat} {m m2 : sh_X} (h : se_F u z q fr cl m m2) : m.T.length + 3 * (131072 / sh_ln m.T (sh_rf m.T 9 0)) ≥ m2.T.length + 3 * (131072 / sh_ln m2.T (sh_rf m2.T 9 0)) := h.2.1
theorem se_F.t {u z q fr cl : Nat} {m m2 : sh_X} (h : se_F u z q fr cl m m2) : m.T.length ≤ m2.T.length := h.2.2.1
theorem se_F.s {u z q fr cl : Nat} {m m2 : sh_X} (h : se_F u z q fr cl m m2) : m2.s + 6 * sh_ln m.T (sh_rf m.T 9 0) = m.s + 6 * sh_ln m2.T (sh_rf m2.T 9 0) := h.2.2.2.1
theorem se_F.I {u z q fr cl : Nat} {m m2 : sh_X} (h : se_F u z q fr cl m m2) : ∀ c, c < 125 → (c < 9 ∨ (12 < c ∧ c < 41) ∨ 57 < c) → m2.I c = m.I c := h.2.2.2.2.1
theorem se_F.J {u z q fr cl : Nat} {m m2 : sh_X} (h : se_F u z q fr cl m m2) : ∀ c, c ≠ 51 → c ≠ 57 → m2.J c = m.J c := h.2.2.2.2.2.1
theorem se_F.po {u z q fr cl : Nat} {m m2 : sh_X} (h : se_F u z q fr cl m m2) : ∀ j, j < u → m2.I 45 j = m.I 45 j := h.2.2.2.2.2.2.1
theorem se_F.va {u z q fr cl : Nat} {m m2 : sh_X} (h : se_F u z q fr cl m m2) : ∀ j, j < z → m2.I 49 j = m.I 49 j ∧ m2.I 50 j = m.I 50 j ∧ m2.I 52 j = m.I 52 j ∧ m2.J 51 j = m.J 51 j := h.2.2.2.2.2.2.2.1
theorem se_F.na {u z q fr cl : Nat} {m m2 : sh_X} (h : se_F u z q fr cl m m2) : ∀ j, j < q → m2.I 54 j = m.I 54 j ∧ m2.I 55 j = m.I 55 j ∧ m2.I 56 j = m.I 56 j ∧ m2.J 57 j = m.J 57 j := h.2.2.2.2.2.2.2.2.1
theorem se_F.fr_ {u z q fr cl : Nat} {m m2 : sh_X} (h : se_F u z q fr cl m m2) : ∀ j, j < fr → m2.I 42 j = m.I 42 j := h.2.2.2.2.2.2.2.2.2.1
theorem se_F.cl_ {u z q fr cl : Nat} {m m2 : sh_X} (h : se_F u z q fr cl m m2) : ∀ j, j < cl → m2.I 43 j = m.I 43 j := h.2.2.2.2.2.2.2.2.2.2
theorem se_F.mk {u z q fr cl : Nat} {m m2 : sh_X} (T : ∀ c t, c ≠ 9 → m.T[c]? = some t → m2.T[c]? = some t) (n : m.T.length + 3 * (131072 / sh_ln m.T (sh_rf m.T 9 0)) ≥ m2.T.length + 3 * (131072 / sh_ln m2.T (sh_rf m2.T 9 0))) (t : m.T.length ≤ m2.T.length) (s : m2.s + 6 * sh_ln m.T (sh_rf m.T 9 0) = m.s + 6 * sh_ln m2.T (sh_rf m2.T 9 0)) (I : ∀ c, c < 125 → (c < 9 ∨ (12 < c ∧ c < 41) ∨ 57 < c) → m2.I c = m.I c) (J : ∀ c, c ≠ 51 → c ≠ 57 → m2.J c = m.J c) (po : ∀ j, j < u → m2.I 45 j = m.I 45 j) (va : ∀ j, j < z → m2.I 49 j = m.I 49 j ∧ m2.I 50 j = m.I 50 j ∧ m2.I 52 j = m.I 52 j ∧ m2.J 51 j = m.J 51 j) (na : ∀ j, j < q → m2.I 54 j = m.I 54 j ∧ m2.I 55 j = m.I 55 j ∧ m2.I 56 j = m.I 56 j ∧ m2.J 57 j = m.J 57 j) (fr_ : ∀ j, j < fr → m2.I 42 j = m.I 42 j) (cl_ : ∀ j, j < cl → m2.I 43 j = m.I 43 j) : se_F u z q fr cl m m2 := ⟨T, n, t, s, I, J, po, va, na, fr_, cl_⟩
theorem se_F.refl {u z q fr cl : Nat} (m : sh_X) : se_F u z q fr cl m m := se_F.mk (fun _ _ _ h => h) (Nat.le_refl _) (Nat.le_refl _) rfl (fun _ _ _ => rfl) (fun _ _ _ => rfl) (fun _ _ => rfl) (fun _ _ => ⟨rfl, rfl, rfl, rfl⟩) (fun _ _ => ⟨rfl, rfl, rfl, rfl⟩) (fun _ _ => rfl) (fun _ _ => rfl)
theorem se_F.trans {u z q fr cl u2 z2 q2 fr2 cl2 : Nat} {m m2 m3 : sh_X} (h : se_F u z q fr cl m m2) (g : se_F u2 z2 q2 fr2 cl2 m2 m3) (hu : u ≤ u2) (hz : z ≤ z2) (hq : q ≤ q2) (hf : fr ≤ fr2) (hc : cl ≤ cl2) : se_F u z q fr cl m m3 :=
  se_F.mk (fun c t a b => g.T c t a (h.T c t a b)) (Nat.le_trans g.n h.n) (Nat.le_trans h.t g.t) (by have := h.s; have := g.s; omega) (fun c a b => (g.I c a b).trans (h.I c a b)) (fun c a b => (g.J c a b).trans (h.J c a b)) (fun j hj => (g.po j (by omega)).trans (h.po j hj))
    (fun j hj => by have a := h.va j hj; have b := g.va j (by omega); exact ⟨b.1.trans a.1, b.2.1.trans a.2.1, b.2.2.1.trans a.2.2.1, b.2.2.2.trans a.2.2.2⟩)
    (fun j hj => by have a := h.na j hj; have b := g.na j (by omega); exact ⟨b.1.trans a.1, b.2.1.trans a.2.1, b.2.2.1.trans a.2.2.1, b.2.2.2.trans a.2.2.2⟩)
    (fun j hj => (g.fr_ j (by omega)).trans (h.fr_ j hj)) (fun j hj => (g.cl_ j (by omega)).trans (h.cl_ j hj))
theorem se_F.less {u z q fr cl u2 z2 q2 fr2 cl2 : Nat} {m m2 : sh_X} (g : se_F u2 z2 q2 fr2 cl2 m m2) (hu : u ≤ u2) (hz : z ≤ z2) (hq : q ≤ q2) (hf : fr ≤ fr2) (hc : cl ≤ cl2) : se_F u z q fr cl m m2 := (se_F.refl m).trans g hu hz hq hf hc
/-- an int is written -/
theorem se_F.wI {u z q fr cl c i : Nat} {x : Int32} {m : sh_X} (hc : 41 ≤ c ∧ c ≤ 57) (h45 : c = 45 → u ≤ i) (hz : c = 49 ∨ c = 50 ∨ c = 52 → z ≤ i) (hq : c = 54 ∨ c = 55 ∨ c = 56 → q ≤ i) (hf : c = 42 → fr ≤ i) (hl : c = 43 → cl ≤ i) : se_F u z q fr cl m (m.T, sh_u2 m.I c i x, m.J, m.s) := by
  have k : ∀ d j, (d = c → j ≠ i) → sh_u2 m.I c i x d j = m.I d j := by
    intro d j h
    by_cases e : d = c
    · subst e; exact sh_u2_idx (h rfl)
    · rw [sh_u2_cell e]
  refine se_F.mk (fun _ _ _ h => h) (Nat.le_refl _) (Nat.le_refl _) rfl (fun d _ h => sh_u2_cell (by omega)) (fun _ _ _ => rfl) (fun j hj => k 45 j (by omega)) (fun j hj => ⟨k 49 j (by omega), k 50 j (by omega), k 52 j (by omega), rfl⟩) (fun j hj => ⟨k 54 j (by omega), k 55 j (by omega), k 56 j (by omega), rfl⟩) (fun j hj => k 42 j (by omega)) (fun j hj => k 43 j (by omega))
theorem se_F.wJ {u z q fr cl c i : Nat} {x : Int64} {m : sh_X} (hc : c = 51 ∧ z ≤ i ∨ c = 57 ∧ q ≤ i) : se_F u z q fr cl m (m.T, m.I, sh_u2 m.J c i x, m.s) := by
  have k : ∀ d j, (d = c → j ≠ i) → sh_u2 m.J c i x d j = m.J d j := by
    intro d j h
    by_cases e : d = c
    · subst e; exact sh_u2_idx (h rfl)
    · rw [sh_u2_cell e]
  exact se_F.mk (fun _ _ _ h => h) (Nat.le_refl _) (Nat.le_refl _) rfl (fun d _ h => rfl) (fun d h1 h2 => sh_u2_cell (by omega)) (fun j hj => rfl) (fun j hj => ⟨rfl, rfl, rfl, k 51 j (by omega)⟩) (fun j hj => ⟨rfl, rfl, rfl, k 57 j (by omega)⟩) (fun j hj => rfl) (fun j hj => rfl)
theorem se_F.R {u z q fr cl : Nat} {m m2 : sh_X} (h : sh_Rf m m2) (hp : ∀ j, j < u → m2.I 45 j = m.I 45 j) : se_F u z q fr cl m m2 := by
  have k : ∀ c, 41 ≤ c → c ≤ 57 → c ≠ 44 → c ≠ 45 → c ≠ 46 → c ≠ 47 → m2.I c = m.I c := fun c a b d e f g => h.I c (by omega) (by omega) (by omega) (by omega) (by omega) d e f g
  exact se_F.mk h.T h.n h.t h.s (fun c a b => h.I c a (by omega) (by omega) (by omega) (by omega) (by omega) (by omega) (by omega) (by omega)) (fun c _ _ => by rw [h.J]) hp
    (fun j _ => ⟨by rw [k 49 (by omega) (by omega) (by omega) (by omega) (by omega) (by omega)], by rw [k 50 (by omega) (by omega) (by omega) (by omega) (by omega) (by omega)], by rw [k 52 (by omega) (by omega) (by omega) (by omega) (by omega) (by omega)], by rw [h.J]⟩)
    (fun j _ => ⟨by rw [k 54 (by omega) (by omega) (by omega) (by omega) (by omega) (by omega)], by rw [k 55 (by omega) (by omega) (by omega) (by omega) (by omega) (by omega)], by rw [k 56 (by omega) (by omega) (by omega) (by omega) (by omega) (by omega)], by rw [h.J]⟩)
    (fun j _ => by rw [k 42 (by omega) (by omega) (by omega) (by omega) (by omega) (by omega)]) (fun j _ => by rw [k 43 (by omega) (by omega) (by omega) (by omega) (by omega) (by omega)])
theorem se_L.keep {m m2 : sh_X} {s t z u q fr cl : Nat} {v : Int64} (h : se_L m s t v) (f : se_F u z q fr cl m m2) (hs : s < z) : se_L m2 s t v := by
  have a := f.va s hs
  exact ⟨a.1.trans h.1, a.2.2.1.trans h.2.1, a.2.2.2.trans h.2.2.1, h.2.2.2⟩
theorem se_T.keep {p : Nat → Bool} {m m2 : sh_X} {e gs : sh_gL} {s k b n z u u2 q fr cl : Nat} {v : Nat → Int64} (h : se_T p m gs u s k b n v) (f : se_F u z q fr cl m m2) (hs : s < z) (hu : u ≤ u2) : se_T p m2 (e ++ gs) u2 s k b n v := by
  have a := f.va s hs
  obtain ⟨h1, h2, w, h3, h4⟩ := h
  exact ⟨h1, a.1.trans h2, w, a.2.1.trans h3, h4.keep hu f.po⟩
theorem se_D.keep {p : Nat → Bool} {m m2 : sh_X} {e gs : sh_gL} {s t k b n z u u2 q fr cl : Nat} {v : Nat → Int64} (h : se_D p m gs u s t k b n v) (f : se_F u z q fr cl m m2) (hs : s < z) (hu : u ≤ u2) : se_D p m2 (e ++ gs) u2 s t k b n v := by
  rcases h with ⟨h1, h2, h3⟩ | h
  · exact Or.inl ⟨h1, h2, h3.keep f hs⟩
  · exact Or.inr (h.keep f hs hu)
/-- what an expression leaves as it was, in the model -/
def se_G (tp q un li : Nat) (m m2 : sh_X) : Prop := (m2.T = m.T) ∧ (m2.s = m.s) ∧ (∀ x, x ≠ 66 → (x < 93 ∨ (97 < x ∧ x < 105) ∨ x = 111 ∨ x = 115 ∨ 116 < x) → m2.I x = m.I x) ∧ (∀ x, x ≠ 66 → x ≠ 92 → x ≠ 98 → x ≠ 111 → x ≠ 115 → m2.J x = m.J x) ∧ (∀ f, f < 41 ∨ (45 < f ∧ f ≠ 73) → m2.I 66 f = m.I 66 f) ∧ (∀ j, j < tp → m2.J 92 j = m.J 92 j) ∧ (∀ j, j < q → m2.I 93 j = m.I 93 j ∧ m2.I 94 j = m.I 94 j ∧ m2.I 95 j = m.I 95 j ∧ m2.I 96 j = m.I 96 j ∧ m2.I 97 j = m.I 97 j ∧ m2.J 98 j = m.J 98 j) ∧ (∀ j, j < un → m2.I 105 j = m.I 105 j ∧ m2.I 106 j = m.I 106 j ∧ m2.I 107 j = m.I 107 j ∧ m2.I 108 j = m.I 108 j ∧ m2.I 109 j = m.I 109 j ∧ m2.I 110 j = m.I 110 j ∧ m2.J 111 j = m.J 111 j) ∧ (∀ j, j < li → m2.I 112 j = m.I 112 j ∧ m2.I 113 j = m.I 113 j ∧ m2.I 114 j = m.I 114 j ∧ m2.I 116 j = m.I 116 j ∧ m2.J 115 j = m.J 115 j)
theorem se_G.T {tp q un li : Nat} {m m2 : sh_X} (h : se_G tp q un li m m2) : m2.T = m.T := h.1
theorem se_G.s {tp q un li : Nat} {m m2 : sh_X} (h : se_G tp q un li m m2) : m2.s = m.s := h.2.1
theorem se_G.I {tp q un li : Nat} {m m2 : sh_X} (h : se_G tp q un li m m2) : ∀ x, x ≠ 66 → (x < 93 ∨ (97 < x ∧ x < 105) ∨ x = 111 ∨ x = 115 ∨ 116 < x) → m2.I x = m.I x := h.2.2.1
theorem se_G.J {tp q un li : Nat} {m m2 : sh_X} (h : se_G tp q un li m m2) : ∀ x, x ≠ 66 → x ≠ 92 → x ≠ 98 → x ≠ 111 → x ≠ 115 → m2.J x = m.J x := h.2.2.2.1
theorem se_G.F {tp q un li : Nat} {m m2 : sh_X} (h : se_G tp q un li m m2) : ∀ f, f < 41 ∨ (45 < f ∧ f ≠ 73) → m2.I 66 f = m.I 66 f := h.2.2.2.2.1
theorem se_G.me {tp q un li : Nat} {m m2 : sh_X} (h : se_G tp q un li m m2) : ∀ j, j < tp → m2.J 92 j = m.J 92 j := h.2.2.2.2.2.1
theorem se_G.na {tp q un li : Nat} {m m2 : sh_X} (h : se_G tp q un li m m2) : ∀ j, j < q → m2.I 93 j = m.I 93 j ∧ m2.I 94 j = m.I 94 j ∧ m2.I 95 j = m.I 95 j ∧ m2.I 96 j = m.I 96 j ∧ m2.I 97 j = m.I 97 j ∧ m2.J 98 j = m.J 98 j := h.2.2.2.2.2.2.1
theorem se_G.ws {tp q un li : Nat} {m m2 : sh_X} (h : se_G tp q un li m m2) : ∀ j, j < un → m2.I 105 j = m.I 105 j ∧ m2.I 106 j = m.I 106 j ∧ m2.I 107 j = m.I 107 j ∧ m2.I 108 j = m.I 108 j ∧ m2.I 109 j = m.I 109 j ∧ m2.I 110 j = m.I 110 j ∧ m2.J 111 j = m.J 111 j := h.2.2.2.2.2.2.2.1
theorem se_G.ls {tp q un li : Nat} {m m2 : sh_X} (h : se_G tp q un li m m2) : ∀ j, j < li → m2.I 112 j = m.I 112 j ∧ m2.I 113 j = m.I 113 j ∧ m2.I 114 j = m.I 114 j ∧ m2.I 116 j = m.I 116 j ∧ m2.J 115 j = m.J 115 j := h.2.2.2.2.2.2.2.2
theorem se_G.mk {tp q un li : Nat} {m m2 : sh_X} (T : m2.T = m.T) (s : m2.s = m.s) (I : ∀ x, x ≠ 66 → (x < 93 ∨ (97 < x ∧ x < 105) ∨ x = 111 ∨ x = 115 ∨ 116 < x) → m2.I x = m.I x) (J : ∀ x, x ≠ 66 → x ≠ 92 → x ≠ 98 → x ≠ 111 → x ≠ 115 → m2.J x = m.J x) (F : ∀ f, f < 41 ∨ (45 < f ∧ f ≠ 73) → m2.I 66 f = m.I 66 f) (me : ∀ j, j < tp → m2.J 92 j = m.J 92 j) (na : ∀ j, j < q → m2.I 93 j = m.I 93 j ∧ m2.I 94 j = m.I 94 j ∧ m2.I 95 j = m.I 95 j ∧ m2.I 96 j = m.I 96 j ∧ m2.I 97 j = m.I 97 j ∧ m2.J 98 j = m.J 98 j) (ws : ∀ j, j < un → m2.I 105 j = m.I 105 j ∧ m2.I 106 j = m.I 106 j ∧ m2.I 107 j = m.I 107 j ∧ m2.I 108 j = m.I 108 j ∧ m2.I 109 j = m.I 109 j ∧ m2.I 110 j = m.I 110 j ∧ m2.J 111 j = m.J 111 j) (ls : ∀ j, j < li → m2.I 112 j = m.I 112 j ∧ m2.I 113 j = m.I 113 j ∧ m2.I 114 j = m.I 114 j ∧ m2.I 116 j = m.I 116 j ∧ m2.J 115 j = m.J 115 j) : se_G tp q un li m m2 := ⟨T, s, I, J, F, me, na, ws, ls⟩
theorem se_G.refl {tp q un li : Nat} (m : sh_X) : se_G tp q un li m m := se_G.mk rfl rfl (fun _ _ _ => rfl) (fun _ _ _ _ _ _ => rfl) (fun _ _ => rfl) (fun _ _ => rfl) (fun _ _ => ⟨rfl, rfl, rfl, rfl, rfl, rfl⟩) (fun _ _ => ⟨rfl, rfl, rfl, rfl, rfl, rfl, rfl⟩) (fun _ _ => ⟨rfl, rfl, rfl, rfl, rfl⟩)
theorem se_G.trans {tp q un li tp2 q2 un2 li2 : Nat} {m m2 m3 : sh_X} (h : se_G tp q un li m m2) (g : se_G tp2 q2 un2 li2 m2 m3) (ht : tp ≤ tp2) (hq : q ≤ q2) (hu : un ≤ un2) (hl : li ≤ li2) : se_G tp q un li m m3 :=
  se_G.mk (g.T.trans h.T) (g.s.trans h.s) (fun x a b => (g.I x a b).trans (h.I x a b)) (fun x a b c d e => (g.J x a b c d e).trans (h.J x a b c d e)) (fun f a => (g.F f a).trans (h.F f a)) (fun j hj => (g.me j (by omega)).trans (h.me j hj))
    (fun j hj => by have a := h.na j hj; have b := g.na j (by omega); exact ⟨b.1.trans a.1, b.2.1.trans a.2.1, b.2.2.1.trans a.2.2.1, b.2.2.2.1.trans a.2.2.2.1, b.2.2.2.2.1.trans a.2.2.2.2.1, b.2.2.2.2.2.trans a.2.2.2.2.2⟩)
    (fun j hj => by have a := h.ws j hj; have b := g.ws j (by omega); exact ⟨b.1.trans a.1, b.2.1.trans a.2.1, b.2.2.1.trans a.2.2.1, b.2.2.2.1.trans a.2.2.2.1, b.2.2.2.2.1.trans a.2.2.2.2.1, b.2.2.2.2.2.1.trans a.2.2.2.2.2.1, b.2.2.2.2.2.2.trans a.2.2.2.2.2.2⟩)
    (fun j hj => by have a := h.ls j hj; have b := g.ls j (by omega); exact ⟨b.1.trans a.1, b.2.1.trans a.2.1, b.2.2.1.trans a.2.2.1, b.2.2.2.1.trans a.2.2.2.1, b.2.2.2.2.trans a.2.2.2.2⟩)
theorem se_G.less {tp q un li tp2 q2 un2 li2 : Nat} {m m2 : sh_X} (g : se_G tp2 q2 un2 li2 m m2) (ht : tp ≤ tp2) (hq : q ≤ q2) (hu : un ≤ un2) (hl : li ≤ li2) : se_G tp q un li m m2 := (se_G.refl m).trans g ht hq hu hl
theorem se_G.wI {tp q un li c i : Nat} {x : Int32} {m : sh_X} (hc : (c = 66 ∧ (41 ≤ i ∧ i ≤ 45 ∨ i = 73)) ∨ (93 ≤ c ∧ c ≤ 97 ∧ q ≤ i) ∨ (105 ≤ c ∧ c ≤ 110 ∧ un ≤ i) ∨ ((c = 112 ∨ c = 113 ∨ c = 114 ∨ c = 116) ∧ li ≤ i)) : se_G tp q un li m (m.T, sh_u2 m.I c i x, m.J, m.s) := by
  have k : ∀ d j, (d = c → j ≠ i) → sh_u2 m.I c i x d j = m.I d j := by
    intro d j h
    by_cases e : d = c
    · subst e; exact sh_u2_idx (h rfl)
    · rw [sh_u2_cell e]
  exact se_G.mk rfl rfl (fun d a b => sh_u2_cell (by omega)) (fun _ _ _ _ _ _ => rfl) (fun f a => k 66 f (by omega)) (fun _ _ => rfl) (fun j hj => ⟨k 93 j (by omega), k 94 j (by omega), k 95 j (by omega), k 96 j (by omega), k 97 j (by omega), rfl⟩) (fun j hj => ⟨k 105 j (by omega), k 106 j (by omega), k 107 j (by omega), k 108 j (by omega), k 109 j (by omega), k 110 j (by omega), rfl⟩) (fun j hj => ⟨k 112 j (by omega), k 113 j (by omega), k 114 j (by omega), k 116 j (by omega), rfl⟩)
theorem se_G.wJ {tp q un li c i : Nat} {x : Int64} {m : sh_X} (hc : c = 66 ∨ (c = 92 ∧ tp ≤ i) ∨ (c = 98 ∧ q ≤ i) ∨ (c = 111 ∧ un ≤ i) ∨ (c = 115 ∧ li ≤ i)) : se_G tp q un li m (m.T, m.I, sh_u2 m.J c i x, m.s) := by
  have k : ∀ d j, (d = c → j ≠ i) → sh_u2 m.J c i x d j = m.J d j := by
    intro d j h
    by_cases e : d = c
    · subst e; exact sh_u2_idx (h rfl)
    · rw [sh_u2_cell e]
  exact se_G.mk rfl rfl (fun _ _ _ => rfl) (fun d a b c' e f => sh_u2_cell (by omega)) (fun _ _ => rfl) (fun j hj => k 92 j (by omega)) (fun j hj => ⟨rfl, rfl, rfl, rfl, rfl, k 98 j (by omega)⟩) (fun j hj => ⟨rfl, rfl, rfl, rfl, rfl, rfl, k 111 j (by omega)⟩) (fun j hj => ⟨rfl, rfl, rfl, rfl, k 115 j (by omega)⟩)
theorem se_G.R {tp q un li : Nat} {m m2 : sh_X} (h : sh_Rr m m2) : se_G tp q un li m m2 :=
  se_G.mk h.T h.s (fun x a _ => h.I x a) (fun x a _ _ _ _ => h.J x a) (fun f a => h.F f (by omega) (by omega) (by omega) (by omega)) (fun j _ => by rw [h.J 92 (by omega)]) (fun j _ => by rw [h.I 93 (by omega), h.I 94 (by omega), h.I 95 (by omega), h.I 96 (by omega), h.I 97 (by omega), h.J 98 (by omega)]; exact ⟨rfl, rfl, rfl, rfl, rfl, rfl⟩) (fun j _ => by rw [h.I 105 (by omega), h.I 106 (by omega), h.I 107 (by omega), h.I 108 (by omega), h.I 109 (by omega), h.I 110 (by omega), h.J 111 (by omega)]; exact ⟨rfl, rfl, rfl, rfl, rfl, rfl, rfl⟩) (fun j _ => by rw [h.I 112 (by omega), h.I 113 (by omega), h.I 114 (by omega), h.I 116 (by omega), h.J 115 (by omega)]; exact ⟨rfl, rfl, rfl, rfl, rfl⟩)
