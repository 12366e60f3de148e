/-! CIRCUITS: one line, all lines -/
/-- behind k gates: wires and gates on both sides -/
def sj_G (n nw ng k L : Nat) (B : Nat → Int32) (p : Nat) (gs : sh_gL) (mc mm : sh_X) : Prop := (sj_P n B p mc mm) ∧ (sh_GS gs mc) ∧ (gs.length ≤ L + k) ∧ (mc.I 58 8 = Int32.ofNat nw) ∧ (mc.I 58 9 = Int32.ofNat ng) ∧ (mm.I 66 86 = Int32.ofNat nw) ∧ (mm.I 66 85 = Int32.ofNat ng) ∧ (mc.I 58 10 = mm.I 66 87) ∧ (∀ w, w < nw → (mm.I 123 w = 0 ∧ mc.I 59 w = -1) ∨ (mm.I 123 w = 1 ∧ ∃ x, x < gs.length ∧ mc.I 59 w = Int32.ofNat x ∧ ∀ p, sh_va p gs x = sj_cv mm.I (fun j => p (2 + j)) k w)) ∧ (∀ i, i < k → ∀ c, 118 ≤ c → c ≤ 120 → ∃ w, w < nw ∧ mm.I c i = Int32.ofNat w)
theorem sj_G.P {n nw ng k L : Nat} {B : Nat → Int32} {p : Nat} {gs : sh_gL} {mc mm : sh_X} (h : sj_G n nw ng k L B p gs mc mm) : sj_P n B p mc mm := h.1
theorem sj_G.g {n nw ng k L : Nat} {B : Nat → Int32} {p : Nat} {gs : sh_gL} {mc mm : sh_X} (h : sj_G n nw ng k L B p gs mc mm) : sh_GS gs mc := h.2.1
theorem sj_G.gl {n nw ng k L : Nat} {B : Nat → Int32} {p : Nat} {gs : sh_gL} {mc mm : sh_X} (h : sj_G n nw ng k L B p gs mc mm) : gs.length ≤ L + k := h.2.2.1
theorem sj_G.c8 {n nw ng k L : Nat} {B : Nat → Int32} {p : Nat} {gs : sh_gL} {mc mm : sh_X} (h : sj_G n nw ng k L B p gs mc mm) : mc.I 58 8 = Int32.ofNat nw := h.2.2.2.1
theorem sj_G.c9 {n nw ng k L : Nat} {B : Nat → Int32} {p : Nat} {gs : sh_gL} {mc mm : sh_X} (h : sj_G n nw ng k L B p gs mc mm) : mc.I 58 9 = Int32.ofNat ng := h.2.2.2.2.1
theorem sj_G.m86 {n nw ng k L : Nat} {B : Nat → Int32} {p : Nat} {gs : sh_gL} {mc mm : sh_X} (h : sj_G n nw ng k L B p gs mc mm) : mm.I 66 86 = Int32.ofNat nw := h.2.2.2.2.2.1
theorem sj_G.m85 {n nw ng k L : Nat} {B : Nat → Int32} {p : Nat} {gs : sh_gL} {mc mm : sh_X} (h : sj_G n nw ng k L B p gs mc mm) : mm.I 66 85 = Int32.ofNat ng := h.2.2.2.2.2.2.1
theorem sj_G.an {n nw ng k L : Nat} {B : Nat → Int32} {p : Nat} {gs : sh_gL} {mc mm : sh_X} (h : sj_G n nw ng k L B p gs mc mm) : mc.I 58 10 = mm.I 66 87 := h.2.2.2.2.2.2.2.1
theorem sj_G.wr {n nw ng k L : Nat} {B : Nat → Int32} {p : Nat} {gs : sh_gL} {mc mm : sh_X} (h : sj_G n nw ng k L B p gs mc mm) : ∀ w, w < nw → (mm.I 123 w = 0 ∧ mc.I 59 w = -1) ∨ (mm.I 123 w = 1 ∧ ∃ x, x < gs.length ∧ mc.I 59 w = Int32.ofNat x ∧ ∀ p, sh_va p gs x = sj_cv mm.I (fun j => p (2 + j)) k w) := h.2.2.2.2.2.2.2.2.1
theorem sj_G.ga {n nw ng k L : Nat} {B : Nat → Int32} {p : Nat} {gs : sh_gL} {mc mm : sh_X} (h : sj_G n nw ng k L B p gs mc mm) : ∀ i, i < k → ∀ c, 118 ≤ c → c ≤ 120 → ∃ w, w < nw ∧ mm.I c i = Int32.ofNat w := h.2.2.2.2.2.2.2.2.2
theorem sj_G.mk {n nw ng k L : Nat} {B : Nat → Int32} {p : Nat} {gs : sh_gL} {mc mm : sh_X} (P : sj_P n B p mc mm) (g : sh_GS gs mc) (gl : gs.length ≤ L + k) (c8 : mc.I 58 8 = Int32.ofNat nw) (c9 : mc.I 58 9 = Int32.ofNat ng) (m86 : mm.I 66 86 = Int32.ofNat nw) (m85 : mm.I 66 85 = Int32.ofNat ng) (an : mc.I 58 10 = mm.I 66 87) (wr : ∀ w, w < nw → (mm.I 123 w = 0 ∧ mc.I 59 w = -1) ∨ (mm.I 123 w = 1 ∧ ∃ x, x < gs.length ∧ mc.I 59 w = Int32.ofNat x ∧ ∀ p, sh_va p gs x = sj_cv mm.I (fun j => p (2 + j)) k w)) (ga : ∀ i, i < k → ∀ c, 118 ≤ c → c ≤ 120 → ∃ w, w < nw ∧ mm.I c i = Int32.ofNat w) : sj_G n nw ng k L B p gs mc mm := ⟨P, g, gl, c8, c9, m86, m85, an, wr, ga⟩
theorem sj_G.hd {n nw ng k L p : Nat} {B : Nat → Int32} {gs : sh_gL} {mc mm : sh_X} (h : sj_G n nw ng k L B p gs mc mm) (hl : gs.length < 100000) : ∀ w, w < nw → (mm.I 123 w = 0 ↔ mc.I 59 w = -1) := fun w hw => by
  rcases h.wr w hw with ⟨a, b⟩ | ⟨a, x, b, c, _⟩
  · exact ⟨fun _ => b, fun _ => a⟩
  · rw [a, c]
    refine ⟨fun q => absurd q (by decide), fun q => ?_⟩
    have := congrArg Int32.toInt q
    rw [sh_nI (by omega)] at this
    have e : (-1 : Int32).toInt = -1 := by decide
    omega
theorem sj_G.at_ {n nw ng k L p w : Nat} {B : Nat → Int32} {gs : sh_gL} {mc mm : sh_X} (h : sj_G n nw ng k L B p gs mc mm) (hw : w < nw) (hz : ¬ mm.I 123 w = 0) : ∃ x, x < gs.length ∧ mc.I 59 w = Int32.ofNat x ∧ ∀ p, sh_va p gs x = sj_cv mm.I (fun j => p (2 + j)) k w := by
  rcases h.wr w hw with ⟨a, _⟩ | ⟨_, b⟩
  · exact absurd a hz
  · exact b
/-- the gate is written on both sides -/
theorem sj_G.next {n nw ng k L p p2 z v1 v2 r : Nat} {kd dd : Int32} {B : Nat → Int32} {gs e : sh_gL} {mc mm m1 m2 : sh_X} (h : sj_G n nw ng k L B p gs mc mm) (he : e.length ≤ 1) (P2 : sj_P n B p2 m1 m2) (g2 : sh_GS (e ++ gs) m1) (hC : sj_Cl mc m1) (hM : sj_Ml mm m2) (hz : z < nw) (hw4 : nw ≤ 4000) (h1 : v1 < nw) (h2 : v2 < nw) (hr : r < (e ++ gs).length)
    (hf : ∀ p, sh_va p (e ++ gs) r = sj_cg kd (sj_cv mm.I (fun j => p (2 + j)) k v1) (sj_cv mm.I (fun j => p (2 + j)) k v2)) (c59 : m1.I 59 z = Int32.ofNat r) (c59o : ∀ w, w ≠ z → m1.I 59 w = mc.I 59 w)
    (m123 : m2.I 123 z = 1) (m123o : ∀ w, w ≠ z → m2.I 123 w = mm.I 123 w) (k117 : m2.I 117 k = kd) (k118 : m2.I 118 k = Int32.ofNat v1) (k119 : m2.I 119 k = Int32.ofNat v2) (k120 : m2.I 120 k = Int32.ofNat z) (ko : ∀ c i, 117 ≤ c → c ≤ 120 → i < k → m2.I c i = mm.I c i) (d1 : m1.I 58 10 = mc.I 58 10 + dd) (d2 : m2.I 66 87 = mm.I 66 87 + dd) : sj_G n nw ng (k + 1) L B p2 (e ++ gs) m1 m2 := by
  have cv : ∀ (v : Nat → Bool) w, sj_cv m2.I v k w = sj_cv mm.I v k w := fun v w => sj_cv_cong k (fun c i a b d => ko c i a b d) w
  have cz : ∀ (v : Nat → Bool) w, sj_cv m2.I v (k + 1) w = if w = z then sj_cg kd (sj_cv mm.I v k v1) (sj_cv mm.I v k v2) else sj_cv mm.I v k w := fun v w => by
    show (if w = (m2.I 120 k).toNatClampNeg then sj_cg (m2.I 117 k) (sj_cv m2.I v k (m2.I 118 k).toNatClampNeg) (sj_cv m2.I v k (m2.I 119 k).toNatClampNeg) else sj_cv m2.I v k w) = _
    rw [k120, k117, k118, k119, sh_nIc (by omega), sh_nIc (by omega), sh_nIc (by omega), cv, cv, cv]
  have gl := h.gl
  refine sj_G.mk P2 g2 (by rw [List.length_append]; omega) (by rw [hC.F 8 (by omega) (by omega)]; exact h.c8) (by rw [hC.F 9 (by omega) (by omega)]; exact h.c9) (by rw [hM.F 86 (by omega) (by omega) (by omega) (by omega)]; exact h.m86) (by rw [hM.F 85 (by omega) (by omega) (by omega) (by omega)]; exact h.m85) (by rw [d1, d2, h.an]) (fun w hw => ?_) (fun i hi c a b => ?_)
  · by_cases e1 : w = z
    · subst e1
      exact Or.inr ⟨m123, r, hr, c59, fun p => by rw [hf, cz, if_pos rfl]⟩
    · rw [m123o w e1, c59o w e1]
      rcases h.wr w hw with q | ⟨q1, x, q2, q3, q4⟩
      · exact Or.inl q
      · exact Or.inr ⟨q1, x, by rw [List.length_append]; omega, q3, fun p => by rw [sh_va_ext p e q2, q4, cz, if_neg e1]⟩
  · by_cases e1 : i = k
    · subst e1
      rcases (show c = 118 ∨ c = 119 ∨ c = 120 by omega) with q | q | q
      · subst q; exact ⟨v1, h1, k118⟩
      · subst q; exact ⟨v2, h2, k119⟩
      · subst q; exact ⟨z, hz, k120⟩
    · rw [ko c i (by omega) b (by omega)]
      exact h.ga i (by omega) c a b
