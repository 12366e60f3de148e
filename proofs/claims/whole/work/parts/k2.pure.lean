/-! CIRCUITS: a gate's line -/
/-- the worth of a gate; of the wires behind k gates -/
def sj_cg (k : Int32) (x y : Bool) : Bool := if k = 0 then Bool.xor x y else if k = 1 then (x && y) else if k = 2 then !x else x
def sj_cv (A : Nat → Nat → Int32) (v : Nat → Bool) : Nat → Nat → Bool
  | 0, w => v w
  | k + 1, w => if w = (A 120 k).toNatClampNeg then sj_cg (A 117 k) (sj_cv A v k (A 118 k).toNatClampNeg) (sj_cv A v k (A 119 k).toNatClampNeg) else sj_cv A v k w
theorem sj_cv_cong {A A2 : Nat → Nat → Int32} {v : Nat → Bool} : ∀ k, (∀ c i, 117 ≤ c → c ≤ 120 → i < k → A2 c i = A c i) → ∀ w, sj_cv A2 v k w = sj_cv A v k w
  | 0, _, _ => rfl
  | k + 1, h, w => by
    show (if w = (A2 120 k).toNatClampNeg then sj_cg (A2 117 k) (sj_cv A2 v k (A2 118 k).toNatClampNeg) (sj_cv A2 v k (A2 119 k).toNatClampNeg) else sj_cv A2 v k w) = (if w = (A 120 k).toNatClampNeg then sj_cg (A 117 k) (sj_cv A v k (A 118 k).toNatClampNeg) (sj_cv A v k (A 119 k).toNatClampNeg) else sj_cv A v k w)
    have ih := sj_cv_cong (v := v) k (fun c i a b d => h c i a b (by omega))
    rw [h 120 k (by omega) (by omega) (by omega), h 117 k (by omega) (by omega) (by omega), h 118 k (by omega) (by omega) (by omega), h 119 k (by omega) (by omega) (by omega), ih, ih, ih]
/-- a wire that is read -/
theorem sj_win {n p nw : Nat} {B : Nat → Int32} {mc mm : sh_X} (h : sj_P n B p mc mm) (hw0 : 1 ≤ nw) (hw4 : nw ≤ 4000) (hc : mc.I 58 8 = Int32.ofNat nw) (hm : mm.I 66 86 = Int32.ofNat nw) (hd : ∀ w, w < nw → (mm.I 123 w = 0 ↔ mc.I 59 w = -1)) :
    sj_bd (sf_209 mc) (sf_330 mm) mc mm ∨
    ∃ v p2 m1 m2, sf_209 mc = some (some (mc.I 59 v), m1) ∧ sf_330 mm = some (true, m2) ∧ v < nw ∧ ¬ mm.I 123 v = 0 ∧ sj_P n B p2 m1 m2 ∧ sj_Cf mc m1 ∧ sj_Mf mm m2 ∧ m2.I 66 92 = Int32.ofNat v := by
  have pn := h.pn
  have n4 := h.n4
  have s1 : mc.I 58 8 - 1 = Int32.ofNat (nw - 1) := by rw [hc]; exact sh_nIs (b := 1) hw0
  have s2 : mm.I 66 86 - 1 = Int32.ofNat (nw - 1) := by rw [hm]; exact sh_nIs (b := 1) hw0
  unfold sf_209 sf_330
  rw [s1, s2]
  rcases sj_num (lo := 0) (hi := nw - 1) h (by omega) (by omega) with ⟨q, m1, m2, e1, e2, f1, f2⟩ | ⟨v, p2, m1, m2, e1, e2, l1, l2, P2, f1, f2, v92, v93⟩
  · refine Or.inl ⟨q, m1, m2, ?_, ?_, f1, f2⟩
    · rw [show sf_201 0 (Int32.ofNat (nw - 1)) mc = _ from e1]; rfl
    · rw [show sf_326 0 (Int32.ofNat (nw - 1)) mm = _ from e2]; rfl
  · have c59 : m1.I 59 = mc.I 59 := f1.I 59 (by omega)
    have m123 : m2.I 123 = mm.I 123 := f2.I 123 (by omega)
    have o : sh_okb (Int32.ofNat v) 4000 = true := sh_okn' (by omega) (by omega)
    rw [show sf_201 0 (Int32.ofNat (nw - 1)) mc = _ from e1, show sf_326 0 (Int32.ofNat (nw - 1)) mm = _ from e2, sh_bn_some, if_pos rfl, v92, if_pos o, sh_nIc (by omega), m123]
    show sj_bd (if Int32.ofNat v < 4000 then (if sh_okb (Int32.ofNat v) 4000 = true then (if m1.I 59 (Int32.toNatClampNeg (Int32.ofNat v)) = -1 then sf_209_34 (mc.I 58 7) (Int32.ofNat v) m1 else sf_209_39 (Int32.ofNat v) m1) else none) else sf_209_34 (mc.I 58 7) (Int32.ofNat v) m1) _ _ _ ∨ ∃ _ _ _ _, (if Int32.ofNat v < 4000 then (if sh_okb (Int32.ofNat v) 4000 = true then (if m1.I 59 (Int32.toNatClampNeg (Int32.ofNat v)) = -1 then sf_209_34 (mc.I 58 7) (Int32.ofNat v) m1 else sf_209_39 (Int32.ofNat v) m1) else none) else sf_209_34 (mc.I 58 7) (Int32.ofNat v) m1) = _ ∧ _
    rw [if_pos (show Int32.ofNat v < 4000 from (sh_nIlt (b := 4000) (by omega) (by omega)).mpr (by omega)), if_pos o, sh_nIc (by omega), c59]
    by_cases hz : mm.I 123 v = 0
    · rw [if_pos hz, if_pos ((hd v (by omega)).mp hz)]
      refine Or.inl ⟨p, m1, m2, ?_, ?_, f1, f2⟩
      · unfold sf_209_34
        rw [h.c.at_, sj_203 (by have := P2.tl; omega)]
        rfl
      · rw [v93]; rfl
    · rw [if_neg hz, if_neg (fun q => hz ((hd v (by omega)).mpr q))]
      rcases sj_chr (x := 32) P2 (by omega) with ⟨q, m3, m4, g1, g2, g3, g4⟩ | ⟨m3, m4, g1, g2, P3, g3, g4, g5, g6⟩
      · refine Or.inl ⟨q, m3, m4, ?_, ?_, f1.trans g3, f2.trans g4⟩
        · unfold sf_209_39
          rw [show sf_204 32 m1 = _ from g1]; rfl
        · rw [show sf_327 32 m2 = _ from g2]; rfl
      · refine Or.inr ⟨v, p2 + 1, m3, m4, ?_, ?_, by omega, hz, P3, f1.trans g3, f2.trans g4, g5.trans v92⟩
        · unfold sf_209_39
          rw [show sf_204 32 m1 = _ from g1]
          show (if sh_okb (Int32.ofNat v) 4000 = true then some (some (m3.I 59 (Int32.toNatClampNeg (Int32.ofNat v))), m3) else none) = _
          rw [if_pos o, sh_nIc (by omega), g3.I 59 (by omega), c59]
        · rw [show sf_327 32 m2 = _ from g2]; rfl
/-- a wire that is written -/
theorem sj_wout {n p nw : Nat} {B : Nat → Int32} {mc mm : sh_X} (F : sh_X → Option (Bool × sh_X)) (h : sj_P n B p mc mm) (hw0 : 1 ≤ nw) (hw4 : nw ≤ 4000) (hc : mc.I 58 8 = Int32.ofNat nw) (hm : mm.I 66 86 = Int32.ofNat nw) (hd : ∀ w, w < nw → (mm.I 123 w = 0 ↔ mc.I 59 w = -1)) (E : Option (Bool × sh_X))
    (hE : E = (sh_bn (sf_326 0 ((mm.I 66 86) - 1) mm) fun r1 m11 => if r1 = true then (if sh_okb (m11.I 66 92) 4000 = true then (if (m11.I 123 (Int32.toNatClampNeg (m11.I 66 92))) = 0 then (sh_bn (sf_327 32 m11) fun r2 m12 => if r2 = true then F m12 else some ((false, m12))) else (sh_bn (sf_252 2 (m11.I 66 93) m11) fun r5 m15 => some ((r5, m15)))) else none) else some ((false, m11)))) :
    sj_bd (sf_210 mc) E mc mm ∨
    ∃ v p2 m1 m2, sf_210 mc = some (some (Int32.ofNat v), m1) ∧ E = F m2 ∧ v < nw ∧ mm.I 123 v = 0 ∧ sj_P n B p2 m1 m2 ∧ sj_Cf mc m1 ∧ sj_Mf mm m2 ∧ m2.I 66 92 = Int32.ofNat v := by
  have pn := h.pn
  have n4 := h.n4
  have s1 : mc.I 58 8 - 1 = Int32.ofNat (nw - 1) := by rw [hc]; exact sh_nIs (b := 1) hw0
  have s2 : mm.I 66 86 - 1 = Int32.ofNat (nw - 1) := by rw [hm]; exact sh_nIs (b := 1) hw0
  unfold sf_210
  rw [s1]
  rw [s2] at hE
  rcases sj_num (lo := 0) (hi := nw - 1) h (by omega) (by omega) with ⟨q, m1, m2, e1, e2, f1, f2⟩ | ⟨v, p2, m1, m2, e1, e2, l1, l2, P2, f1, f2, v92, v93⟩
  · refine Or.inl ⟨q, m1, m2, ?_, ?_, f1, f2⟩
    · rw [show sf_201 0 (Int32.ofNat (nw - 1)) mc = _ from e1]; rfl
    · rw [hE, show sf_326 0 (Int32.ofNat (nw - 1)) mm = _ from e2]; rfl
  · have c59 : m1.I 59 = mc.I 59 := f1.I 59 (by omega)
    have m123 : m2.I 123 = mm.I 123 := f2.I 123 (by omega)
    have o : sh_okb (Int32.ofNat v) 4000 = true := sh_okn' (by omega) (by omega)
    rw [show sf_326 0 (Int32.ofNat (nw - 1)) mm = _ from e2, sh_bn_some, if_pos rfl, v92, if_pos o, sh_nIc (by omega), m123] at hE
    rw [show sf_201 0 (Int32.ofNat (nw - 1)) mc = _ from e1]
    show sj_bd (if Int32.ofNat v < 4000 then (if sh_okb (Int32.ofNat v) 4000 = true then (if m1.I 59 (Int32.toNatClampNeg (Int32.ofNat v)) = -1 then sf_210_39 (Int32.ofNat v) m1 else sf_210_34 (mc.I 58 7) (Int32.ofNat v) m1) else none) else sf_210_34 (mc.I 58 7) (Int32.ofNat v) m1) _ _ _ ∨ ∃ _ _ _ _, (if Int32.ofNat v < 4000 then (if sh_okb (Int32.ofNat v) 4000 = true then (if m1.I 59 (Int32.toNatClampNeg (Int32.ofNat v)) = -1 then sf_210_39 (Int32.ofNat v) m1 else sf_210_34 (mc.I 58 7) (Int32.ofNat v) m1) else none) else sf_210_34 (mc.I 58 7) (Int32.ofNat v) m1) = _ ∧ _
    rw [if_pos (show Int32.ofNat v < 4000 from (sh_nIlt (b := 4000) (by omega) (by omega)).mpr (by omega)), if_pos o, sh_nIc (by omega), c59]
    by_cases hz : mm.I 123 v = 0
    · rw [if_pos hz] at hE
      rw [if_pos ((hd v (by omega)).mp hz)]
      rcases sj_chr (x := 32) P2 (by omega) with ⟨q, m3, m4, g1, g2, g3, g4⟩ | ⟨m3, m4, g1, g2, P3, g3, g4, g5, g6⟩
      · refine Or.inl ⟨q, m3, m4, ?_, ?_, f1.trans g3, f2.trans g4⟩
        · unfold sf_210_39
          rw [show sf_204 32 m1 = _ from g1]; rfl
        · rw [hE, show sf_327 32 m2 = _ from g2]; rfl
      · refine Or.inr ⟨v, p2 + 1, m3, m4, ?_, ?_, by omega, hz, P3, f1.trans g3, f2.trans g4, g5.trans v92⟩
        · unfold sf_210_39
          rw [show sf_204 32 m1 = _ from g1]
          rfl
        · rw [hE, show sf_327 32 m2 = _ from g2, sh_bn_some, if_pos rfl]
    · rw [if_neg hz] at hE
      rw [if_neg (fun q => hz ((hd v (by omega)).mpr q))]
      refine Or.inl ⟨p, m1, m2, ?_, ?_, f1, f2⟩
      · unfold sf_210_34
        rw [h.c.at_, sj_203 (by have := P2.tl; omega)]
        rfl
      · rw [hE, v93]; rfl
/-- one letter of a text -/
theorem sj_211s {x i : Nat} {m : sh_X} (hi : i < (sh_txs x).length) (hl : (sh_txs x).length < 100) : sf_211_2 x (Int32.ofNat i) m = sh_bt (sf_204 (Int32.ofNat ((sh_txs x).getD i 0)) m) (fun m => (none, m)) fun _ m2 => sf_211_2 x (Int32.ofNat (i + 1)) m2 := by
  have n0 : 0 < sh_txn x := by unfold sh_txn; omega
  have hc : sh_txc x (Int32.ofNat i) = Int32.ofNat ((sh_txs x).getD i 0) := by unfold sh_txc; rw [sh_nIc (by omega)]
  have hs : sf_211_2s x (Int32.ofNat i) m = sh_bt (sf_204 (Int32.ofNat ((sh_txs x).getD i 0)) m) (fun m => .inr ((none, m))) fun _ m11 => some (.inl (Int32.ofNat (i + 1), m11)) := by
    unfold sf_211_2s
    rw [if_pos n0, if_pos (show Int32.ofNat i < sh_txl x from (sh_nIlt (by omega) (by unfold sh_txn; omega)).mpr hi), if_pos (show sh_okb (Int32.ofNat i) (sh_txn x) = true from sh_okn' hi (by unfold sh_txn; omega)), hc, sh_nI1]
  show sh_while (fun q => sf_211_2s x q.1 q.2) (Int32.ofNat i, m) = _
  cases hq : sf_204 (Int32.ofNat ((sh_txs x).getD i 0)) m with
  | none => exact sh_wnone (by show sf_211_2s x (Int32.ofNat i) m = none; rw [hs, hq]; rfl)
  | some r =>
    obtain ⟨r1, r2⟩ := r
    cases r1 with
    | none => exact sh_wend (by show sf_211_2s x (Int32.ofNat i) m = _; rw [hs, hq]; rfl)
    | some u => exact sh_wstep (by show sf_211_2s x (Int32.ofNat i) m = _; rw [hs, hq]; rfl)
theorem sj_211e {x : Nat} {m : sh_X} (h0 : 0 < (sh_txs x).length) : sf_211_2 x (Int32.ofNat (sh_txs x).length) m = some (some (), m) := by
  refine sh_wend ?_
  show sf_211_2s x (Int32.ofNat (sh_txs x).length) m = _
  unfold sf_211_2s
  rw [if_pos (show 0 < sh_txn x from h0), if_neg (show ¬ Int32.ofNat (sh_txs x).length < sh_txl x from sh_nlt0 _)]
theorem sj_328s {x i : Nat} {m : sh_X} (hi : i < (sh_txs x).length) (hl : (sh_txs x).length < 100) : sf_328_2 x (Int32.ofNat i) m = sh_bn (sf_327 (Int32.ofNat ((sh_txs x).getD i 0)) m) fun r m2 => if r = true then sf_328_2 x (Int32.ofNat (i + 1)) m2 else some (false, m2) := by
  have n0 : 0 < sh_txn x := by unfold sh_txn; omega
  have hc : sh_txc x (Int32.ofNat i) = Int32.ofNat ((sh_txs x).getD i 0) := by unfold sh_txc; rw [sh_nIc (by omega)]
  have hs : sf_328_2s x (Int32.ofNat i) m = sh_bc (sf_249 (m.I 66 91) m) fun r1 => if r1 = Int32.ofNat ((sh_txs x).getD i 0) then some (.inl (Int32.ofNat (i + 1), ⟨m.T, sh_u2 m.I 66 91 ((m.I 66 91) + 1), m.J, m.s⟩)) else some (.inr (false, sh_mft 2 (m.I 66 91) m)) := by
    unfold sf_328_2s
    rw [if_pos n0, if_pos (show Int32.ofNat i < sh_txl x from (sh_nIlt (by omega) (by unfold sh_txn; omega)).mpr hi), hc, sh_nI1, sj_252]
    simp only [if_pos (show sh_okb (Int32.ofNat i) (sh_txn x) = true from sh_okn' hi (by unfold sh_txn; omega))]
    rfl
  show sh_while (fun q => sf_328_2s x q.1 q.2) (Int32.ofNat i, m) = _
  unfold sf_327
  cases hq : sf_249 (m.I 66 91) m with
  | none => exact sh_wnone (by show sf_328_2s x (Int32.ofNat i) m = none; rw [hs, hq]; rfl)
  | some r =>
    rw [hq, sh_bc_some] at hs
    rw [sh_bc_some]
    by_cases e : r = Int32.ofNat ((sh_txs x).getD i 0)
    · rw [if_pos e] at hs
      rw [if_pos e, sh_bn_some, if_pos rfl]
      exact sh_wstep (by show sf_328_2s x (Int32.ofNat i) m = _; exact hs)
    · rw [if_neg e] at hs
      rw [if_neg e, sj_252, sh_bn_some, sh_bn_some, if_neg (by decide)]
      exact sh_wend (by show sf_328_2s x (Int32.ofNat i) m = _; exact hs)
theorem sj_328e {x : Nat} {m : sh_X} (h0 : 0 < (sh_txs x).length) : sf_328_2 x (Int32.ofNat (sh_txs x).length) m = some (true, m) := by
  refine sh_wend ?_
  show sf_328_2s x (Int32.ofNat (sh_txs x).length) m = _
  unfold sf_328_2s
  rw [if_pos (show 0 < sh_txn x from h0), if_neg (show ¬ Int32.ofNat (sh_txs x).length < sh_txl x from sh_nlt0 _)]
/-- the last letter of the model's text -/
theorem sj_328l {x : Nat} {m : sh_X} {l : List Nat} (hx : sh_txs x = l ++ [10]) (hl : l.length < 90) : sf_328_2 x (Int32.ofNat l.length) m = sf_327 10 m := by
  have ln : (sh_txs x).length = l.length + 1 := by rw [hx, List.length_append]; rfl
  rw [sj_328s (by omega) (by omega), show (sh_txs x).getD l.length 0 = 10 by rw [hx]; simp]
  show sh_bn (sf_327 10 m) _ = _
  cases hq : sf_327 10 m with
  | none => rfl
  | some r =>
    obtain ⟨r1, r2⟩ := r
    rw [sh_bn_some]
    cases r1 with
    | false => rfl
    | true => rw [if_pos rfl, ← ln, sj_328e (by omega)]
/-- a text on both sides -/
theorem sj_211 {n x y : Nat} {B : Nat → Int32} {l : List Nat} (hx : sh_txs x = l) (hy : sh_txs y = l ++ [10]) (h0 : 0 < l.length) (hl : l.length < 90) (hc : ∀ i, i < l.length → l.getD i 0 < 256) : ∀ (d i p : Nat) (mc mm : sh_X), i + d = l.length → sj_P n B p mc mm → sj_bd (sf_211_2 x (Int32.ofNat i) mc) (sf_328_2 y (Int32.ofNat i) mm) mc mm ∨ ∃ m1 m2, sf_211_2 x (Int32.ofNat i) mc = some (some (), m1) ∧ sf_328_2 y (Int32.ofNat i) mm = sf_327 10 m2 ∧ sj_P n B (p + d) m1 m2 ∧ sj_Cf mc m1 ∧ sj_Mf mm m2 := by
  have ln : (sh_txs y).length = l.length + 1 := by rw [hy, List.length_append]; rfl
  intro d
  induction d with
  | zero =>
    intro i p mc mm hi h
    have e : i = l.length := by omega
    subst e
    refine Or.inr ⟨mc, mm, ?_, sj_328l hy hl, h, sj_Cf.refl mc, sj_Mf.refl mm⟩
    have := sj_211e (x := x) (m := mc) (by rw [hx]; exact h0)
    rw [hx] at this
    exact this
  | succ d ih =>
    intro i p mc mm hi h
    have g1 : (sh_txs x).getD i 0 = l.getD i 0 := by rw [hx]
    have g2 : (sh_txs y).getD i 0 = l.getD i 0 := by rw [hy, List.getD_eq_getElem?_getD, List.getElem?_append_left (by omega), ← List.getD_eq_getElem?_getD]
    rw [sj_211s (by rw [hx]; omega) (by rw [hx]; omega), sj_328s (by omega) (by omega), g1, g2]
    rcases sj_chr (x := l.getD i 0) h (hc i (by omega)) with ⟨q, m1, m2, e1, e2, f1, f2⟩ | ⟨m1, m2, e1, e2, P2, f1, f2, _, _⟩
    · exact Or.inl ⟨q, m1, m2, by rw [e1]; rfl, by rw [e2]; rfl, f1, f2⟩
    · rw [e1, e2, sh_bn_some, if_pos rfl]
      rcases ih (i + 1) (p + 1) m1 m2 (by omega) P2 with ⟨q, m3, m4, k1, k2, k3, k4⟩ | ⟨m3, m4, k1, k2, P4, k3, k4⟩
      · exact Or.inl ⟨q, m3, m4, k1, k2, f1.trans k3, f2.trans k4⟩
      · exact Or.inr ⟨m3, m4, k1, k2, by rw [show p + (d + 1) = p + 1 + d by omega]; exact P4, f1.trans k3, f2.trans k4⟩
