/-! ROWS of a walk over the memory -/
section Rows
variable {G : sh_G} {sc : sh_S} {k pc : Nat} {lv : sh_Ls} {st : List Value} {h3 : sh_H} {o : Outcome} {v : sh_U} {T : List sh_Tg} {I : Nat → Nat → Int32} {J : Nat → Nat → Int64}
theorem sh_alt_l {x y : Option sh_N} {r : sh_N} (h : x = some r) : sh_alt x y = some r := by
  rw [h]
  rfl
theorem sh_alt_r {x y : Option sh_N} {r : sh_N} (h : x = none) (h2 : y = some r) : sh_alt x y = some r := by
  rw [h]
  exact h2
theorem sh_iok {i : Instr} {len : Nat} (hs : (sh_simple i && decide (len = sh_len i len)) = true) : sh_simple i = true ∧ len = sh_len i len := by
  rw [Bool.and_eq_true, decide_eq_true_eq] at hs
  exact hs
/-- an int field is read -/
theorem sh_gI1 {idx len a f ci : Nat} {ty : FieldType} {fin : Bool} {fs : List (Nat ⊕ Value)} {r : List Value} {x : Int32} {pc2 : Nat} (hi : sh_gI G k pc = some (.getfield idx, 3)) (hg : sh_gF G (sh_On G k) idx = some (ci, f, ty, fin)) (hT : T[a]? = some (.inr (ci, fs))) (hf : fs[f]? = some (.inl 0)) (hx : I a f = x) (hp : pc + 3 = pc2)
    (kk : sh_To G sc k pc2 lv (.int x :: r) (sh_rep T I J) o h3 v) : sh_To G sc k pc lv (.ref (a + 1) :: r) (sh_rep T I J) o h3 v := by
  subst hp
  refine sh_w hi rfl (sh_alt_l (y := sh_getK G k idx pc lv (.ref (a + 1) :: r) (sh_rep T I J)) ?_) kk
  show sh_get G k idx pc lv (.ref (a + 1) :: r) (sh_rep T I J) = _
  unfold sh_get
  dsimp only
  rw [hg, sh_rep_get hT]
  show (if ci = ci then match (sh_slots (I a) (J a) 0 fs)[f]? with
    | some v => _
    | none => _ else _) = _
  rw [if_pos rfl, sh_slots_get, hf, ← hx, Nat.zero_add]
  rfl
theorem sh_gJ1 {idx len a f ci : Nat} {ty : FieldType} {fin : Bool} {fs : List (Nat ⊕ Value)} {r : List Value} {x : Int64} {pc2 : Nat} (hi : sh_gI G k pc = some (.getfield idx, 3)) (hg : sh_gF G (sh_On G k) idx = some (ci, f, ty, fin)) (hT : T[a]? = some (.inr (ci, fs))) (hf : fs[f]? = some (.inl 1)) (hx : J a f = x) (hp : pc + 3 = pc2)
    (kk : sh_To G sc k pc2 lv (.long x :: r) (sh_rep T I J) o h3 v) : sh_To G sc k pc lv (.ref (a + 1) :: r) (sh_rep T I J) o h3 v := by
  subst hp
  refine sh_w hi rfl (sh_alt_l (y := sh_getK G k idx pc lv (.ref (a + 1) :: r) (sh_rep T I J)) ?_) kk
  show sh_get G k idx pc lv (.ref (a + 1) :: r) (sh_rep T I J) = _
  unfold sh_get
  dsimp only
  rw [hg, sh_rep_get hT]
  show (if ci = ci then match (sh_slots (I a) (J a) 0 fs)[f]? with
    | some v => _
    | none => _ else _) = _
  rw [if_pos rfl, sh_slots_get, hf, ← hx, Nat.zero_add]
  rfl
theorem sh_gR1 {idx len a f ci : Nat} {ty : FieldType} {fin : Bool} {fs : List (Nat ⊕ Value)} {r : List Value} {x : Value} {pc2 : Nat} (hi : sh_gI G k pc = some (.getfield idx, 3)) (hg : sh_gF G (sh_On G k) idx = some (ci, f, ty, fin)) (hT : T[a]? = some (.inr (ci, fs))) (hf : fs[f]? = some (.inr x)) (hp : pc + 3 = pc2)
    (kk : sh_To G sc k pc2 lv (x :: r) (sh_rep T I J) o h3 v) : sh_To G sc k pc lv (.ref (a + 1) :: r) (sh_rep T I J) o h3 v := by
  subst hp
  refine sh_w hi rfl (sh_alt_l (y := sh_getK G k idx pc lv (.ref (a + 1) :: r) (sh_rep T I J)) ?_) kk
  show sh_get G k idx pc lv (.ref (a + 1) :: r) (sh_rep T I J) = _
  unfold sh_get
  dsimp only
  rw [hg, sh_rep_get hT]
  show (if ci = ci then match (sh_slots (I a) (J a) 0 fs)[f]? with
    | some v => _
    | none => _ else _) = _
  rw [if_pos rfl, sh_slots_get, hf]
  rfl
/-- a field is written -/
theorem sh_put0 {idx a f ci : Nat} {ty : FieldType} {fin : Bool} {fs fs2 : List (Nat ⊕ Value)} {r : List Value} {w : Value} {s2 : Nat ⊕ Value} {I2 : Nat → Nat → Int32} {J2 : Nat → Nat → Int64} {pc2 : Nat} (hi : sh_gI G k pc = some (.putfield idx, 3)) (hg : sh_gF G (sh_On G k) idx = some (ci, f, ty, fin)) (hT : T[a]? = some (.inr (ci, fs))) (hf : f < fs.length) (hfit : sh_fit ty w = true) (hfin : fin = false ∨ ((sh_Y G k).name = "<init>" ∧ ((sh_cl G)[ci]?).map (fun q => q.1) = some (sh_O G k)))
    (hl : fs2 = fs.set f s2) (hv : w = sh_sv (I2 a f) (J2 a f) s2) (hI : ∀ b, b ≠ a → I2 b = I b) (hJ : ∀ b, b ≠ a → J2 b = J b) (hI2 : ∀ g, g ≠ f → I2 a g = I a g) (hJ2 : ∀ g, g ≠ f → J2 a g = J a g) (hp : pc + 3 = pc2)
    (kk : sh_To G sc k pc2 lv r (sh_rep (T.set a (.inr (ci, fs2))) I2 J2) o h3 v) : sh_To G sc k pc lv (w :: .ref (a + 1) :: r) (sh_rep T I J) o h3 v := by
  subst hp
  refine sh_w hi rfl (h2 := sh_rep (T.set a (.inr (ci, fs2))) I2 J2) ?_ kk
  show sh_put G k idx pc lv (w :: .ref (a + 1) :: r) (sh_rep T I J) = _
  unfold sh_put
  dsimp only
  rw [hg, sh_rep_get hT]
  show (if ci = ci ∧ f < (sh_slots (I a) (J a) 0 fs).length ∧ _ then some (_, _, _, (sh_rep T I J).set a (.inr (ci, (sh_slots (I a) (J a) 0 fs).set f w)), _, _) else none) = _
  rw [if_pos ⟨rfl, by rw [sh_slots_len]; exact hf, hfit, fun h => by rcases hfin with h0 | h0; (rw [h0] at h; cases h); exact h0⟩]
  rw [sh_rep_set (t2 := .inr (ci, fs2)) (I2 := I2) (J2 := J2) hT (by rw [sh_slots_set (I2 := I2 a) (J2 := J2 a) hf hl hv hI2 hJ2]; rfl) hI hJ]
theorem sh_pI1 {idx a f ci : Nat} {ty : FieldType} {fin : Bool} {fs : List (Nat ⊕ Value)} {r : List Value} {x : Int32} {pc2 : Nat} (hi : sh_gI G k pc = some (.putfield idx, 3)) (hg : sh_gF G (sh_On G k) idx = some (ci, f, ty, fin)) (hT : T[a]? = some (.inr (ci, fs))) (hf : fs[f]? = some (.inl 0)) (hfit : sh_fit ty (.int x) = true) (hfin : fin = false) (hp : pc + 3 = pc2)
    (kk : sh_To G sc k pc2 lv r (sh_rep T (sh_u2 I a f x) J) o h3 v) : sh_To G sc k pc lv (.int x :: .ref (a + 1) :: r) (sh_rep T I J) o h3 v := by
  have hl : f < fs.length := (List.getElem?_eq_some_iff.mp hf).1
  refine sh_put0 (fs2 := fs) (s2 := .inl 0) (I2 := sh_u2 I a f x) (J2 := J) hi hg hT hl hfit (Or.inl hfin) (List.ext_getElem? (fun i => ?_)) (by show _ = Value.int (sh_u2 I a f x a f); rw [sh_u2_same]) (fun b hb => sh_u2_cell hb) (fun _ _ => rfl) (fun g hg => sh_u2_idx hg) (fun _ _ => rfl) hp (by rw [sh_set_id hT]; exact kk)
  by_cases hif : f = i
  · subst hif
    rw [List.getElem?_set_self hl, hf]
  · rw [List.getElem?_set_ne hif]
theorem sh_pJ1 {idx a f ci : Nat} {ty : FieldType} {fin : Bool} {fs : List (Nat ⊕ Value)} {r : List Value} {x : Int64} {pc2 : Nat} (hi : sh_gI G k pc = some (.putfield idx, 3)) (hg : sh_gF G (sh_On G k) idx = some (ci, f, ty, fin)) (hT : T[a]? = some (.inr (ci, fs))) (hf : fs[f]? = some (.inl 1)) (hfit : sh_fit ty (.long x) = true) (hfin : fin = false) (hp : pc + 3 = pc2)
    (kk : sh_To G sc k pc2 lv r (sh_rep T I (sh_u2 J a f x)) o h3 v) : sh_To G sc k pc lv (.long x :: .ref (a + 1) :: r) (sh_rep T I J) o h3 v := by
  have hl : f < fs.length := (List.getElem?_eq_some_iff.mp hf).1
  refine sh_put0 (fs2 := fs) (s2 := .inl 1) (I2 := I) (J2 := sh_u2 J a f x) hi hg hT hl hfit (Or.inl hfin) (List.ext_getElem? (fun i => ?_)) (by show _ = Value.long (sh_u2 J a f x a f); rw [sh_u2_same]) (fun _ _ => rfl) (fun b hb => sh_u2_cell hb) (fun _ _ => rfl) (fun g hg => sh_u2_idx hg) hp (by rw [sh_set_id hT]; exact kk)
  by_cases hif : f = i
  · subst hif
    rw [List.getElem?_set_self hl, hf]
  · rw [List.getElem?_set_ne hif]
theorem sh_pR1 {idx a f ci : Nat} {ty : FieldType} {fin : Bool} {fs fs2 : List (Nat ⊕ Value)} {r : List Value} {w : Value} {pc2 : Nat} {T2 : List sh_Tg} (hi : sh_gI G k pc = some (.putfield idx, 3)) (hg : sh_gF G (sh_On G k) idx = some (ci, f, ty, fin)) (hT : T[a]? = some (.inr (ci, fs))) (hf : f < fs.length) (hfit : sh_fit ty w = true) (hfin : fin = false ∨ ((sh_Y G k).name = "<init>" ∧ ((sh_cl G)[ci]?).map (fun q => q.1) = some (sh_O G k))) (hl : T.set a (.inr (ci, fs.set f (.inr w))) = T2) (hp : pc + 3 = pc2)
    (kk : sh_To G sc k pc2 lv r (sh_rep T2 I J) o h3 v) : sh_To G sc k pc lv (w :: .ref (a + 1) :: r) (sh_rep T I J) o h3 v := by
  subst hl
  exact sh_put0 (fs2 := fs.set f (.inr w)) (s2 := .inr w) (I2 := I) (J2 := J) hi hg hT hf hfit hfin rfl rfl (fun _ _ => rfl) (fun _ _ => rfl) (fun _ _ => rfl) (fun _ _ => rfl) hp kk
/-- elements of arrays -/
theorem sh_ix {i : Int32} {n : Nat} (h0 : ¬ i < 0) (hn : i.toNatClampNeg < n) : (!(decide (i < 0) || decide (n ≤ i.toNatClampNeg))) = true := by
  simp [h0, Nat.not_le.mpr hn]
theorem sh_cellI {a t n : Nat} (h2 : t ≠ 2) : sh_cell I J a (.inl (t, n)) = .inl (t, n, .inl (I a)) := by
  unfold sh_cell
  split
  · rename_i h; cases h; exact absurd rfl h2
  · rename_i h; cases h; rfl
  · rename_i h; cases h
theorem sh_ia1 {a n : Nat} {i : Int32} {r : List Value} {x : Int32} {pc2 : Nat} (hi : sh_gI G k pc = some (.iaload, 1)) (hT : T[a]? = some (.inl (0, n))) (h0 : ¬ i < 0) (hn : i.toNatClampNeg < n) (hx : I a i.toNatClampNeg = x) (hp : pc + 1 = pc2)
    (kk : sh_To G sc k pc2 lv (.int x :: r) (sh_rep T I J) o h3 v) : sh_To G sc k pc lv (.int i :: .ref (a + 1) :: r) (sh_rep T I J) o h3 v := by
  subst hp
  refine sh_w hi rfl ?_ kk
  show sh_ald [0] pc lv (.int i :: .ref (a + 1) :: r) (sh_rep T I J) = _
  unfold sh_ald
  dsimp only
  rw [sh_rep_get hT, sh_cellI (by decide)]
  show (if (decide (0 ∈ [0]) && !(decide (i < 0) || decide (n ≤ i.toNatClampNeg))) = true then _ else _) = _
  rw [sh_ix h0 hn, if_pos (by decide), hx]
theorem sh_ba1 {a n t : Nat} {i : Int32} {r : List Value} {x : Int32} {pc2 : Nat} (hi : sh_gI G k pc = some (.baload, 1)) (hT : T[a]? = some (.inl (t, n))) (ht : t = 1 ∨ t = 3) (h0 : ¬ i < 0) (hn : i.toNatClampNeg < n) (hx : I a i.toNatClampNeg = x) (hp : pc + 1 = pc2)
    (kk : sh_To G sc k pc2 lv (.int x :: r) (sh_rep T I J) o h3 v) : sh_To G sc k pc lv (.int i :: .ref (a + 1) :: r) (sh_rep T I J) o h3 v := by
  subst hp
  refine sh_w hi rfl (sh_alt_l (y := sh_baK G pc lv (.int i :: .ref (a + 1) :: r) (sh_rep T I J)) ?_) kk
  show sh_ald [1, 3] pc lv (.int i :: .ref (a + 1) :: r) (sh_rep T I J) = _
  unfold sh_ald
  dsimp only
  rw [sh_rep_get hT, sh_cellI (by rcases ht with h | h <;> subst h <;> decide)]
  show (if (decide (t ∈ [1, 3]) && !(decide (i < 0) || decide (n ≤ i.toNatClampNeg))) = true then _ else _) = _
  rw [sh_ix h0 hn, if_pos (by rcases ht with h | h <;> subst h <;> decide), hx]
theorem sh_la1 {a n : Nat} {i : Int32} {r : List Value} {x : Int64} {pc2 : Nat} (hi : sh_gI G k pc = some (.laload, 1)) (hT : T[a]? = some (.inl (2, n))) (h0 : ¬ i < 0) (hn : i.toNatClampNeg < n) (hx : J a i.toNatClampNeg = x) (hp : pc + 1 = pc2)
    (kk : sh_To G sc k pc2 lv (.long x :: r) (sh_rep T I J) o h3 v) : sh_To G sc k pc lv (.int i :: .ref (a + 1) :: r) (sh_rep T I J) o h3 v := by
  subst hp
  refine sh_w hi rfl ?_ kk
  show sh_lald pc lv (.int i :: .ref (a + 1) :: r) (sh_rep T I J) = _
  unfold sh_lald
  dsimp only
  rw [sh_rep_get hT]
  show (if (decide (2 = 2) && !(decide (i < 0) || decide (n ≤ i.toNatClampNeg))) = true then _ else _) = _
  rw [sh_ix h0 hn, if_pos (by decide), hx]
theorem sh_arrset {a n t : Nat} {i : Nat} {x : Int32} (hT : T[a]? = some (.inl (t, n))) (h2 : t ≠ 2) : (sh_rep T I J).set a (.inl (t, n, .inl (upd (I a) i x))) = sh_rep T (sh_u2 I a i x) J := by
  rw [sh_rep_set (t2 := .inl (t, n)) (I2 := sh_u2 I a i x) (J2 := J) hT ?_ (fun b hb => sh_u2_cell hb) (fun _ _ => rfl), sh_set_id hT]
  rw [sh_cellI h2]
  congr 4
  funext j
  unfold upd sh_u2
  rw [if_pos rfl]
theorem sh_is1 {a n : Nat} {i : Int32} {r : List Value} {x : Int32} {pc2 : Nat} (hi : sh_gI G k pc = some (.iastore, 1)) (hT : T[a]? = some (.inl (0, n))) (h0 : ¬ i < 0) (hn : i.toNatClampNeg < n) (hp : pc + 1 = pc2)
    (kk : sh_To G sc k pc2 lv r (sh_rep T (sh_u2 I a i.toNatClampNeg x) J) o h3 v) : sh_To G sc k pc lv (.int x :: .int i :: .ref (a + 1) :: r) (sh_rep T I J) o h3 v := by
  subst hp
  refine sh_w hi rfl (h2 := sh_rep T (sh_u2 I a i.toNatClampNeg x) J) ?_ kk
  show sh_ast 0 (fun x => x) pc lv (.int x :: .int i :: .ref (a + 1) :: r) (sh_rep T I J) = _
  unfold sh_ast
  dsimp only
  rw [sh_rep_get hT, sh_cellI (by decide)]
  show (if (decide (0 = 0) && !(decide (i < 0) || decide (n ≤ i.toNatClampNeg))) = true then some (_, _, _, (sh_rep T I J).set a _, _, _) else _) = _
  rw [sh_ix h0 hn, if_pos (by decide), sh_arrset hT (by decide)]
theorem sh_bs1 {a n : Nat} {i : Int32} {r : List Value} {x y : Int32} {pc2 : Nat} (hi : sh_gI G k pc = some (.bastore, 1)) (hT : T[a]? = some (.inl (1, n))) (h0 : ¬ i < 0) (hn : i.toNatClampNeg < n) (hy : vp_nar .byte x = y) (hp : pc + 1 = pc2)
    (kk : sh_To G sc k pc2 lv r (sh_rep T (sh_u2 I a i.toNatClampNeg y) J) o h3 v) : sh_To G sc k pc lv (.int x :: .int i :: .ref (a + 1) :: r) (sh_rep T I J) o h3 v := by
  subst hp
  subst hy
  refine sh_w hi rfl (h2 := sh_rep T (sh_u2 I a i.toNatClampNeg (vp_nar .byte x)) J) ?_ kk
  show sh_bast pc lv (.int x :: .int i :: .ref (a + 1) :: r) (sh_rep T I J) = _
  unfold sh_bast sh_ast
  dsimp only
  rw [sh_rep_get hT, sh_cellI (by decide)]
  dsimp only
  rw [sh_ix h0 hn, if_pos (by decide), sh_arrset hT (by decide)]
theorem sh_zs1 {a n : Nat} {i : Int32} {r : List Value} {x y : Int32} {pc2 : Nat} (hi : sh_gI G k pc = some (.bastore, 1)) (hT : T[a]? = some (.inl (3, n))) (h0 : ¬ i < 0) (hn : i.toNatClampNeg < n) (hy : vp_nar .boolean x = y) (hp : pc + 1 = pc2)
    (kk : sh_To G sc k pc2 lv r (sh_rep T (sh_u2 I a i.toNatClampNeg y) J) o h3 v) : sh_To G sc k pc lv (.int x :: .int i :: .ref (a + 1) :: r) (sh_rep T I J) o h3 v := by
  subst hp
  subst hy
  refine sh_w hi rfl (h2 := sh_rep T (sh_u2 I a i.toNatClampNeg (vp_nar .boolean x)) J) ?_ kk
  show sh_bast pc lv (.int x :: .int i :: .ref (a + 1) :: r) (sh_rep T I J) = _
  unfold sh_bast sh_ast
  dsimp only
  rw [sh_rep_get hT, sh_cellI (by decide)]
  dsimp only
  rw [if_neg (by simp)]
  dsimp only
  rw [sh_ix h0 hn, if_pos (by decide), sh_arrset hT (by decide)]
theorem sh_ls1 {a n : Nat} {i : Int32} {r : List Value} {x : Int64} {pc2 : Nat} (hi : sh_gI G k pc = some (.lastore, 1)) (hT : T[a]? = some (.inl (2, n))) (h0 : ¬ i < 0) (hn : i.toNatClampNeg < n) (hp : pc + 1 = pc2)
    (kk : sh_To G sc k pc2 lv r (sh_rep T I (sh_u2 J a i.toNatClampNeg x)) o h3 v) : sh_To G sc k pc lv (.long x :: .int i :: .ref (a + 1) :: r) (sh_rep T I J) o h3 v := by
  subst hp
  refine sh_w hi rfl (h2 := sh_rep T I (sh_u2 J a i.toNatClampNeg x)) ?_ kk
  show sh_last pc lv (.long x :: .int i :: .ref (a + 1) :: r) (sh_rep T I J) = _
  unfold sh_last
  dsimp only
  rw [sh_rep_get hT]
  show (if (decide (2 = 2) && !(decide (i < 0) || decide (n ≤ i.toNatClampNeg))) = true then some (_, _, _, (sh_rep T I J).set a (.inl (2, n, .inr (.inl (vp_updL (J a) i.toNatClampNeg x)))), _, _) else _) = _
  rw [sh_ix h0 hn, if_pos (by decide), sh_rep_set (t2 := .inl (2, n)) (I2 := I) (J2 := sh_u2 J a i.toNatClampNeg x) hT ?_ (fun _ _ => rfl) (fun b hb => sh_u2_cell hb), sh_set_id hT]
  show _ = Sum.inl (2, n, Sum.inr (Sum.inl (sh_u2 J a i.toNatClampNeg x a)))
  congr 5
  funext j
  unfold vp_updL sh_u2
  rw [if_pos rfl]
theorem sh_al1 {a n t : Nat} {r : List Value} {pc2 : Nat} (hi : sh_gI G k pc = some (.arraylength, 1)) (hT : T[a]? = some (.inl (t, n))) (ht : t < 4) (hp : pc + 1 = pc2)
    (kk : sh_To G sc k pc2 lv (.int (Int32.ofNat n) :: r) (sh_rep T I J) o h3 v) : sh_To G sc k pc lv (.ref (a + 1) :: r) (sh_rep T I J) o h3 v := by
  subst hp
  refine sh_w hi rfl (sh_alt_l (y := sh_alK G pc lv (.ref (a + 1) :: r) (sh_rep T I J)) ?_) kk
  show sh_al0 sc pc lv (.ref (a + 1) :: r) (sh_rep T I J) = _
  unfold sh_al0
  dsimp only
  rw [sh_rep_get hT]
  by_cases h2 : t = 2
  · subst h2
    rfl
  · rw [sh_cellI h2]
    dsimp only
    rw [if_pos ht]
end Rows
