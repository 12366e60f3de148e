/-! THE LAW'S BEGIN; its three static methods where the class throws; printed by gen25.py -/
section Begin
variable {sc : sh_S} {T : List sh_Tg} {I : Nat → Nat → Int32} {J : Nat → Nat → Int64} {h h3 : sh_H} {o : Outcome} {v : sh_U}
theorem sh_wnew {k pc : Nat} {lv : sh_Ls} {st : List Value} {idx ci n a pc2 : Nat} {fs : List Value} {h2 : sh_H} (hi : sh_gI sh_G0 k pc = some (.new idx, 3)) (hx : sh_gX sh_G0 (sh_On sh_G0 k) idx = none) (hN : sh_gN sh_G0 (sh_On sh_G0 k) idx = some (ci, n, fs)) (hl : h.length < 1000000) (ha : h.length + 1 = a) (hp : pc + 3 = pc2) (hh : h ++ [.inr (ci, fs)] = h2)
    (kk : sh_To sh_G0 sc k pc2 lv (.ref a :: st) h2 o h3 v) : sh_To sh_G0 sc k pc lv st h o h3 (1 + v.1, n + v.2.1, v.2.2) := by
  subst hp
  subst ha
  subst hh
  refine sh_To_step (pc2 := pc + 3) (lv2 := lv) (st2 := .ref (h.length + 1) :: st) (h2 := h ++ [.inr (ci, fs)]) (fun run => ?_) kk
  unfold sh_step
  rw [hi]
  dsimp only
  rw [if_pos (show 3 = sh_len (.new idx) 3 from rfl)]
  have h1 : sh_ret sh_G0 k (.new idx) st = none := by
    unfold sh_ret
    split <;> first | rfl | (rename_i h _; cases h)
  have h2 : sh_ent sh_G0 k (.new idx) st h = none := rfl
  have h4 : sh_tn sh_G0 k (.new idx) pc = none := by
    unfold sh_tn
    simp only [hx]
  rw [h1]
  dsimp only
  rw [h2]
  dsimp only
  rw [h4]
  dsimp only
  have h5 : sh_one sh_G0 sc k (.new idx) pc lv st h = some (pc + 3, lv, .ref (h.length + 1) :: st, h ++ [.inr (ci, fs)], 1, n) := by
    unfold sh_one
    dsimp only
    rw [hN]
    dsimp only
    rw [if_pos hl]
  rw [h5]
theorem sh_wna {k pc : Nat} {lv : sh_Ls} {st : List Value} {ty : ArrayType} {t a pc2 : Nat} {n : Int32} {h2 : sh_H} (hi : sh_gI sh_G0 k pc = some (.newarray ty, 2)) (ht : sh_tyOf ty = some t) (hn : ¬ n < 0 ∧ n.toNatClampNeg ≤ 1000000 ∧ h.length < 1000000) (ha : h.length + 1 = a) (hp : pc + 2 = pc2) (hh : h ++ [.inl (t, sh_new0 t n.toNatClampNeg)] = h2)
    (kk : sh_To sh_G0 sc k pc2 lv (.ref a :: st) h2 o h3 v) : sh_To sh_G0 sc k pc lv (.int n :: st) h o h3 (1 + v.1, n.toNatClampNeg + v.2.1, v.2.2) := by
  subst hp
  subst ha
  subst hh
  refine sh_wnx hi rfl (pc2 := pc + 2) (lv2 := lv) (st2 := .ref (h.length + 1) :: st) (h2 := h ++ [.inl (t, sh_new0 t n.toNatClampNeg)]) ?_ kk
  unfold sh_one
  dsimp only
  rw [ht]
  dsimp only
  rw [if_pos hn]
theorem sh_begin {hA hB : sh_H} (lA : hA.length = 66) (lB : hB.length = 124) (cA : sh_To sh_G0 sc 1 0 [(0, .ref 1)] [] [.inr (0, [.null, .null, .null, .null, .null, .null, .null, .null, .null, .null, .int 0, .int 0, .int 0, .int 0, .int 0])] (.returned none) hA (70, 100000, 20, 400))
    (cB : sh_To sh_G0 sc 242 0 [(0, .ref 67)] [] (hA ++ [.inr (12, [.int 0, .null, .int 0, .int 0, .int 0, .int 0, .int 0, .int 0, .null, .null, .null, .int 0, .null, .null, .null, .null, .null, .null, .null, .null, .int 0, .int 0, .null, .null, .null, .null, .null, .null, .null, .null, .null, .int 0, .null, .null, .null, .null, .int 0, .int 0, .int 0, .int 0, .null, .int 0, .int 0, .int 0, .int 0, .int 0, .long 0, .null, .null, .null, .null, .null, .null, .int 0, .int 0, .int 0, .int 0, .int 0, .int 0, .int 0, .null, .null, .null, .null, .null, .null, .null, .null, .null, .null, .null, .null, .null, .int 0, .null, .null, .null, .null, .null, .int 0, .int 0, .null, .null, .null, .null, .int 0, .int 0, .int 0, .null, .null, .null, .int 0, .int 0, .int 0])]) (.returned none) hB (70, 400000, 20, 400))
    (kk : sh_To sh_G0 sc 0 23 [(4, .int 0), (3, .ref 125), (2, .ref 67), (1, .ref 1), (0, .ref 0)] [] (hB ++ [.inl (2, sh_new0 2 1)]) o h3 (v.1, v.2.1, 100, 4000)) : sh_To sh_G0 sc 0 0 [(0, .ref 0)] [] [] o h3 (150 + v.1, 501000 + v.2.1, 100, 4000) := by
  refine sh_To_le (v := (1 + (149 + v.1), 15 + (500985 + v.2.1), 100, 4000)) ⟨by show 1 + (149 + v.1) ≤ 150 + v.1; omega, by show 15 + (500985 + v.2.1) ≤ 501000 + v.2.1; omega, Nat.le_refl _, Nat.le_refl _⟩ (sh_wnew (v := (149 + v.1, 500985 + v.2.1, 100, 4000)) (h := []) (idx := 8) (ci := 0) (n := 15) (a := 1) (pc2 := 3) (h2 := [.inr (0, [.null, .null, .null, .null, .null, .null, .null, .null, .null, .null, .int 0, .int 0, .int 0, .int 0, .int 0])]) rfl rfl rfl (by decide) rfl rfl rfl ?_)
  refine sh_w (i := .dup) (len := 1) (pc2 := 4) (lv2 := [(0, .ref 0)]) (st2 := [.ref 1, .ref 1]) (h2 := [.inr (0, [.null, .null, .null, .null, .null, .null, .null, .null, .null, .null, .int 0, .int 0, .int 0, .int 0, .int 0])]) rfl rfl rfl ?_
  refine sh_To_le (v := sh_seq (sh_L sh_G0 1) (70, 100000, 20, 400) (79 + v.1, 400985 + v.2.1, 100, 4000)) ⟨by show 70 + (79 + v.1) ≤ 149 + v.1; omega, by show 100000 + (400985 + v.2.1) ≤ 500985 + v.2.1; omega, Nat.le_of_ble_eq_true rfl, Nat.le_of_ble_eq_true rfl⟩ (sh_cN (k2 := 1) (a := 1) (as := [.ref 1]) (rest := [.ref 1]) (st2 := [.ref 1]) (r := none) (pc2 := 7) rfl rfl (by decide) rfl rfl ⟨Nat.le_of_ble_eq_true rfl, Nat.le_of_ble_eq_true rfl⟩ cA rfl rfl ?_)
  refine sh_w (i := (.astore_n 1)) (len := 1) (pc2 := 8) (lv2 := [(1, .ref 1), (0, .ref 0)]) (st2 := []) (h2 := hA) rfl rfl rfl ?_
  refine sh_To_le (v := (1 + (78 + v.1), 94 + (400891 + v.2.1), 100, 4000)) ⟨by show 1 + (78 + v.1) ≤ 79 + v.1; omega, by show 94 + (400891 + v.2.1) ≤ 400985 + v.2.1; omega, Nat.le_refl _, Nat.le_refl _⟩ (sh_wnew (v := (78 + v.1, 400891 + v.2.1, 100, 4000)) (h := hA) (idx := 24) (ci := 12) (n := 94) (a := 67) (pc2 := 11) rfl rfl rfl (by omega) (by omega) rfl rfl ?_)
  refine sh_w (i := .dup) (len := 1) (pc2 := 12) (lv2 := [(1, .ref 1), (0, .ref 0)]) (st2 := [.ref 67, .ref 67]) (h2 := (hA ++ [.inr (12, [.int 0, .null, .int 0, .int 0, .int 0, .int 0, .int 0, .int 0, .null, .null, .null, .int 0, .null, .null, .null, .null, .null, .null, .null, .null, .int 0, .int 0, .null, .null, .null, .null, .null, .null, .null, .null, .null, .int 0, .null, .null, .null, .null, .int 0, .int 0, .int 0, .int 0, .null, .int 0, .int 0, .int 0, .int 0, .int 0, .long 0, .null, .null, .null, .null, .null, .null, .int 0, .int 0, .int 0, .int 0, .int 0, .int 0, .int 0, .null, .null, .null, .null, .null, .null, .null, .null, .null, .null, .null, .null, .null, .int 0, .null, .null, .null, .null, .null, .int 0, .int 0, .null, .null, .null, .null, .int 0, .int 0, .int 0, .null, .null, .null, .int 0, .int 0, .int 0])])) rfl rfl rfl ?_
  refine sh_To_le (v := sh_seq (sh_L sh_G0 242) (70, 400000, 20, 400) (8 + v.1, 891 + v.2.1, 100, 4000)) ⟨by show 70 + (8 + v.1) ≤ 78 + v.1; omega, by show 400000 + (891 + v.2.1) ≤ 400891 + v.2.1; omega, Nat.le_of_ble_eq_true rfl, Nat.le_of_ble_eq_true rfl⟩ (sh_cN (k2 := 242) (a := 67) (as := [.ref 67]) (rest := [.ref 67]) (st2 := [.ref 67]) (r := none) (pc2 := 15) rfl rfl (by decide) rfl rfl ⟨Nat.le_of_ble_eq_true rfl, Nat.le_of_ble_eq_true rfl⟩ cB rfl rfl ?_)
  refine sh_w (i := (.astore_n 2)) (len := 1) (pc2 := 16) (lv2 := [(2, .ref 67), (1, .ref 1), (0, .ref 0)]) (st2 := []) (h2 := hB) rfl rfl rfl ?_
  refine sh_w (i := (.iconst 1)) (len := 1) (pc2 := 17) (lv2 := [(2, .ref 67), (1, .ref 1), (0, .ref 0)]) (st2 := [.int 1]) (h2 := hB) rfl rfl rfl ?_
  refine sh_To_le (v := (1 + v.1, Int32.toNatClampNeg 1 + v.2.1, 100, 4000)) ⟨by show 1 + v.1 ≤ 8 + v.1; omega, by show 1 + v.2.1 ≤ 891 + v.2.1; omega, Nat.le_refl _, Nat.le_refl _⟩ (sh_wna (v := (v.1, v.2.1, 100, 4000)) (h := hB) (t := 2) (a := 125) (pc2 := 19) rfl rfl ⟨by decide, by decide, by omega⟩ (by omega) rfl rfl ?_)
  refine sh_w (i := (.astore_n 3)) (len := 1) (pc2 := 20) (lv2 := [(3, .ref 125), (2, .ref 67), (1, .ref 1), (0, .ref 0)]) (st2 := []) (h2 := (hB ++ [.inl (2, sh_new0 2 1)])) rfl rfl rfl ?_
  refine sh_w (i := (.iconst 0)) (len := 1) (pc2 := 21) (lv2 := [(3, .ref 125), (2, .ref 67), (1, .ref 1), (0, .ref 0)]) (st2 := [.int 0]) (h2 := (hB ++ [.inl (2, sh_new0 2 1)])) rfl rfl rfl ?_
  refine sh_w (i := (.istore 4)) (len := 2) (pc2 := 23) (lv2 := [(4, .int 0), (3, .ref 125), (2, .ref 67), (1, .ref 1), (0, .ref 0)]) (st2 := []) (h2 := (hB ++ [.inl (2, sh_new0 2 1)])) rfl rfl rfl ?_
  exact kk
theorem sh_cA : sh_To sh_G0 sc 1 0 [(0, .ref 1)] [] [.inr (0, [.null, .null, .null, .null, .null, .null, .null, .null, .null, .null, .int 0, .int 0, .int 0, .int 0, .int 0])] (.returned none) (sh_hOf sh_rA) (70, 100000, 20, 400) := by
  have h := sh_rA_ok
  simp only [Bool.and_eq_true] at h
  exact ⟨400, sh_uOf sh_rA, sh_run_none rfl (Or.inr rfl) _ _ _ _ _ _ _ (sh_isN_eq h.1.1), sh_uB_le h.2⟩
theorem sh_cB : sh_To sh_G0 sc 242 0 [(0, .ref 67)] [] (sh_hOf sh_rA ++ [.inr (12, [.int 0, .null, .int 0, .int 0, .int 0, .int 0, .int 0, .int 0, .null, .null, .null, .int 0, .null, .null, .null, .null, .null, .null, .null, .null, .int 0, .int 0, .null, .null, .null, .null, .null, .null, .null, .null, .null, .int 0, .null, .null, .null, .null, .int 0, .int 0, .int 0, .int 0, .null, .int 0, .int 0, .int 0, .int 0, .int 0, .long 0, .null, .null, .null, .null, .null, .null, .int 0, .int 0, .int 0, .int 0, .int 0, .int 0, .int 0, .null, .null, .null, .null, .null, .null, .null, .null, .null, .null, .null, .null, .null, .int 0, .null, .null, .null, .null, .null, .int 0, .int 0, .null, .null, .null, .null, .int 0, .int 0, .int 0, .null, .null, .null, .int 0, .int 0, .int 0])]) (.returned none) (sh_hOf sh_rB) (70, 400000, 20, 400) := by
  have h := sh_rB_ok
  simp only [Bool.and_eq_true] at h
  exact ⟨400, sh_uOf sh_rB, sh_run_none rfl (Or.inr rfl) _ _ _ _ _ _ _ (sh_isN_eq h.1.1), sh_uB_le h.2⟩
/-- the law comes to its loop with the heap sh_rep sh_T0 sh_IX sh_JX -/
theorem sh_start (kk : sh_To sh_G0 sc 0 23 [(4, .int 0), (3, .ref 125), (2, .ref 67), (1, .ref 1), (0, .ref 0)] [] (sh_rep sh_T0 sh_IX sh_JX) o h3 (v.1, v.2.1, 100, 4000)) : sh_To sh_G0 sc 0 0 [(0, .ref 0)] [] [] o h3 (150 + v.1, 501000 + v.2.1, 100, 4000) := by
  have h := sh_rA_ok
  have h2 := sh_rB_ok
  simp only [Bool.and_eq_true, decide_eq_true_eq] at h h2
  refine sh_begin h.1.2 h2.1.2 sh_cA sh_cB ?_
  have e : sh_hOf sh_rB ++ [.inl (2, sh_new0 2 1)] = sh_rep sh_T0 sh_IX sh_JX := sh_hX_rep
  rw [e]
  exact kk
theorem sh_IX0 (f : Nat) (hf : f < 15) : sh_IX 0 f = if f = 12 then -1 else 0 := by
  have h := sh_hX_ok
  simp only [Bool.and_eq_true] at h
  exact of_decide_eq_true (List.all_eq_true.mp h.1.2 f (List.mem_range.mpr hf))
theorem sh_IX66 (f : Nat) (hf : f < 94) : sh_IX 66 f = if f = 7 then -1 else 0 := by
  have h := sh_hX_ok
  simp only [Bool.and_eq_true] at h
  exact of_decide_eq_true (List.all_eq_true.mp h.2 f (List.mem_range.mpr hf))
theorem sh_c236n {x y : Int32} (hT : sh_St T) (hL : T.length < 1000000) (hn : I 0 13 = 0) : sh_To sh_G0 sc 236 0 [(0, .ref 1), (1, .int x), (2, .int y), (3, .ref 125)] [] (sh_rep T I J) (.returned (some (.int 1))) (sh_rep (T ++ [.inr (14, [])]) I J) (1, 6, 60, 1200) := by
  have hc := sh_c237n (sc := sc) (T := T) (I := I) (J := J) (x := x) (y := y) hT hL hn
  have e : sh_rep T I J ++ [.inr (14, [])] = sh_rep (T ++ [.inr (14, [])]) I J := sh_rep_push (T := T) (I := I) (J := J) (.inr (14, []))
  rw [e] at hc
  refine sh_w (i := (.aload_n 3)) (len := 1) (pc2 := 1) (lv2 := [(0, .ref 1), (1, .int x), (2, .int y), (3, .ref 125)]) (st2 := [.ref 125]) (h2 := (sh_rep T I J)) rfl rfl rfl ?_
  refine sh_w (i := (.iconst 0)) (len := 1) (pc2 := 2) (lv2 := [(0, .ref 1), (1, .int x), (2, .int y), (3, .ref 125)]) (st2 := [.int 0, .ref 125]) (h2 := (sh_rep T I J)) rfl rfl rfl ?_
  refine sh_w (i := (.aload_n 0)) (len := 1) (pc2 := 3) (lv2 := [(0, .ref 1), (1, .int x), (2, .int y), (3, .ref 125)]) (st2 := [.ref 1, .int 0, .ref 125]) (h2 := (sh_rep T I J)) rfl rfl rfl ?_
  refine sh_w (i := (.iload_n 1)) (len := 1) (pc2 := 4) (lv2 := [(0, .ref 1), (1, .int x), (2, .int y), (3, .ref 125)]) (st2 := [.int x, .ref 1, .int 0, .ref 125]) (h2 := (sh_rep T I J)) rfl rfl rfl ?_
  refine sh_w (i := (.iload_n 2)) (len := 1) (pc2 := 5) (lv2 := [(0, .ref 1), (1, .int x), (2, .int y), (3, .ref 125)]) (st2 := [.int y, .int x, .ref 1, .int 0, .ref 125]) (h2 := (sh_rep T I J)) rfl rfl rfl ?_
  refine sh_To_le (v := sh_seq (sh_L sh_G0 237) (1, 6, 40, 800) (0, 0, 60, 1200)) (sh_uB_le rfl) (sh_wcallC (k2 := 237) (i := .invokevirtual 7) (len := 3) (hpc := 13) rfl rfl rfl (sh_entV (as := [.ref 1, .int x, .int y]) (rest := [.int 0, .ref 125]) rfl rfl (sh_s0 hT) rfl rfl) ⟨Nat.le_of_ble_eq_true rfl, Nat.le_of_ble_eq_true rfl⟩ hc (sh_find2 rfl rfl rfl) ?_)
  refine sh_w (i := (.astore 4)) (len := 2) (pc2 := 15) (lv2 := [(4, .ref (T.length + 1)), (0, .ref 1), (1, .int x), (2, .int y), (3, .ref 125)]) (st2 := []) (h2 := (sh_rep (T ++ [.inr (14, [])]) I J)) rfl rfl rfl ?_
  refine sh_w (i := (.iconst 1)) (len := 1) (pc2 := 16) (lv2 := [(4, .ref (T.length + 1)), (0, .ref 1), (1, .int x), (2, .int y), (3, .ref 125)]) (st2 := [.int 1]) (h2 := (sh_rep (T ++ [.inr (14, [])]) I J)) rfl rfl rfl ?_
  exact sh_To_le (sh_uB_le rfl) (sh_wret (i := .ireturn) (len := 1) (r := some (.int 1)) rfl rfl rfl)
theorem sh_c238n {x y z t : Int32} (hT : sh_St T) (hL : T.length < 1000000) (hn : I 0 13 = 0) : sh_To sh_G0 sc 238 0 [(0, .ref 1), (1, .int x), (2, .int y), (3, .int z), (4, .int t)] [] (sh_rep T I J) (.returned (some (.int 1))) (sh_rep (T ++ [.inr (14, [])]) I J) (1, 6, 60, 1200) := by
  have hc := sh_c239n (sc := sc) (T := T) (I := I) (J := J) (x := x) (y := y) (z := z) (t := t) hT hL hn
  have e : sh_rep T I J ++ [.inr (14, [])] = sh_rep (T ++ [.inr (14, [])]) I J := sh_rep_push (T := T) (I := I) (J := J) (.inr (14, []))
  rw [e] at hc
  refine sh_w (i := (.aload_n 0)) (len := 1) (pc2 := 1) (lv2 := [(0, .ref 1), (1, .int x), (2, .int y), (3, .int z), (4, .int t)]) (st2 := [.ref 1]) (h2 := (sh_rep T I J)) rfl rfl rfl ?_
  refine sh_w (i := (.iload_n 1)) (len := 1) (pc2 := 2) (lv2 := [(0, .ref 1), (1, .int x), (2, .int y), (3, .int z), (4, .int t)]) (st2 := [.int x, .ref 1]) (h2 := (sh_rep T I J)) rfl rfl rfl ?_
  refine sh_w (i := (.iload_n 2)) (len := 1) (pc2 := 3) (lv2 := [(0, .ref 1), (1, .int x), (2, .int y), (3, .int z), (4, .int t)]) (st2 := [.int y, .int x, .ref 1]) (h2 := (sh_rep T I J)) rfl rfl rfl ?_
  refine sh_w (i := (.iload_n 3)) (len := 1) (pc2 := 4) (lv2 := [(0, .ref 1), (1, .int x), (2, .int y), (3, .int z), (4, .int t)]) (st2 := [.int z, .int y, .int x, .ref 1]) (h2 := (sh_rep T I J)) rfl rfl rfl ?_
  refine sh_w (i := (.iload 4)) (len := 2) (pc2 := 6) (lv2 := [(0, .ref 1), (1, .int x), (2, .int y), (3, .int z), (4, .int t)]) (st2 := [.int t, .int z, .int y, .int x, .ref 1]) (h2 := (sh_rep T I J)) rfl rfl rfl ?_
  refine sh_To_le (v := sh_seq (sh_L sh_G0 239) (1, 6, 40, 800) (0, 0, 60, 1200)) (sh_uB_le rfl) (sh_wcallC (k2 := 239) (i := .invokevirtual 15) (len := 3) (hpc := 12) rfl rfl rfl (sh_entV (as := [.ref 1, .int x, .int y, .int z, .int t]) (rest := []) rfl rfl (sh_s0 hT) rfl rfl) ⟨Nat.le_of_ble_eq_true rfl, Nat.le_of_ble_eq_true rfl⟩ hc (sh_find2 rfl rfl rfl) ?_)
  refine sh_w (i := (.astore 5)) (len := 2) (pc2 := 14) (lv2 := [(5, .ref (T.length + 1)), (0, .ref 1), (1, .int x), (2, .int y), (3, .int z), (4, .int t)]) (st2 := []) (h2 := (sh_rep (T ++ [.inr (14, [])]) I J)) rfl rfl rfl ?_
  refine sh_w (i := (.iconst 1)) (len := 1) (pc2 := 15) (lv2 := [(5, .ref (T.length + 1)), (0, .ref 1), (1, .int x), (2, .int y), (3, .int z), (4, .int t)]) (st2 := [.int 1]) (h2 := (sh_rep (T ++ [.inr (14, [])]) I J)) rfl rfl rfl ?_
  exact sh_To_le (sh_uB_le rfl) (sh_wret (i := .ireturn) (len := 1) (r := some (.int 1)) rfl rfl rfl)
theorem sh_c240n {x : Int32} (hT : sh_St T) (hL : T.length < 1000000) (hn : I 0 13 = 0) : sh_To sh_G0 sc 240 0 [(0, .ref 1), (1, .int x), (2, .ref 125)] [] (sh_rep T I J) (.returned (some (.int 1))) (sh_rep (T ++ [.inr (14, [])]) I J) (1, 6, 60, 1200) := by
  have hc := sh_c241n (sc := sc) (T := T) (I := I) (J := J) (x := x) hT hL hn
  have e : sh_rep T I J ++ [.inr (14, [])] = sh_rep (T ++ [.inr (14, [])]) I J := sh_rep_push (T := T) (I := I) (J := J) (.inr (14, []))
  rw [e] at hc
  refine sh_w (i := (.aload_n 2)) (len := 1) (pc2 := 1) (lv2 := [(0, .ref 1), (1, .int x), (2, .ref 125)]) (st2 := [.ref 125]) (h2 := (sh_rep T I J)) rfl rfl rfl ?_
  refine sh_w (i := (.iconst 0)) (len := 1) (pc2 := 2) (lv2 := [(0, .ref 1), (1, .int x), (2, .ref 125)]) (st2 := [.int 0, .ref 125]) (h2 := (sh_rep T I J)) rfl rfl rfl ?_
  refine sh_w (i := (.aload_n 0)) (len := 1) (pc2 := 3) (lv2 := [(0, .ref 1), (1, .int x), (2, .ref 125)]) (st2 := [.ref 1, .int 0, .ref 125]) (h2 := (sh_rep T I J)) rfl rfl rfl ?_
  refine sh_w (i := (.iload_n 1)) (len := 1) (pc2 := 4) (lv2 := [(0, .ref 1), (1, .int x), (2, .ref 125)]) (st2 := [.int x, .ref 1, .int 0, .ref 125]) (h2 := (sh_rep T I J)) rfl rfl rfl ?_
  refine sh_To_le (v := sh_seq (sh_L sh_G0 241) (1, 6, 40, 800) (0, 0, 60, 1200)) (sh_uB_le rfl) (sh_wcallC (k2 := 241) (i := .invokevirtual 19) (len := 3) (hpc := 11) rfl rfl rfl (sh_entV (as := [.ref 1, .int x]) (rest := [.int 0, .ref 125]) rfl rfl (sh_s0 hT) rfl rfl) ⟨Nat.le_of_ble_eq_true rfl, Nat.le_of_ble_eq_true rfl⟩ hc (sh_find2 rfl rfl rfl) ?_)
  refine sh_w (i := (.astore_n 3)) (len := 1) (pc2 := 12) (lv2 := [(3, .ref (T.length + 1)), (0, .ref 1), (1, .int x), (2, .ref 125)]) (st2 := []) (h2 := (sh_rep (T ++ [.inr (14, [])]) I J)) rfl rfl rfl ?_
  refine sh_w (i := (.iconst 1)) (len := 1) (pc2 := 13) (lv2 := [(3, .ref (T.length + 1)), (0, .ref 1), (1, .int x), (2, .ref 125)]) (st2 := [.int 1]) (h2 := (sh_rep (T ++ [.inr (14, [])]) I J)) rfl rfl rfl ?_
  exact sh_To_le (sh_uB_le rfl) (sh_wret (i := .ireturn) (len := 1) (r := some (.int 1)) rfl rfl rfl)
end Begin
