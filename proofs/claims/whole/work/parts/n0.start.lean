/-! THE START: both objects agree -/
section Start
variable {sc : sh_S} {h h3 : sh_H} {o : Outcome} {v : sh_U}
theorem so_begin {hA hB : sh_H} (lA : hA.length = 66) (lB : hB.length = 124) (cA : sh_To sh_G0 sc 1 0 [(0, .ref 1)] [] [.inr (0, [.null, .null, .null, .null, .null, .null, .null, .null, .null, .null, .int 0, .int 0, .int 0, .int 0, .int 0])] (.returned none) hA (70, 100000, 20, 400))
    (cB : sh_To sh_G0 sc 242 0 [(0, .ref 67)] [] (hA ++ [.inr (12, [.int 0, .null, .int 0, .int 0, .int 0, .int 0, .int 0, .int 0, .null, .null, .null, .int 0, .null, .null, .null, .null, .null, .null, .null, .null, .int 0, .int 0, .null, .null, .null, .null, .null, .null, .null, .null, .null, .int 0, .null, .null, .null, .null, .int 0, .int 0, .int 0, .int 0, .null, .int 0, .int 0, .int 0, .int 0, .int 0, .long 0, .null, .null, .null, .null, .null, .null, .int 0, .int 0, .int 0, .int 0, .int 0, .int 0, .int 0, .null, .null, .null, .null, .null, .null, .null, .null, .null, .null, .null, .null, .null, .int 0, .null, .null, .null, .null, .null, .int 0, .int 0, .null, .null, .null, .null, .int 0, .int 0, .int 0, .null, .null, .null, .int 0, .int 0, .int 0])]) (.returned none) hB (70, 400000, 20, 400))
    (kk : sh_To sh_G0 sc 0 23 [(4, .int 0), (3, .ref 125), (2, .ref 67), (1, .ref 1), (0, .ref 0)] [] (hB ++ [.inl (2, sh_new0 2 1)]) o h3 (v.1, v.2.1, 2045, 83000)) : sh_To sh_G0 sc 0 0 [(0, .ref 0)] [] [] o h3 (150 + v.1, 501000 + v.2.1, 2045, 83000) := by
  refine sh_To_le (v := (1 + (149 + v.1), 15 + (500985 + v.2.1), 2045, 83000)) ⟨by show 1 + (149 + v.1) ≤ 150 + v.1; omega, by show 15 + (500985 + v.2.1) ≤ 501000 + v.2.1; omega, Nat.le_refl _, Nat.le_refl _⟩ (sh_wnew (v := (149 + v.1, 500985 + v.2.1, 2045, 83000)) (h := []) (idx := 8) (ci := 0) (n := 15) (a := 1) (pc2 := 3) (h2 := [.inr (0, [.null, .null, .null, .null, .null, .null, .null, .null, .null, .null, .int 0, .int 0, .int 0, .int 0, .int 0])]) rfl rfl rfl (by decide) rfl rfl rfl ?_)
  refine sh_w (i := .dup) (len := 1) (pc2 := 4) (lv2 := [(0, .ref 0)]) (st2 := [.ref 1, .ref 1]) (h2 := [.inr (0, [.null, .null, .null, .null, .null, .null, .null, .null, .null, .null, .int 0, .int 0, .int 0, .int 0, .int 0])]) rfl rfl rfl ?_
  refine sh_To_le (v := sh_seq (sh_L sh_G0 1) (70, 100000, 20, 400) (79 + v.1, 400985 + v.2.1, 2045, 83000)) ⟨by show 70 + (79 + v.1) ≤ 149 + v.1; omega, by show 100000 + (400985 + v.2.1) ≤ 500985 + v.2.1; omega, Nat.max_le.mpr ⟨Nat.le_of_ble_eq_true rfl, Nat.le_refl _⟩, Nat.max_le.mpr ⟨Nat.le_of_ble_eq_true rfl, Nat.le_refl _⟩⟩ (sh_cN (k2 := 1) (a := 1) (as := [.ref 1]) (rest := [.ref 1]) (st2 := [.ref 1]) (r := none) (pc2 := 7) rfl rfl (by decide) rfl rfl ⟨Nat.le_of_ble_eq_true rfl, Nat.le_of_ble_eq_true rfl⟩ cA rfl rfl ?_)
  refine sh_w (i := (.astore_n 1)) (len := 1) (pc2 := 8) (lv2 := [(1, .ref 1), (0, .ref 0)]) (st2 := []) (h2 := hA) rfl rfl rfl ?_
  refine sh_To_le (v := (1 + (78 + v.1), 94 + (400891 + v.2.1), 2045, 83000)) ⟨by show 1 + (78 + v.1) ≤ 79 + v.1; omega, by show 94 + (400891 + v.2.1) ≤ 400985 + v.2.1; omega, Nat.le_refl _, Nat.le_refl _⟩ (sh_wnew (v := (78 + v.1, 400891 + v.2.1, 2045, 83000)) (h := hA) (idx := 24) (ci := 12) (n := 94) (a := 67) (pc2 := 11) rfl rfl rfl (by omega) (by omega) rfl rfl ?_)
  refine sh_w (i := .dup) (len := 1) (pc2 := 12) (lv2 := [(1, .ref 1), (0, .ref 0)]) (st2 := [.ref 67, .ref 67]) (h2 := (hA ++ [.inr (12, [.int 0, .null, .int 0, .int 0, .int 0, .int 0, .int 0, .int 0, .null, .null, .null, .int 0, .null, .null, .null, .null, .null, .null, .null, .null, .int 0, .int 0, .null, .null, .null, .null, .null, .null, .null, .null, .null, .int 0, .null, .null, .null, .null, .int 0, .int 0, .int 0, .int 0, .null, .int 0, .int 0, .int 0, .int 0, .int 0, .long 0, .null, .null, .null, .null, .null, .null, .int 0, .int 0, .int 0, .int 0, .int 0, .int 0, .int 0, .null, .null, .null, .null, .null, .null, .null, .null, .null, .null, .null, .null, .null, .int 0, .null, .null, .null, .null, .null, .int 0, .int 0, .null, .null, .null, .null, .int 0, .int 0, .int 0, .null, .null, .null, .int 0, .int 0, .int 0])])) rfl rfl rfl ?_
  refine sh_To_le (v := sh_seq (sh_L sh_G0 242) (70, 400000, 20, 400) (8 + v.1, 891 + v.2.1, 2045, 83000)) ⟨by show 70 + (8 + v.1) ≤ 78 + v.1; omega, by show 400000 + (891 + v.2.1) ≤ 400891 + v.2.1; omega, Nat.max_le.mpr ⟨Nat.le_of_ble_eq_true rfl, Nat.le_refl _⟩, Nat.max_le.mpr ⟨Nat.le_of_ble_eq_true rfl, Nat.le_refl _⟩⟩ (sh_cN (k2 := 242) (a := 67) (as := [.ref 67]) (rest := [.ref 67]) (st2 := [.ref 67]) (r := none) (pc2 := 15) rfl rfl (by decide) rfl rfl ⟨Nat.le_of_ble_eq_true rfl, Nat.le_of_ble_eq_true rfl⟩ cB rfl rfl ?_)
  refine sh_w (i := (.astore_n 2)) (len := 1) (pc2 := 16) (lv2 := [(2, .ref 67), (1, .ref 1), (0, .ref 0)]) (st2 := []) (h2 := hB) rfl rfl rfl ?_
  refine sh_w (i := (.iconst 1)) (len := 1) (pc2 := 17) (lv2 := [(2, .ref 67), (1, .ref 1), (0, .ref 0)]) (st2 := [.int 1]) (h2 := hB) rfl rfl rfl ?_
  refine sh_To_le (v := (1 + v.1, Int32.toNatClampNeg 1 + v.2.1, 2045, 83000)) ⟨by show 1 + v.1 ≤ 8 + v.1; omega, by show 1 + v.2.1 ≤ 891 + v.2.1; omega, Nat.le_refl _, Nat.le_refl _⟩ (sh_wna (v := (v.1, v.2.1, 2045, 83000)) (h := hB) (t := 2) (a := 125) (pc2 := 19) rfl rfl ⟨by decide, by decide, by omega⟩ (by omega) rfl rfl ?_)
  refine sh_w (i := (.astore_n 3)) (len := 1) (pc2 := 20) (lv2 := [(3, .ref 125), (2, .ref 67), (1, .ref 1), (0, .ref 0)]) (st2 := []) (h2 := (hB ++ [.inl (2, sh_new0 2 1)])) rfl rfl rfl ?_
  refine sh_w (i := (.iconst 0)) (len := 1) (pc2 := 21) (lv2 := [(3, .ref 125), (2, .ref 67), (1, .ref 1), (0, .ref 0)]) (st2 := [.int 0]) (h2 := (hB ++ [.inl (2, sh_new0 2 1)])) rfl rfl rfl ?_
  refine sh_w (i := (.istore 4)) (len := 2) (pc2 := 23) (lv2 := [(4, .int 0), (3, .ref 125), (2, .ref 67), (1, .ref 1), (0, .ref 0)]) (st2 := []) (h2 := (hB ++ [.inl (2, sh_new0 2 1)])) rfl rfl rfl ?_
  exact kk
/-- the law comes to its loop with the heap sh_rep sh_T0 sh_IX sh_JX -/
theorem so_begin0 (kk : sh_To sh_G0 sc 0 23 [(4, .int 0), (3, .ref 125), (2, .ref 67), (1, .ref 1), (0, .ref 0)] [] (sh_rep sh_T0 sh_IX sh_JX) o h3 (v.1, v.2.1, 2045, 83000)) : sh_To sh_G0 sc 0 0 [(0, .ref 0)] [] [] o h3 (150 + v.1, 501000 + v.2.1, 2045, 83000) := by
  have h := sh_rA_ok
  have h2 := sh_rB_ok
  simp only [Bool.and_eq_true, decide_eq_true_eq] at h h2
  refine so_begin h.1.2 h2.1.2 sh_cA sh_cB ?_
  have e : sh_hOf sh_rB ++ [.inl (2, sh_new0 2 1)] = sh_rep sh_T0 sh_IX sh_JX := sh_hX_rep
  rw [e]
  exact kk
/-- a cell of ints is 0 at its first n places -/
def so_z (h : sh_H) (a n : Nat) : Bool := match h[a]? with
  | some (.inl (_, _, .inl f)) => (List.range n).all (fun i => decide (f i = 0))
  | _ => false
theorem so_z_at {h : sh_H} {a n : Nat} (hz : so_z h a n = true) {i : Nat} (hi : i < n) : sh_Iof h a i = 0 := by
  unfold so_z at hz
  unfold sh_Iof
  split at hz
  · rename_i f e
    rw [e]
    exact of_decide_eq_true (List.all_eq_true.mp hz i (List.mem_range.mpr hi))
  · cases hz
set_option maxRecDepth 100000 in
theorem so_z0 : (so_z sh_hX 10 2 && so_z sh_hX 11 2 && so_z sh_hX 12 2 && so_z sh_hX 122 4000) = true := by decide +kernel
theorem so_z1 : so_z sh_hX 10 2 = true ∧ so_z sh_hX 11 2 = true ∧ so_z sh_hX 12 2 = true ∧ so_z sh_hX 122 4000 = true := by
  have h := so_z0
  simp only [Bool.and_eq_true] at h
  exact ⟨h.1.1.1, h.1.1.2, h.1.2, h.2⟩
theorem so_ex (T : List sh_Tg) (I : Nat → Nat → Int32) (J : Nat → Nat → Int64) (s : Nat) : ∃ m : sh_X, m.T = T ∧ m.I = I ∧ m.J = J ∧ m.s = s := ⟨(T, I, J, s), rfl, rfl, rfl, rfl⟩
theorem so_T0l : sh_T0.length = 125 := rfl
theorem so_DD0 : sh_DD sh_T0 := sh_DD.mk (T := sh_T0) (len := by rw [so_T0l]; omega) (st := sh_St0) (t2 := rfl) (a2_5 := rfl) (t9 := rfl) (a9_0 := rfl) (a9_1 := rfl) (a9_2 := rfl) (t58 := rfl) (a58_5 := rfl) (t61 := rfl) (a61_3 := rfl) (a61_4 := rfl)
theorem so_ga2 {i : Nat} (hi : i < 2) : sh_ga [(0, 0, 0), (0, 0, 0)] i = (0, 0, 0) := by
  rcases (show i = 0 ∨ i = 1 by omega) with h | h
  · subst h; rfl
  · subst h; rfl
theorem so_rf0 : sh_rf sh_T0 9 0 = 10 := rfl
theorem so_rf1 : sh_rf sh_T0 9 1 = 11 := rfl
theorem so_rf2 : sh_rf sh_T0 9 2 = 12 := rfl
theorem so_ln0 : sh_ln sh_T0 10 = 4096 := rfl
theorem so_ln1 : sh_ln sh_T0 11 = 4096 := rfl
theorem so_ln2 : sh_ln sh_T0 12 = 4096 := rfl
theorem so_ln4 : sh_ln sh_T0 64 = 0 := rfl
theorem so_ln5 : sh_ln sh_T0 65 = 0 := rfl
theorem so_t61 : sh_T0[61]? = some (sh_gb 64 65) := rfl
theorem so_t1 : sh_T0[1]? = some (.inl (1, 4000)) := rfl
theorem so_t46 : sh_T0[46]? = some (.inl (0, 65)) := rfl
theorem so_t59 : sh_T0[59]? = some (.inl (0, 4000)) := rfl
section M
variable {m : sh_X}
theorem so_zX (hI : m.I = sh_IX) {a n : Nat} (hz : so_z sh_hX a n = true) {i : Nat} (hi : i < n) : m.I a i = 0 := by
  rw [hI]
  unfold sh_IX
  exact so_z_at hz hi
theorem so_I0 (hI : m.I = sh_IX) (f : Nat) (hf : f < 15) : m.I 0 f = if f = 12 then -1 else 0 := by
  rw [hI]
  exact sh_IX0 f hf
theorem so_I66 (hI : m.I = sh_IX) (f : Nat) (hf : f < 94) : m.I 66 f = if f = 7 then -1 else 0 := by
  rw [hI]
  exact sh_IX66 f hf
theorem so_l0 (hT : m.T = sh_T0) : sj_l m = 4096 := by
  unfold sj_l
  rw [hT, so_rf0, so_ln0]
theorem so_Gv0 (hT : m.T = sh_T0) (hI : m.I = sh_IX) : sh_Gv [(0, 0, 0), (0, 0, 0)] 10 11 12 4096 (so_g 2 m) := by
  have T2 : (so_g 2 m).T = sh_T0 := hT
  refine sh_Gv.mk (ra := ?_) (rb := ?_) (rc := ?_) (la := ?_) (lb := ?_) (lc := ?_) (ab := by omega) (ac := by omega) (bc := by omega) (fa := ⟨Or.inl rfl, ?_⟩) (fb := ⟨Or.inl rfl, ?_⟩) (fc := ⟨Or.inl rfl, ?_⟩) (nT := ?_) (n0 := by omega) (n1 := by omega) (n5 := by omega) (tT := ?_) (le := ?_) (w := se_Is) (k := fun i hi => ?_) (l := fun i hi => ?_) (r := fun i hi => ?_) (wf := ⟨Nat.zero_le _, Or.inl ⟨rfl, rfl, Or.inr ⟨Nat.zero_lt_one, rfl, Or.inl rfl⟩⟩, Nat.zero_le _, Or.inl ⟨rfl, rfl, Or.inl ⟨rfl, rfl⟩⟩, trivial⟩)
  · rw [T2, so_rf0]
  · rw [T2, so_rf1]
  · rw [T2, so_rf2]
  · rw [T2, so_ln0]
  · rw [T2, so_ln1]
  · rw [T2, so_ln2]
  · rw [T2, so_T0l]; omega
  · rw [T2, so_T0l]; omega
  · rw [T2, so_T0l]; omega
  · rw [T2, so_T0l]; omega
  · rw [T2, so_T0l]; omega
  · show 2 ≤ 4096
    omega
  · rw [so_ga2 hi, so_gI (by omega)]
    exact so_zX hI so_z1.1 hi
  · rw [so_ga2 hi, so_gI (by omega)]
    exact so_zX hI so_z1.2.1 hi
  · rw [so_ga2 hi, so_gI (by omega)]
    exact so_zX hI so_z1.2.2.1 hi
theorem so_R0 (hT : m.T = sh_T0) (hI : m.I = sh_IX) (hs : m.s = 0) : so_R 0 m := by
  refine so_R.mk ⟨0, by omega, so_I0 hI 10 (by omega), so_I66 hI 2 (by omega), fun i hi => absurd hi (by omega), fun i hi => absurd hi (by omega)⟩ ⟨0, by omega, so_I0 hI 11 (by omega), so_I66 hI 80 (by omega)⟩ ((so_I0 hI 12 (by omega)).trans (so_I66 hI 7 (by omega)).symm) ((so_I0 hI 13 (by omega)).trans (so_I66 hI 4 (by omega)).symm) ((so_I0 hI 14 (by omega)).trans (so_I66 hI 5 (by omega)).symm) (Or.inl ⟨so_I66 hI 4 (by omega), [(0, 0, 0), (0, 0, 0)], 2, Nat.le_refl _, rfl, rfl, 10, 11, 12, 4096, so_Gv0 hT hI⟩) ⟨64, 65, sj_V.mk ?_ ?_ ?_ (by omega) ⟨Or.inl rfl, ?_⟩ ⟨Or.inl rfl, ?_⟩, ?_, ?_⟩ (fun w hw => Or.inl (so_zX hI so_z1.2.2.2 hw)) ?_ ?_ ?_ ?_
  · rw [hT]; exact so_t61
  · rw [hT, so_ln4, so_ln5]
  · rw [hT, so_ln4]; omega
  · rw [hT, so_T0l]; omega
  · rw [hT, so_T0l]; omega
  · rw [hT, so_ln4]; exact Or.inl rfl
  · rw [hs]; exact Nat.zero_le _
  · rw [hT]; exact so_t1
  · rw [hT]; exact so_t46
  · rw [hT]; exact so_t59
  · rw [so_l0 hT, hT, so_T0l]; omega
end M
end Start
