/-! calls, handlers, throws: gone on -/
theorem sh_code_kw (G : sh_G) (k : Nat) : sh_kw (sh_code G k) = true := by
  unfold sh_code
  split <;> rfl
def sh_ckM (k : Nat) : Bool := match sh_mP[k]? with
  | some z => decide (lw_tbl[z.2.1]? = some (.initialized (sh_Y sh_G0 k).cls)) && plainFor (sh_Y sh_G0 k) && decide ((sh_Y sh_G0 k).cls ≠ "java/lang/invoke/MethodHandle" ∧ (sh_Y sh_G0 k).cls ≠ "java/lang/invoke/VarHandle") && decide ((parseMethodDescriptor (sh_Y sh_G0 k).desc).map (fun d => d.parameters.length) = some (sh_P sh_G0 k)) && decide (sh_O sh_G0 k = (sh_Y sh_G0 k).cls)
  | none => false
set_option maxRecDepth 100000 in
theorem sh_ckM_0 : ((List.range 16).all (fun k => sh_ckM (k + 1))) = true := by decide +kernel
set_option maxRecDepth 100000 in
theorem sh_ckM_1 : ((List.range 16).all (fun k => sh_ckM (k + 17))) = true := by decide +kernel
set_option maxRecDepth 100000 in
theorem sh_ckM_2 : ((List.range 16).all (fun k => sh_ckM (k + 33))) = true := by decide +kernel
set_option maxRecDepth 100000 in
theorem sh_ckM_3 : ((List.range 16).all (fun k => sh_ckM (k + 49))) = true := by decide +kernel
set_option maxRecDepth 100000 in
theorem sh_ckM_4 : ((List.range 16).all (fun k => sh_ckM (k + 65))) = true := by decide +kernel
set_option maxRecDepth 100000 in
theorem sh_ckM_5 : ((List.range 16).all (fun k => sh_ckM (k + 81))) = true := by decide +kernel
set_option maxRecDepth 100000 in
theorem sh_ckM_6 : ((List.range 16).all (fun k => sh_ckM (k + 97))) = true := by decide +kernel
set_option maxRecDepth 100000 in
theorem sh_ckM_7 : ((List.range 16).all (fun k => sh_ckM (k + 113))) = true := by decide +kernel
set_option maxRecDepth 100000 in
theorem sh_ckM_8 : ((List.range 16).all (fun k => sh_ckM (k + 129))) = true := by decide +kernel
set_option maxRecDepth 100000 in
theorem sh_ckM_9 : ((List.range 16).all (fun k => sh_ckM (k + 145))) = true := by decide +kernel
set_option maxRecDepth 100000 in
theorem sh_ckM_10 : ((List.range 16).all (fun k => sh_ckM (k + 161))) = true := by decide +kernel
set_option maxRecDepth 100000 in
theorem sh_ckM_11 : ((List.range 16).all (fun k => sh_ckM (k + 177))) = true := by decide +kernel
set_option maxRecDepth 100000 in
theorem sh_ckM_12 : ((List.range 16).all (fun k => sh_ckM (k + 193))) = true := by decide +kernel
set_option maxRecDepth 100000 in
theorem sh_ckM_13 : ((List.range 16).all (fun k => sh_ckM (k + 209))) = true := by decide +kernel
set_option maxRecDepth 100000 in
theorem sh_ckM_14 : ((List.range 16).all (fun k => sh_ckM (k + 225))) = true := by decide +kernel
set_option maxRecDepth 100000 in
theorem sh_ckM_15 : ((List.range 16).all (fun k => sh_ckM (k + 241))) = true := by decide +kernel
set_option maxRecDepth 100000 in
theorem sh_ckM_16 : ((List.range 16).all (fun k => sh_ckM (k + 257))) = true := by decide +kernel
set_option maxRecDepth 100000 in
theorem sh_ckM_17 : ((List.range 16).all (fun k => sh_ckM (k + 273))) = true := by decide +kernel
set_option maxRecDepth 100000 in
theorem sh_ckM_18 : ((List.range 16).all (fun k => sh_ckM (k + 289))) = true := by decide +kernel
set_option maxRecDepth 100000 in
theorem sh_ckM_19 : ((List.range 16).all (fun k => sh_ckM (k + 305))) = true := by decide +kernel
set_option maxRecDepth 100000 in
theorem sh_ckM_20 : ((List.range 16).all (fun k => sh_ckM (k + 321))) = true := by decide +kernel
set_option maxRecDepth 100000 in
theorem sh_ckM_21 : ((List.range 4).all (fun k => sh_ckM (k + 337))) = true := by decide +kernel
theorem sh_ckM_at (k : Nat) (h1 : 1 ≤ k) (h2 : k < 341) : sh_ckM k = true := by
  rcases Nat.lt_or_ge k 17 with h | h
  · have h3 := List.all_eq_true.mp sh_ckM_0 (k - 1) (List.mem_range.mpr (by omega))
    rw [show k - 1 + 1 = k by omega] at h3
    exact h3
  rcases Nat.lt_or_ge k 33 with h | h
  · have h3 := List.all_eq_true.mp sh_ckM_1 (k - 17) (List.mem_range.mpr (by omega))
    rw [show k - 17 + 17 = k by omega] at h3
    exact h3
  rcases Nat.lt_or_ge k 49 with h | h
  · have h3 := List.all_eq_true.mp sh_ckM_2 (k - 33) (List.mem_range.mpr (by omega))
    rw [show k - 33 + 33 = k by omega] at h3
    exact h3
  rcases Nat.lt_or_ge k 65 with h | h
  · have h3 := List.all_eq_true.mp sh_ckM_3 (k - 49) (List.mem_range.mpr (by omega))
    rw [show k - 49 + 49 = k by omega] at h3
    exact h3
  rcases Nat.lt_or_ge k 81 with h | h
  · have h3 := List.all_eq_true.mp sh_ckM_4 (k - 65) (List.mem_range.mpr (by omega))
    rw [show k - 65 + 65 = k by omega] at h3
    exact h3
  rcases Nat.lt_or_ge k 97 with h | h
  · have h3 := List.all_eq_true.mp sh_ckM_5 (k - 81) (List.mem_range.mpr (by omega))
    rw [show k - 81 + 81 = k by omega] at h3
    exact h3
  rcases Nat.lt_or_ge k 113 with h | h
  · have h3 := List.all_eq_true.mp sh_ckM_6 (k - 97) (List.mem_range.mpr (by omega))
    rw [show k - 97 + 97 = k by omega] at h3
    exact h3
  rcases Nat.lt_or_ge k 129 with h | h
  · have h3 := List.all_eq_true.mp sh_ckM_7 (k - 113) (List.mem_range.mpr (by omega))
    rw [show k - 113 + 113 = k by omega] at h3
    exact h3
  rcases Nat.lt_or_ge k 145 with h | h
  · have h3 := List.all_eq_true.mp sh_ckM_8 (k - 129) (List.mem_range.mpr (by omega))
    rw [show k - 129 + 129 = k by omega] at h3
    exact h3
  rcases Nat.lt_or_ge k 161 with h | h
  · have h3 := List.all_eq_true.mp sh_ckM_9 (k - 145) (List.mem_range.mpr (by omega))
    rw [show k - 145 + 145 = k by omega] at h3
    exact h3
  rcases Nat.lt_or_ge k 177 with h | h
  · have h3 := List.all_eq_true.mp sh_ckM_10 (k - 161) (List.mem_range.mpr (by omega))
    rw [show k - 161 + 161 = k by omega] at h3
    exact h3
  rcases Nat.lt_or_ge k 193 with h | h
  · have h3 := List.all_eq_true.mp sh_ckM_11 (k - 177) (List.mem_range.mpr (by omega))
    rw [show k - 177 + 177 = k by omega] at h3
    exact h3
  rcases Nat.lt_or_ge k 209 with h | h
  · have h3 := List.all_eq_true.mp sh_ckM_12 (k - 193) (List.mem_range.mpr (by omega))
    rw [show k - 193 + 193 = k by omega] at h3
    exact h3
  rcases Nat.lt_or_ge k 225 with h | h
  · have h3 := List.all_eq_true.mp sh_ckM_13 (k - 209) (List.mem_range.mpr (by omega))
    rw [show k - 209 + 209 = k by omega] at h3
    exact h3
  rcases Nat.lt_or_ge k 241 with h | h
  · have h3 := List.all_eq_true.mp sh_ckM_14 (k - 225) (List.mem_range.mpr (by omega))
    rw [show k - 225 + 225 = k by omega] at h3
    exact h3
  rcases Nat.lt_or_ge k 257 with h | h
  · have h3 := List.all_eq_true.mp sh_ckM_15 (k - 241) (List.mem_range.mpr (by omega))
    rw [show k - 241 + 241 = k by omega] at h3
    exact h3
  rcases Nat.lt_or_ge k 273 with h | h
  · have h3 := List.all_eq_true.mp sh_ckM_16 (k - 257) (List.mem_range.mpr (by omega))
    rw [show k - 257 + 257 = k by omega] at h3
    exact h3
  rcases Nat.lt_or_ge k 289 with h | h
  · have h3 := List.all_eq_true.mp sh_ckM_17 (k - 273) (List.mem_range.mpr (by omega))
    rw [show k - 273 + 273 = k by omega] at h3
    exact h3
  rcases Nat.lt_or_ge k 305 with h | h
  · have h3 := List.all_eq_true.mp sh_ckM_18 (k - 289) (List.mem_range.mpr (by omega))
    rw [show k - 289 + 289 = k by omega] at h3
    exact h3
  rcases Nat.lt_or_ge k 321 with h | h
  · have h3 := List.all_eq_true.mp sh_ckM_19 (k - 305) (List.mem_range.mpr (by omega))
    rw [show k - 305 + 305 = k by omega] at h3
    exact h3
  rcases Nat.lt_or_ge k 337 with h | h
  · have h3 := List.all_eq_true.mp sh_ckM_20 (k - 321) (List.mem_range.mpr (by omega))
    rw [show k - 321 + 321 = k by omega] at h3
    exact h3
  have h3 := List.all_eq_true.mp sh_ckM_21 (k - 337) (List.mem_range.mpr (by omega))
  rw [show k - 337 + 337 = k by omega] at h3
  exact h3
theorem sh_okm0 (k : Nat) (h1 : 1 ≤ k) (h2 : k < 341) : sh_okm sh_G0 k := by
  have hc := sh_ckM_at k h1 h2
  unfold sh_ckM at hc
  split at hc
  · simp only [Bool.and_eq_true, decide_eq_true_eq] at hc
    obtain ⟨⟨⟨⟨c3, c4⟩, c5⟩, c6⟩, c7⟩ := hc
    exact ⟨List.mem_filter.mpr ⟨sh_cwA k h1 h2, sh_code_kw _ k⟩, sh_memT c3 rfl, c4, c5, c6, c7⟩
  · cases hc
def sh_ckC (o : Nat) (e : Nat × Nat × Nat × Nat) : Bool := match sh_mP[e.2.2.2]? with
  | some z => (bif e.2.2.1 == 3 then decide (lw_tbl[e.2.1]? = some (.methodLink (sh_own.getD o "") e.1 Lib.objectInit)) else
      (decide (1 ≤ e.2.2.2) && decide (e.2.2.2 < 341) &&
        (bif (e.2.2.1 == 5 || e.2.2.1 == 6) then decide (lw_tbl[e.2.1]? = some (.methodLinkNest (sh_own.getD o "") e.1 (sh_Y sh_G0 e.2.2.2) "SecretHouse")) else decide (lw_tbl[e.2.1]? = some (.methodLink (sh_own.getD o "") e.1 (sh_Y sh_G0 e.2.2.2)))) &&
        (bif (e.2.2.1 == 1 || e.2.2.1 == 6) then decide (lw_tbl[z.2.2.1]? = some (.static (sh_Y sh_G0 e.2.2.2))) else decide (lw_tbl[z.2.2.1]? = some (.instanceMethod (sh_Y sh_G0 e.2.2.2)))) &&
        (bif e.2.2.1 == 0 then decide (lw_tbl[z.2.2.2]? = some (.selects (sh_Y sh_G0 e.2.2.2).cls (sh_Y sh_G0 e.2.2.2) (sh_Y sh_G0 e.2.2.2))) else true) &&
        (bif (e.2.2.1 == 2 || e.2.2.1 == 5) then decide ((sh_Y sh_G0 e.2.2.2).name = "<init>") && decide (sh_Hd sh_G0 e.2.2.2 = []) && decide (sh_R sh_G0 e.2.2.2 = none) else true)))
  | none => false
set_option maxRecDepth 100000 in
theorem sh_ckC_0_0 : (((sh_cT.getD 0 []).drop 0).take 24).all (sh_ckC 0) = true := by decide +kernel
set_option maxRecDepth 100000 in
theorem sh_ckC_0_1 : (((sh_cT.getD 0 []).drop 24).take 4).all (sh_ckC 0) = true := by decide +kernel
theorem sh_ckC_0 : ((sh_cT.getD 0 []).all (sh_ckC 0)) = true := by
  rw [show sh_cT.getD 0 [] = ((sh_cT.getD 0 []).drop 0).take 24 ++ (((sh_cT.getD 0 []).drop 24).take 4) from rfl]
  simp only [List.all_append, Bool.and_eq_true]
  exact ⟨sh_ckC_0_0, sh_ckC_0_1⟩
set_option maxRecDepth 100000 in
theorem sh_ckC_1_0 : (((sh_cT.getD 1 []).drop 0).take 23).all (sh_ckC 1) = true := by decide +kernel
theorem sh_ckC_1 : ((sh_cT.getD 1 []).all (sh_ckC 1)) = true := by
  rw [show sh_cT.getD 1 [] = ((sh_cT.getD 1 []).drop 0).take 23 from rfl]
  simp only [List.all_append, Bool.and_eq_true]
  exact sh_ckC_1_0
set_option maxRecDepth 100000 in
theorem sh_ckC_2_0 : (((sh_cT.getD 2 []).drop 0).take 20).all (sh_ckC 2) = true := by decide +kernel
theorem sh_ckC_2 : ((sh_cT.getD 2 []).all (sh_ckC 2)) = true := by
  rw [show sh_cT.getD 2 [] = ((sh_cT.getD 2 []).drop 0).take 20 from rfl]
  simp only [List.all_append, Bool.and_eq_true]
  exact sh_ckC_2_0
set_option maxRecDepth 100000 in
theorem sh_ckC_3_0 : (((sh_cT.getD 3 []).drop 0).take 7).all (sh_ckC 3) = true := by decide +kernel
theorem sh_ckC_3 : ((sh_cT.getD 3 []).all (sh_ckC 3)) = true := by
  rw [show sh_cT.getD 3 [] = ((sh_cT.getD 3 []).drop 0).take 7 from rfl]
  simp only [List.all_append, Bool.and_eq_true]
  exact sh_ckC_3_0
set_option maxRecDepth 100000 in
theorem sh_ckC_4_0 : (((sh_cT.getD 4 []).drop 0).take 2).all (sh_ckC 4) = true := by decide +kernel
theorem sh_ckC_4 : ((sh_cT.getD 4 []).all (sh_ckC 4)) = true := by
  rw [show sh_cT.getD 4 [] = ((sh_cT.getD 4 []).drop 0).take 2 from rfl]
  simp only [List.all_append, Bool.and_eq_true]
  exact sh_ckC_4_0
set_option maxRecDepth 100000 in
theorem sh_ckC_5_0 : (((sh_cT.getD 5 []).drop 0).take 2).all (sh_ckC 5) = true := by decide +kernel
theorem sh_ckC_5 : ((sh_cT.getD 5 []).all (sh_ckC 5)) = true := by
  rw [show sh_cT.getD 5 [] = ((sh_cT.getD 5 []).drop 0).take 2 from rfl]
  simp only [List.all_append, Bool.and_eq_true]
  exact sh_ckC_5_0
set_option maxRecDepth 100000 in
theorem sh_ckC_6_0 : (((sh_cT.getD 6 []).drop 0).take 24).all (sh_ckC 6) = true := by decide +kernel
set_option maxRecDepth 100000 in
theorem sh_ckC_6_1 : (((sh_cT.getD 6 []).drop 24).take 10).all (sh_ckC 6) = true := by decide +kernel
theorem sh_ckC_6 : ((sh_cT.getD 6 []).all (sh_ckC 6)) = true := by
  rw [show sh_cT.getD 6 [] = ((sh_cT.getD 6 []).drop 0).take 24 ++ (((sh_cT.getD 6 []).drop 24).take 10) from rfl]
  simp only [List.all_append, Bool.and_eq_true]
  exact ⟨sh_ckC_6_0, sh_ckC_6_1⟩
set_option maxRecDepth 100000 in
theorem sh_ckC_7_0 : (((sh_cT.getD 7 []).drop 0).take 24).all (sh_ckC 7) = true := by decide +kernel
set_option maxRecDepth 100000 in
theorem sh_ckC_7_1 : (((sh_cT.getD 7 []).drop 24).take 24).all (sh_ckC 7) = true := by decide +kernel
set_option maxRecDepth 100000 in
theorem sh_ckC_7_2 : (((sh_cT.getD 7 []).drop 48).take 24).all (sh_ckC 7) = true := by decide +kernel
set_option maxRecDepth 100000 in
theorem sh_ckC_7_3 : (((sh_cT.getD 7 []).drop 72).take 24).all (sh_ckC 7) = true := by decide +kernel
set_option maxRecDepth 100000 in
theorem sh_ckC_7_4 : (((sh_cT.getD 7 []).drop 96).take 12).all (sh_ckC 7) = true := by decide +kernel
theorem sh_ckC_7 : ((sh_cT.getD 7 []).all (sh_ckC 7)) = true := by
  rw [show sh_cT.getD 7 [] = ((sh_cT.getD 7 []).drop 0).take 24 ++ (((sh_cT.getD 7 []).drop 24).take 24 ++ (((sh_cT.getD 7 []).drop 48).take 24 ++ (((sh_cT.getD 7 []).drop 72).take 24 ++ (((sh_cT.getD 7 []).drop 96).take 12)))) from rfl]
  simp only [List.all_append, Bool.and_eq_true]
  exact ⟨sh_ckC_7_0, ⟨sh_ckC_7_1, ⟨sh_ckC_7_2, ⟨sh_ckC_7_3, sh_ckC_7_4⟩⟩⟩⟩
set_option maxRecDepth 100000 in
theorem sh_ckC_8_0 : (((sh_cT.getD 8 []).drop 0).take 24).all (sh_ckC 8) = true := by decide +kernel
set_option maxRecDepth 100000 in
theorem sh_ckC_8_1 : (((sh_cT.getD 8 []).drop 24).take 9).all (sh_ckC 8) = true := by decide +kernel
theorem sh_ckC_8 : ((sh_cT.getD 8 []).all (sh_ckC 8)) = true := by
  rw [show sh_cT.getD 8 [] = ((sh_cT.getD 8 []).drop 0).take 24 ++ (((sh_cT.getD 8 []).drop 24).take 9) from rfl]
  simp only [List.all_append, Bool.and_eq_true]
  exact ⟨sh_ckC_8_0, sh_ckC_8_1⟩
set_option maxRecDepth 100000 in
theorem sh_ckC_9_0 : (((sh_cT.getD 9 []).drop 0).take 8).all (sh_ckC 9) = true := by decide +kernel
theorem sh_ckC_9 : ((sh_cT.getD 9 []).all (sh_ckC 9)) = true := by
  rw [show sh_cT.getD 9 [] = ((sh_cT.getD 9 []).drop 0).take 8 from rfl]
  simp only [List.all_append, Bool.and_eq_true]
  exact sh_ckC_9_0
set_option maxRecDepth 100000 in
theorem sh_ckC_10_0 : (((sh_cT.getD 10 []).drop 0).take 4).all (sh_ckC 10) = true := by decide +kernel
theorem sh_ckC_10 : ((sh_cT.getD 10 []).all (sh_ckC 10)) = true := by
  rw [show sh_cT.getD 10 [] = ((sh_cT.getD 10 []).drop 0).take 4 from rfl]
  simp only [List.all_append, Bool.and_eq_true]
  exact sh_ckC_10_0
set_option maxRecDepth 100000 in
theorem sh_ckC_11_0 : (((sh_cT.getD 11 []).drop 0).take 23).all (sh_ckC 11) = true := by decide +kernel
theorem sh_ckC_11 : ((sh_cT.getD 11 []).all (sh_ckC 11)) = true := by
  rw [show sh_cT.getD 11 [] = ((sh_cT.getD 11 []).drop 0).take 23 from rfl]
  simp only [List.all_append, Bool.and_eq_true]
  exact sh_ckC_11_0
set_option maxRecDepth 100000 in
theorem sh_ckC_12_0 : (((sh_cT.getD 12 []).drop 0).take 15).all (sh_ckC 12) = true := by decide +kernel
theorem sh_ckC_12 : ((sh_cT.getD 12 []).all (sh_ckC 12)) = true := by
  rw [show sh_cT.getD 12 [] = ((sh_cT.getD 12 []).drop 0).take 15 from rfl]
  simp only [List.all_append, Bool.and_eq_true]
  exact sh_ckC_12_0
set_option maxRecDepth 100000 in
theorem sh_ckC_13_0 : (((sh_cT.getD 13 []).drop 0).take 24).all (sh_ckC 13) = true := by decide +kernel
set_option maxRecDepth 100000 in
theorem sh_ckC_13_1 : (((sh_cT.getD 13 []).drop 24).take 24).all (sh_ckC 13) = true := by decide +kernel
set_option maxRecDepth 100000 in
theorem sh_ckC_13_2 : (((sh_cT.getD 13 []).drop 48).take 24).all (sh_ckC 13) = true := by decide +kernel
set_option maxRecDepth 100000 in
theorem sh_ckC_13_3 : (((sh_cT.getD 13 []).drop 72).take 15).all (sh_ckC 13) = true := by decide +kernel
theorem sh_ckC_13 : ((sh_cT.getD 13 []).all (sh_ckC 13)) = true := by
  rw [show sh_cT.getD 13 [] = ((sh_cT.getD 13 []).drop 0).take 24 ++ (((sh_cT.getD 13 []).drop 24).take 24 ++ (((sh_cT.getD 13 []).drop 48).take 24 ++ (((sh_cT.getD 13 []).drop 72).take 15))) from rfl]
  simp only [List.all_append, Bool.and_eq_true]
  exact ⟨sh_ckC_13_0, ⟨sh_ckC_13_1, ⟨sh_ckC_13_2, sh_ckC_13_3⟩⟩⟩
theorem sh_ckC_14 : ((sh_cT.getD 14 []).all (sh_ckC 14)) = true := by
  rfl
set_option maxRecDepth 100000 in
theorem sh_ckC_15_0 : (((sh_cT.getD 15 []).drop 0).take 1).all (sh_ckC 15) = true := by decide +kernel
theorem sh_ckC_15 : ((sh_cT.getD 15 []).all (sh_ckC 15)) = true := by
  rw [show sh_cT.getD 15 [] = ((sh_cT.getD 15 []).drop 0).take 1 from rfl]
  simp only [List.all_append, Bool.and_eq_true]
  exact sh_ckC_15_0
theorem sh_ckC_at {o : Nat} {e : Nat × Nat × Nat × Nat} (hm : e ∈ sh_cT.getD o []) : o < 16 ∧ sh_ckC o e = true := by
  match o, hm with
  | 0, hm => exact ⟨by decide, List.all_eq_true.mp sh_ckC_0 e hm⟩
  | 1, hm => exact ⟨by decide, List.all_eq_true.mp sh_ckC_1 e hm⟩
  | 2, hm => exact ⟨by decide, List.all_eq_true.mp sh_ckC_2 e hm⟩
  | 3, hm => exact ⟨by decide, List.all_eq_true.mp sh_ckC_3 e hm⟩
  | 4, hm => exact ⟨by decide, List.all_eq_true.mp sh_ckC_4 e hm⟩
  | 5, hm => exact ⟨by decide, List.all_eq_true.mp sh_ckC_5 e hm⟩
  | 6, hm => exact ⟨by decide, List.all_eq_true.mp sh_ckC_6 e hm⟩
  | 7, hm => exact ⟨by decide, List.all_eq_true.mp sh_ckC_7 e hm⟩
  | 8, hm => exact ⟨by decide, List.all_eq_true.mp sh_ckC_8 e hm⟩
  | 9, hm => exact ⟨by decide, List.all_eq_true.mp sh_ckC_9 e hm⟩
  | 10, hm => exact ⟨by decide, List.all_eq_true.mp sh_ckC_10 e hm⟩
  | 11, hm => exact ⟨by decide, List.all_eq_true.mp sh_ckC_11 e hm⟩
  | 12, hm => exact ⟨by decide, List.all_eq_true.mp sh_ckC_12 e hm⟩
  | 13, hm => exact ⟨by decide, List.all_eq_true.mp sh_ckC_13 e hm⟩
  | 14, hm => exact ⟨by decide, List.all_eq_true.mp sh_ckC_14 e hm⟩
  | 15, hm => exact ⟨by decide, List.all_eq_true.mp sh_ckC_15 e hm⟩
  | n + 16, hm => cases hm
set_option maxRecDepth 100000 in
theorem sh_obI : lw_tbl[231]? = some (.instanceMethod Lib.objectInit) := by decide +kernel
set_option maxRecDepth 100000 in
theorem sh_obC : lw_tbl[232]? = some (.code Lib.objectInit ⟨#[0xb1]⟩ 1 none) := by decide +kernel
theorem sh_ok7 (k idx k2 : Nat) (h : sh_gC sh_G0 (sh_On sh_G0 k) idx = some (3, k2)) : Cond.methodLink (sh_O sh_G0 k) idx Lib.objectInit ∈ sh_T sh_G0 ∧ Cond.instanceMethod Lib.objectInit ∈ sh_T sh_G0 ∧ Cond.code Lib.objectInit ⟨#[0xb1]⟩ 1 none ∈ sh_T sh_G0 := by
  obtain ⟨p, hm⟩ := sh_look_mem (t := sh_cT) h
  obtain ⟨ho, hc⟩ := sh_ckC_at hm
  rw [sh_own_k ho]
  unfold sh_ckC at hc
  split at hc
  · exact ⟨sh_memT (of_decide_eq_true hc) rfl, sh_memT sh_obI rfl, sh_memT sh_obC rfl⟩
  · cases hc
set_option maxRecDepth 100000 in
theorem sh_ob0 : lw_tbl[276]? = some (.arrayClass (sh_ty 0)) := by decide +kernel
set_option maxRecDepth 100000 in
theorem sh_ob1 : lw_tbl[275]? = some (.arrayClass (sh_ty 1)) := by decide +kernel
set_option maxRecDepth 100000 in
theorem sh_ob2 : lw_tbl[277]? = some (.arrayClass (sh_ty 2)) := by decide +kernel
set_option maxRecDepth 100000 in
theorem sh_ob3 : lw_tbl[2104]? = some (.arrayClass (sh_ty 3)) := by decide +kernel
theorem sh_ok6 (t : Nat) (h : t < 4) : Cond.arrayClass (sh_ty t) ∈ sh_T sh_G0 := by
  match t, h with
  | 0, _ => exact sh_memT sh_ob0 rfl
  | 1, _ => exact sh_memT sh_ob1 rfl
  | 2, _ => exact sh_memT sh_ob2 rfl
  | 3, _ => exact sh_memT sh_ob3 rfl
theorem sh_ok0 : sh_ok sh_G0 := ⟨sh_ok1, sh_ok2, sh_ok3, sh_ok4, sh_ok5, sh_ok6, sh_ok7⟩
def sh_ckH (o : Nat) (e : Nat × Nat × Nat) : Bool := match sh_cl0[e.2.2]? with
  | some q => decide (e.1 ≠ 0) && decide (lw_tbl[e.2.1]? = some (.classLink (sh_own.getD o "") e.1 q.1))
  | none => false
set_option maxRecDepth 100000 in
theorem sh_ckH_all : ((List.range sh_hT.length).all (fun o => (sh_hT.getD o []).all (sh_ckH o))) = true := by decide +kernel
def sh_exN : List String := ["java/lang/RuntimeException", "java/lang/Exception"]
def sh_ckX (o : Nat) (e : Nat × Nat × Nat × Nat) : Bool := match sh_cl0[e.2.2.1]?, sh_clP[e.2.2.1]? with
  | some q, some z => decide (q.2.2 = 0) && Bundle.fit q.1 && decide (lw_tbl[e.2.1]? = some (.classLink (sh_own.getD o "") e.1 q.1)) && decide (lw_tbl[z.2]? = some (.initialized q.1)) && (Bundle.ownAtoms0 (sh_own.getD o "") e.2.2.2 q.1 sh_exN).all (fun w => (decide (w ∈ lw_tbl) && sh_kw w) || decide (w ∈ sh_thW))
  | _, _ => false
set_option maxRecDepth 100000 in
theorem sh_ckX_all : ((List.range sh_xT.length).all (fun o => (sh_xT.getD o []).all (sh_ckX o))) = true := by decide +kernel
theorem sh_exF : ∀ n ∈ sh_exN, Bundle.fit n = true := by decide +kernel
theorem sh_okx (k idx ci ic : Nat) (h : sh_gX sh_G0 (sh_On sh_G0 k) idx = some (ci, ic)) : ∃ (C : String) (T : u_T) (names : List String), (sh_cl sh_G0)[ci]? = some (C, T, 0) ∧ names.length ≤ 2 ∧ Bundle.fit C = true ∧ (∀ n ∈ names, Bundle.fit n = true) ∧ Cond.classLink (sh_O sh_G0 k) idx C ∈ sh_T sh_G0 ∧ Cond.initialized C ∈ sh_T sh_G0 ∧ ∀ w ∈ Bundle.ownAtoms0 (sh_O sh_G0 k) ic C names, w ∈ sh_T sh_G0 ∨ w ∈ sh_thW := by
  obtain ⟨p, hm⟩ := sh_look_mem (t := sh_xT) h
  obtain ⟨ho, hc⟩ := sh_all_at sh_ckX_all hm
  rw [sh_own_k ho]
  unfold sh_ckX at hc
  dsimp only at hc
  split at hc
  · rename_i q z hq hz
    obtain ⟨C, T, N⟩ := q
    simp only [Bool.and_eq_true, decide_eq_true_eq] at hc
    obtain ⟨⟨⟨⟨c1, c2⟩, c3⟩, c4⟩, c5⟩ := hc
    subst c1
    refine ⟨C, T, sh_exN, hq, by decide, c2, sh_exF, sh_memT c3 rfl, sh_memT c4 rfl, fun w hw => ?_⟩
    have h9 := List.all_eq_true.mp c5 w hw
    simp only [Bool.or_eq_true, Bool.and_eq_true, decide_eq_true_eq] at h9
    rcases h9 with ⟨h9, h10⟩ | h9
    · exact Or.inl (List.mem_filter.mpr ⟨h9, h10⟩)
    · exact Or.inr h9
  · cases hc
theorem sh_okh (k ct cj : Nat) (h : sh_gH sh_G0 (sh_On sh_G0 k) ct = some cj) : ct ≠ 0 ∧ ∃ C T N, (sh_cl sh_G0)[cj]? = some (C, T, N) ∧ Cond.classLink (sh_O sh_G0 k) ct C ∈ sh_T sh_G0 := by
  obtain ⟨p, hm⟩ := sh_look_mem (t := sh_hT) h
  obtain ⟨ho, hc⟩ := sh_all_at sh_ckH_all hm
  rw [sh_own_k ho]
  unfold sh_ckH at hc
  dsimp only at hc
  split at hc
  · rename_i q hq
    obtain ⟨C, T, N⟩ := q
    simp only [Bool.and_eq_true, decide_eq_true_eq] at hc
    exact ⟨hc.1, C, T, N, hq, sh_memT hc.2 rfl⟩
  · cases hc
theorem sh_okc0 : sh_okc sh_G0 := by
  refine ⟨fun w hw => (List.mem_filter.mp hw).2, ?_, ?_, ?_, sh_okh, sh_okx, sh_okI⟩
  · intro k idx k2 h
    obtain ⟨p, hm⟩ := sh_look_mem (t := sh_cT) h
    obtain ⟨ho, hc⟩ := sh_ckC_at hm
    rw [sh_own_k ho]
    unfold sh_ckC at hc
    split at hc
    · simp only [Bool.and_eq_true, decide_eq_true_eq, beq_iff_eq, cond_eq_ite] at hc
      simp at hc
      obtain ⟨⟨⟨⟨c1, c2⟩, c3⟩, c4⟩, c5⟩ := hc
      exact ⟨sh_okm0 k2 (by omega) c2, sh_memT c3 rfl, sh_memT c4 rfl, sh_memT c5 rfl⟩
    · cases hc
  · intro k idx kd k2 h hkd
    obtain ⟨p, hm⟩ := sh_look_mem (t := sh_cT) h
    obtain ⟨ho, hc⟩ := sh_ckC_at hm
    rw [sh_own_k ho]
    unfold sh_ckC at hc
    split at hc
    · rcases hkd with rfl | rfl
      · simp at hc
        obtain ⟨⟨⟨c1, c2⟩, c3⟩, c4⟩ := hc
        exact ⟨sh_okm0 k2 (by omega) c2, sh_memT c4 rfl, fun _ => sh_memT c3 rfl, fun h9 => absurd h9 (by decide)⟩
      · simp at hc
        obtain ⟨⟨⟨c1, c2⟩, c3⟩, c4⟩ := hc
        exact ⟨sh_okm0 k2 (by omega) c2, sh_memT c4 rfl, fun h9 => absurd h9 (by decide), fun _ => ⟨_, sh_memT c3 rfl⟩⟩
    · cases hc
  · intro k idx kd k2 h hkd
    obtain ⟨p, hm⟩ := sh_look_mem (t := sh_cT) h
    obtain ⟨ho, hc⟩ := sh_ckC_at hm
    rw [sh_own_k ho]
    unfold sh_ckC at hc
    split at hc
    · rcases hkd with rfl | rfl
      · simp at hc
        obtain ⟨⟨⟨⟨c1, c2⟩, c3⟩, c4⟩, ⟨c5, c6⟩, c7⟩ := hc
        exact ⟨sh_okm0 k2 (by omega) c2, sh_memT c4 rfl, c5, c6, c7, fun _ => sh_memT c3 rfl, fun h9 => absurd h9 (by decide)⟩
      · simp at hc
        obtain ⟨⟨⟨⟨c1, c2⟩, c3⟩, c4⟩, ⟨c5, c6⟩, c7⟩ := hc
        exact ⟨sh_okm0 k2 (by omega) c2, sh_memT c4 rfl, c5, c6, c7, fun h9 => absurd h9 (by decide), fun _ => ⟨_, sh_memT c3 rfl⟩⟩
    · cases hc
