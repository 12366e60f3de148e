/-! gone on: calls -/
def sh_ckC (o : Nat) (e : Nat × Nat × Nat × Nat) : Bool := match sh_mP[e.2.2.2]? with
  | some z => (bif e.2.2.1 == 3 then decide (lw_tbl[e.2.1]? = some (.methodLink (sh_own.getD o "") e.1 Lib.objectInit)) else bif e.2.2.1 == 8 then decide (lw_tbl[e.2.1]? = some (.methodLink (sh_own.getD o "") e.1 arraycopyName)) else
      (decide (1 ≤ e.2.2.2) && decide (e.2.2.2 < 353) &&
        (bif (e.2.2.1 == 5 || e.2.2.1 == 6) then decide (lw_tbl[e.2.1]? = some (.methodLinkNest (sh_own.getD o "") e.1 (sh_Y sh_G0 e.2.2.2) "SecretHouse")) else decide (lw_tbl[e.2.1]? = some (.methodLink (sh_own.getD o "") e.1 (sh_Y sh_G0 e.2.2.2)))) &&
        (bif (e.2.2.1 == 1 || e.2.2.1 == 6) then decide (lw_tbl[z.2.2.1]? = some (.static (sh_Y sh_G0 e.2.2.2))) else decide (lw_tbl[z.2.2.1]? = some (.instanceMethod (sh_Y sh_G0 e.2.2.2)))) &&
        (bif (e.2.2.1 == 0 || e.2.2.1 == 7) then decide (lw_tbl[z.2.2.2]? = some (.selects (sh_Y sh_G0 e.2.2.2).cls (sh_Y sh_G0 e.2.2.2) (sh_Y sh_G0 e.2.2.2))) else true) &&
        (bif (e.2.2.1 == 2 || e.2.2.1 == 5) then decide ((sh_Y sh_G0 e.2.2.2).name = "<init>") && decide (sh_Hd sh_G0 e.2.2.2 = []) && decide (sh_R sh_G0 e.2.2.2 = none) else true)))
  | none => false
set_option maxRecDepth 100000 in
theorem sh_ckC_0_0 : (((sh_cT.getD 0 []).drop 0).take 24).all (sh_ckC 0) = true := by decide +kernel
set_option maxRecDepth 100000 in
theorem sh_ckC_0_1 : (((sh_cT.getD 0 []).drop 24).take 4).all (sh_ckC 0) = true := by decide +kernel
theorem sh_ckC_0 : ((sh_cT.getD 0 []).all (sh_ckC 0)) = true := by
  rw [show sh_cT.getD 0 [] = ((sh_cT.getD 0 []).drop 0).take 24 ++ (((sh_cT.getD 0 []).drop 24).take 4) from rfl]
  simp only [List.all_append, Bool.and_eq_true]
  exact ⟨sh_ckC_0_0, sh_ckC_0_1⟩
set_option maxRecDepth 100000 in
theorem sh_ckC_1_0 : (((sh_cT.getD 1 []).drop 0).take 23).all (sh_ckC 1) = true := by decide +kernel
theorem sh_ckC_1 : ((sh_cT.getD 1 []).all (sh_ckC 1)) = true := by
  rw [show sh_cT.getD 1 [] = ((sh_cT.getD 1 []).drop 0).take 23 from rfl]
  exact sh_ckC_1_0
set_option maxRecDepth 100000 in
theorem sh_ckC_2_0 : (((sh_cT.getD 2 []).drop 0).take 23).all (sh_ckC 2) = true := by decide +kernel
theorem sh_ckC_2 : ((sh_cT.getD 2 []).all (sh_ckC 2)) = true := by
  rw [show sh_cT.getD 2 [] = ((sh_cT.getD 2 []).drop 0).take 23 from rfl]
  exact sh_ckC_2_0
set_option maxRecDepth 100000 in
theorem sh_ckC_3_0 : (((sh_cT.getD 3 []).drop 0).take 7).all (sh_ckC 3) = true := by decide +kernel
theorem sh_ckC_3 : ((sh_cT.getD 3 []).all (sh_ckC 3)) = true := by
  rw [show sh_cT.getD 3 [] = ((sh_cT.getD 3 []).drop 0).take 7 from rfl]
  exact sh_ckC_3_0
set_option maxRecDepth 100000 in
theorem sh_ckC_4_0 : (((sh_cT.getD 4 []).drop 0).take 2).all (sh_ckC 4) = true := by decide +kernel
theorem sh_ckC_4 : ((sh_cT.getD 4 []).all (sh_ckC 4)) = true := by
  rw [show sh_cT.getD 4 [] = ((sh_cT.getD 4 []).drop 0).take 2 from rfl]
  exact sh_ckC_4_0
set_option maxRecDepth 100000 in
theorem sh_ckC_5_0 : (((sh_cT.getD 5 []).drop 0).take 2).all (sh_ckC 5) = true := by decide +kernel
theorem sh_ckC_5 : ((sh_cT.getD 5 []).all (sh_ckC 5)) = true := by
  rw [show sh_cT.getD 5 [] = ((sh_cT.getD 5 []).drop 0).take 2 from rfl]
  exact sh_ckC_5_0
set_option maxRecDepth 100000 in
theorem sh_ckC_6_0 : (((sh_cT.getD 6 []).drop 0).take 24).all (sh_ckC 6) = true := by decide +kernel
set_option maxRecDepth 100000 in
theorem sh_ckC_6_1 : (((sh_cT.getD 6 []).drop 24).take 10).all (sh_ckC 6) = true := by decide +kernel
theorem sh_ckC_6 : ((sh_cT.getD 6 []).all (sh_ckC 6)) = true := by
  rw [show sh_cT.getD 6 [] = ((sh_cT.getD 6 []).drop 0).take 24 ++ (((sh_cT.getD 6 []).drop 24).take 10) from rfl]
  simp only [List.all_append, Bool.and_eq_true]
  exact ⟨sh_ckC_6_0, sh_ckC_6_1⟩
set_option maxRecDepth 100000 in
theorem sh_ckC_7_0 : (((sh_cT.getD 7 []).drop 0).take 24).all (sh_ckC 7) = true := by decide +kernel
set_option maxRecDepth 100000 in
theorem sh_ckC_7_1 : (((sh_cT.getD 7 []).drop 24).take 24).all (sh_ckC 7) = true := by decide +kernel
set_option maxRecDepth 100000 in
theorem sh_ckC_7_2 : (((sh_cT.getD 7 []).drop 48).take 24).all (sh_ckC 7) = true := by decide +kernel
set_option maxRecDepth 100000 in
theorem sh_ckC_7_3 : (((sh_cT.getD 7 []).drop 72).take 24).all (sh_ckC 7) = true := by decide +kernel
set_option maxRecDepth 100000 in
theorem sh_ckC_7_4 : (((sh_cT.getD 7 []).drop 96).take 12).all (sh_ckC 7) = true := by decide +kernel
theorem sh_ckC_7 : ((sh_cT.getD 7 []).all (sh_ckC 7)) = true := by
  rw [show sh_cT.getD 7 [] = ((sh_cT.getD 7 []).drop 0).take 24 ++ (((sh_cT.getD 7 []).drop 24).take 24 ++ (((sh_cT.getD 7 []).drop 48).take 24 ++ (((sh_cT.getD 7 []).drop 72).take 24 ++ (((sh_cT.getD 7 []).drop 96).take 12)))) from rfl]
  simp only [List.all_append, Bool.and_eq_true]
  exact ⟨sh_ckC_7_0, ⟨sh_ckC_7_1, ⟨sh_ckC_7_2, ⟨sh_ckC_7_3, sh_ckC_7_4⟩⟩⟩⟩
set_option maxRecDepth 100000 in
theorem sh_ckC_8_0 : (((sh_cT.getD 8 []).drop 0).take 24).all (sh_ckC 8) = true := by decide +kernel
set_option maxRecDepth 100000 in
theorem sh_ckC_8_1 : (((sh_cT.getD 8 []).drop 24).take 9).all (sh_ckC 8) = true := by decide +kernel
theorem sh_ckC_8 : ((sh_cT.getD 8 []).all (sh_ckC 8)) = true := by
  rw [show sh_cT.getD 8 [] = ((sh_cT.getD 8 []).drop 0).take 24 ++ (((sh_cT.getD 8 []).drop 24).take 9) from rfl]
  simp only [List.all_append, Bool.and_eq_true]
  exact ⟨sh_ckC_8_0, sh_ckC_8_1⟩
set_option maxRecDepth 100000 in
theorem sh_ckC_9_0 : (((sh_cT.getD 9 []).drop 0).take 8).all (sh_ckC 9) = true := by decide +kernel
theorem sh_ckC_9 : ((sh_cT.getD 9 []).all (sh_ckC 9)) = true := by
  rw [show sh_cT.getD 9 [] = ((sh_cT.getD 9 []).drop 0).take 8 from rfl]
  exact sh_ckC_9_0
set_option maxRecDepth 100000 in
theorem sh_ckC_10_0 : (((sh_cT.getD 10 []).drop 0).take 4).all (sh_ckC 10) = true := by decide +kernel
theorem sh_ckC_10 : ((sh_cT.getD 10 []).all (sh_ckC 10)) = true := by
  rw [show sh_cT.getD 10 [] = ((sh_cT.getD 10 []).drop 0).take 4 from rfl]
  exact sh_ckC_10_0
set_option maxRecDepth 100000 in
theorem sh_ckC_11_0 : (((sh_cT.getD 11 []).drop 0).take 24).all (sh_ckC 11) = true := by decide +kernel
set_option maxRecDepth 100000 in
theorem sh_ckC_11_1 : (((sh_cT.getD 11 []).drop 24).take 1).all (sh_ckC 11) = true := by decide +kernel
theorem sh_ckC_11 : ((sh_cT.getD 11 []).all (sh_ckC 11)) = true := by
  rw [show sh_cT.getD 11 [] = ((sh_cT.getD 11 []).drop 0).take 24 ++ (((sh_cT.getD 11 []).drop 24).take 1) from rfl]
  simp only [List.all_append, Bool.and_eq_true]
  exact ⟨sh_ckC_11_0, sh_ckC_11_1⟩
set_option maxRecDepth 100000 in
theorem sh_ckC_12_0 : (((sh_cT.getD 12 []).drop 0).take 15).all (sh_ckC 12) = true := by decide +kernel
theorem sh_ckC_12 : ((sh_cT.getD 12 []).all (sh_ckC 12)) = true := by
  rw [show sh_cT.getD 12 [] = ((sh_cT.getD 12 []).drop 0).take 15 from rfl]
  exact sh_ckC_12_0
set_option maxRecDepth 100000 in
theorem sh_ckC_13_0 : (((sh_cT.getD 13 []).drop 0).take 24).all (sh_ckC 13) = true := by decide +kernel
set_option maxRecDepth 100000 in
theorem sh_ckC_13_1 : (((sh_cT.getD 13 []).drop 24).take 24).all (sh_ckC 13) = true := by decide +kernel
set_option maxRecDepth 100000 in
theorem sh_ckC_13_2 : (((sh_cT.getD 13 []).drop 48).take 24).all (sh_ckC 13) = true := by decide +kernel
set_option maxRecDepth 100000 in
theorem sh_ckC_13_3 : (((sh_cT.getD 13 []).drop 72).take 18).all (sh_ckC 13) = true := by decide +kernel
theorem sh_ckC_13 : ((sh_cT.getD 13 []).all (sh_ckC 13)) = true := by
  rw [show sh_cT.getD 13 [] = ((sh_cT.getD 13 []).drop 0).take 24 ++ (((sh_cT.getD 13 []).drop 24).take 24 ++ (((sh_cT.getD 13 []).drop 48).take 24 ++ (((sh_cT.getD 13 []).drop 72).take 18))) from rfl]
  simp only [List.all_append, Bool.and_eq_true]
  exact ⟨sh_ckC_13_0, ⟨sh_ckC_13_1, ⟨sh_ckC_13_2, sh_ckC_13_3⟩⟩⟩
theorem sh_ckC_14 : ((sh_cT.getD 14 []).all (sh_ckC 14)) = true := by
  rfl
set_option maxRecDepth 100000 in
theorem sh_ckC_15_0 : (((sh_cT.getD 15 []).drop 0).take 2).all (sh_ckC 15) = true := by decide +kernel
theorem sh_ckC_15 : ((sh_cT.getD 15 []).all (sh_ckC 15)) = true := by
  rw [show sh_cT.getD 15 [] = ((sh_cT.getD 15 []).drop 0).take 2 from rfl]
  exact sh_ckC_15_0
set_option maxRecDepth 100000 in
theorem sh_ckC_16_0 : (((sh_cT.getD 16 []).drop 0).take 7).all (sh_ckC 16) = true := by decide +kernel
theorem sh_ckC_16 : ((sh_cT.getD 16 []).all (sh_ckC 16)) = true := by
  rw [show sh_cT.getD 16 [] = ((sh_cT.getD 16 []).drop 0).take 7 from rfl]
  exact sh_ckC_16_0
set_option maxRecDepth 100000 in
theorem sh_ckC_17_0 : (((sh_cT.getD 17 []).drop 0).take 5).all (sh_ckC 17) = true := by decide +kernel
theorem sh_ckC_17 : ((sh_cT.getD 17 []).all (sh_ckC 17)) = true := by
  rw [show sh_cT.getD 17 [] = ((sh_cT.getD 17 []).drop 0).take 5 from rfl]
  exact sh_ckC_17_0
theorem sh_ckC_18 : ((sh_cT.getD 18 []).all (sh_ckC 18)) = true := by
  rfl
