/-! p1: one call on a fresh object -/
section P1
variable {sc : sh_S} {xs : Nat → Int32}
theorem sh_Ix6 : sh_Ix 0 6 := by unfold sh_Ix; decide
theorem sh_d2 : sh_T0[2]? = some (.inr (1, [.inr (.ref 4), .inr (.ref 5), .inr (.ref 6), .inr (.ref 7), .inr (.ref 8), .inr (.ref 9), .inl 0, .inl 0, .inl 0, .inl 0, .inl 0])) := rfl
theorem sh_d9 : sh_T0[9]? = some (.inr (2, [.inr (.ref 11), .inr (.ref 12), .inr (.ref 13), .inl 0])) := rfl
theorem sh_d58 : sh_T0[58]? = some (.inr (10, [.inr (.ref 10), .inr (.ref 14), .inr (.ref 19), .inr (.ref 24), .inr (.ref 60), .inr (.ref 61), .inl 0, .inl 0, .inl 0, .inl 0, .inl 0, .inl 0])) := rfl
theorem sh_d61 : sh_T0[61]? = some (.inr (11, [.inr (.ref 10), .inr (.ref 63), .inr (.ref 64), .inr (.ref 65), .inr (.ref 66), .inl 1])) := rfl
theorem sh_f0 {T : List sh_Tg} {I : Nat → Nat → Int32} {J : Nat → Nat → Int64} (hT : sh_St T) : ∃ fs, (sh_rep T I J)[0]? = some (.inr (0, fs)) := sh_at0 (sh_s0 hT)
theorem sh_f66 {T : List sh_Tg} {I : Nat → Nat → Int32} {J : Nat → Nat → Int64} (hT : sh_St T) : ∃ fs, (sh_rep T I J)[66]? = some (.inr (12, fs)) := sh_at0 (sh_s66 hT)
theorem sh_x10 : sh_IX 0 10 = 0 := sh_IX0 10 (by decide)
theorem sh_x11 : sh_IX 0 11 = 0 := sh_IX0 11 (by decide)
theorem sh_x12 : sh_IX 0 12 = -1 := sh_IX0 12 (by decide)
theorem sh_x13 : sh_IX 0 13 = 0 := sh_IX0 13 (by decide)
theorem sh_m2 : sh_IX 66 2 = 0 := sh_IX66 2 (by decide)
theorem sh_m4 : sh_IX 66 4 = 0 := sh_IX66 4 (by decide)
theorem sh_m5 : sh_IX 66 5 = 0 := sh_IX66 5 (by decide)
theorem sh_m7 : sh_IX 66 7 = -1 := sh_IX66 7 (by decide)
theorem sh_m80 : sh_IX 66 80 = 0 := sh_IX66 80 (by decide)
theorem sh_end6 {lv : sh_Ls} {h : sh_H} {v : sh_U} (hv : sh_le (0, 0, 8, 200) v) (hsc : sc = some (6, xs)) (h4 : lv.lookup 4 = some (.int (0 + 6))) (h0 : lv.lookup 0 = some (.ref 0)) : sh_To sh_G0 sc 0 23 lv [] h (.returned (some (.int 1))) h v := sh_To_le hv (sh_lawE hsc h4 h0 (by decide))
def sh_one6 (sc : sh_S) : Prop := ∃ h3, sh_To sh_G0 sc 0 23 [(4, .int 0), (3, .ref 125), (2, .ref 67), (1, .ref 1), (0, .ref 0)] [] (sh_rep sh_T0 sh_IX sh_JX) (.returned (some (.int 1))) h3 (20, 200, 100, 4000)
theorem sh_one6_0 (hsc : sc = some (6, xs)) (hc : xs (Int32.toNatClampNeg 0) &&& 15 = 0) : sh_one6 sc := by
  have hp : ¬ (3980 : Int32) < sh_IX 0 10 := by rw [sh_x10]; decide
  have cx := sh_c13 (sc := sc) (T := sh_T0) (I := sh_IX) (J := sh_JX) (a := xs (Int32.toNatClampNeg (0 + 1))) (b := xs (Int32.toNatClampNeg (0 + 2))) (c := xs (Int32.toNatClampNeg (0 + 3))) (d := xs (Int32.toNatClampNeg (0 + 4))) (e := xs (Int32.toNatClampNeg (0 + 5))) sh_St0 (by rw [sh_x10]; decide) (by rw [sh_x10]; decide)
  rw [if_neg hp, if_neg hp] at cx
  have e2 : sh_ap20 sh_IX (xs (Int32.toNatClampNeg (0 + 1))) (xs (Int32.toNatClampNeg (0 + 2))) (xs (Int32.toNatClampNeg (0 + 3))) (xs (Int32.toNatClampNeg (0 + 4))) (xs (Int32.toNatClampNeg (0 + 5))) 66 2 = 0 := sh_m2
  have cm := sh_c244 (sc := sc) (T := sh_T0) (I := sh_ap20 sh_IX (xs (Int32.toNatClampNeg (0 + 1))) (xs (Int32.toNatClampNeg (0 + 2))) (xs (Int32.toNatClampNeg (0 + 3))) (xs (Int32.toNatClampNeg (0 + 4))) (xs (Int32.toNatClampNeg (0 + 5)))) (J := sh_JX) (a := xs (Int32.toNatClampNeg (0 + 1))) (b := xs (Int32.toNatClampNeg (0 + 2))) (c := xs (Int32.toNatClampNeg (0 + 3))) (d := xs (Int32.toNatClampNeg (0 + 4))) (e := xs (Int32.toNatClampNeg (0 + 5))) sh_St0 (by rw [e2]; decide) (by rw [e2]; decide)
  have hq : ¬ (4000 : Int32) < sh_ap20 sh_IX (xs (Int32.toNatClampNeg (0 + 1))) (xs (Int32.toNatClampNeg (0 + 2))) (xs (Int32.toNatClampNeg (0 + 3))) (xs (Int32.toNatClampNeg (0 + 4))) (xs (Int32.toNatClampNeg (0 + 5))) 66 2 + 20 := by rw [e2]; decide
  rw [if_neg hq, if_neg hq] at cm
  exact ⟨_, sh_To_le (sh_uB_le rfl) (sh_law0 hsc sh_Ix6 hc (sh_f0 sh_St0) (sh_f66 sh_St0) cx cm rfl (sh_end6 (v := (0, 0, 8, 200)) (sh_uB_le rfl) hsc rfl rfl))⟩
theorem sh_one6_1 (hsc : sc = some (6, xs)) (hc : xs (Int32.toNatClampNeg 0) &&& 15 = 1) : sh_one6 sc := by
  have cx := sh_c15 (sc := sc) (T := sh_T0) (I := sh_IX) (J := sh_JX) (n := xs (Int32.toNatClampNeg (0 + 1))) sh_St0
  have cm := sh_c245 (sc := sc) (T := sh_T0) (I := if xs (Int32.toNatClampNeg (0 + 1)) < 0 ∨ sh_IX 0 10 < xs (Int32.toNatClampNeg (0 + 1)) then sh_IX else sh_u2 sh_IX 0 10 (xs (Int32.toNatClampNeg (0 + 1)))) (J := sh_JX) (n := xs (Int32.toNatClampNeg (0 + 1))) sh_St0
  have e : (if xs (Int32.toNatClampNeg (0 + 1)) < 0 ∨ sh_IX 0 10 < xs (Int32.toNatClampNeg (0 + 1)) then sh_IX else sh_u2 sh_IX 0 10 (xs (Int32.toNatClampNeg (0 + 1)))) 66 2 = sh_IX 0 10 := by
    rw [sh_x10]
    split
    · exact sh_m2
    · exact sh_m2
  rw [e] at cm
  exact ⟨_, sh_To_le (sh_uB_le rfl) (sh_law1 hsc sh_Ix6 hc (sh_f0 sh_St0) (sh_f66 sh_St0) cx cm rfl (sh_end6 (v := (0, 0, 8, 200)) (sh_uB_le rfl) hsc rfl rfl))⟩
theorem sh_one6_2 (hsc : sc = some (6, xs)) (hc : xs (Int32.toNatClampNeg 0) &&& 15 = 2) : sh_one6 sc :=
  ⟨_, sh_To_le (sh_uB_le rfl) (sh_law2 hsc sh_Ix6 hc (sh_f0 sh_St0) (sh_f66 (sh_St0.set (by decide))) (sh_q25 sh_St0 sh_d9 sh_d2 sh_x11 sh_x10) (sh_q40 (sh_St0.set (by decide)) sh_m80 sh_m2) rfl (sh_end6 (v := (0, 0, 8, 200)) (sh_uB_le rfl) hsc rfl rfl))⟩
theorem sh_one6_3 (hsc : sc = some (6, xs)) (hc : xs (Int32.toNatClampNeg 0) &&& 15 = 3) : sh_one6 sc :=
  ⟨_, sh_To_le (sh_uB_le rfl) (sh_law3 hsc sh_Ix6 hc (sh_f0 sh_St0) (sh_f66 (sh_St0.set (by decide)).app) (sh_q46 sh_St0 (by decide) sh_d9 sh_d58 sh_x11 sh_x10) (sh_q53 (sh_St0.set (by decide)).app sh_m80 sh_m2) rfl (sh_end6 (v := (0, 0, 8, 200)) (sh_uB_le rfl) hsc rfl rfl))⟩
theorem sh_one6_4 (hsc : sc = some (6, xs)) (hc : xs (Int32.toNatClampNeg 0) &&& 15 = 4) : sh_one6 sc :=
  ⟨_, sh_To_le (sh_uB_le rfl) (sh_law4 hsc sh_Ix6 hc (sh_f0 sh_St0) (sh_f66 sh_St0) (sh_c213 sh_St0) (sh_c332 sh_St0) (sh_x12.trans sh_m7.symm) (sh_end6 (v := (0, 0, 8, 200)) (sh_uB_le rfl) hsc rfl rfl))⟩
theorem sh_one6_5 (hsc : sc = some (6, xs)) (hc : xs (Int32.toNatClampNeg 0) &&& 15 = 5) : sh_one6 sc :=
  ⟨_, sh_To_le (sh_uB_le rfl) (sh_law5 hsc sh_Ix6 hc (sh_f0 sh_St0) (sh_f66 sh_St0) (sh_c214n sh_St0 sh_x13) (sh_c333n sh_St0 sh_m4) rfl (sh_end6 (v := (0, 0, 8, 200)) (sh_uB_le rfl) hsc rfl rfl))⟩
theorem sh_mn : ¬ (0 : Int32) < sh_IX 66 4 := by rw [sh_m4]; decide
theorem sh_one6_6 (hsc : sc = some (6, xs)) (hc : xs (Int32.toNatClampNeg 0) &&& 15 = 6) : sh_one6 sc :=
  ⟨_, sh_To_le (sh_uB_le rfl) (sh_law6_1 (p := 0) hsc sh_Ix6 hc (sh_f66 sh_St0.app) (sh_f66 sh_St0.app) (sh_c236n sh_St0 (by decide) sh_x13) (sh_c334n sh_St0.app sh_mn) (sh_c243 sh_St0.app) (sh_end6 (v := (0, 0, 8, 200)) (sh_uB_le rfl) hsc rfl rfl))⟩
theorem sh_one6_7 (hsc : sc = some (6, xs)) (hc : xs (Int32.toNatClampNeg 0) &&& 15 = 7) : sh_one6 sc :=
  ⟨_, sh_To_le (sh_uB_le rfl) (sh_law7 (p := 1) hsc sh_Ix6 hc (sh_f66 sh_St0.app) (sh_f66 sh_St0.app) (sh_c238n sh_St0 (by decide) sh_x13) (sh_c336n sh_St0.app sh_mn) (sh_c243 sh_St0.app) (sh_end6 (v := (0, 0, 8, 200)) (sh_uB_le rfl) hsc rfl rfl))⟩
theorem sh_one6_8 (hsc : sc = some (6, xs)) (hc : xs (Int32.toNatClampNeg 0) &&& 15 = 8) : sh_one6 sc :=
  ⟨_, sh_To_le (sh_uB_le rfl) (sh_law8 hsc sh_Ix6 hc (sh_f0 sh_St0) (sh_f66 sh_St0) (sh_c217 sh_St0 sh_d61) (sh_c337 sh_St0) (sh_end6 (v := (0, 0, 8, 200)) (sh_uB_le rfl) hsc rfl rfl))⟩
theorem sh_one6_9 (hsc : sc = some (6, xs)) (hc : xs (Int32.toNatClampNeg 0) &&& 15 = 9) : sh_one6 sc :=
  ⟨_, sh_To_le (sh_uB_le rfl) (sh_law9 hsc sh_Ix6 hc (sh_f0 sh_St0) (sh_f66 sh_St0) (sh_c219n sh_St0 sh_x13) (sh_c338n sh_St0 sh_m4) rfl (sh_end6 (v := (0, 0, 8, 200)) (sh_uB_le rfl) hsc rfl rfl))⟩
theorem sh_one6_10 (hsc : sc = some (6, xs)) (hc : xs (Int32.toNatClampNeg 0) &&& 15 = 10) : sh_one6 sc :=
  ⟨_, sh_To_le (sh_uB_le rfl) (sh_law10_1 (p := 0) hsc sh_Ix6 hc (sh_f66 sh_St0.app) (sh_f66 sh_St0.app) (sh_c240n sh_St0 (by decide) sh_x13) (sh_c340n sh_St0.app sh_m5) (sh_c243 sh_St0.app) (sh_end6 (v := (0, 0, 8, 200)) (sh_uB_le rfl) hsc rfl rfl))⟩
theorem sh_p1one (hsc : sc = some (6, xs)) : sh_one6 sc := by
  obtain ⟨n, hn, hc⟩ := sh_16 (xs (Int32.toNatClampNeg 0))
  have h16 : n = 0 ∨ n = 1 ∨ n = 2 ∨ n = 3 ∨ n = 4 ∨ n = 5 ∨ n = 6 ∨ n = 7 ∨ n = 8 ∨ n = 9 ∨ n = 10 ∨ n = 11 ∨ n = 12 ∨ n = 13 ∨ n = 14 ∨ n = 15 := by omega
  rcases h16 with rfl | rfl | rfl | rfl | rfl | rfl | rfl | rfl | rfl | rfl | rfl | rfl | rfl | rfl | rfl | rfl
  · exact sh_one6_0 hsc hc
  · exact sh_one6_1 hsc hc
  · exact sh_one6_2 hsc hc
  · exact sh_one6_3 hsc hc
  · exact sh_one6_4 hsc hc
  · exact sh_one6_5 hsc hc
  · exact sh_one6_6 hsc hc
  · exact sh_one6_7 hsc hc
  · exact sh_one6_8 hsc hc
  · exact sh_one6_9 hsc hc
  · exact sh_one6_10 hsc hc
  · exact ⟨_, sh_law11 hsc sh_Ix6 hc (sh_end6 (sh_uB_le rfl) hsc rfl rfl)⟩
  · exact ⟨_, sh_law12 hsc sh_Ix6 hc (sh_end6 (sh_uB_le rfl) hsc rfl rfl)⟩
  · exact ⟨_, sh_law13 hsc sh_Ix6 hc (sh_end6 (sh_uB_le rfl) hsc rfl rfl)⟩
  · exact ⟨_, sh_law14 hsc sh_Ix6 hc (sh_end6 (sh_uB_le rfl) hsc rfl rfl)⟩
  · exact ⟨_, sh_law15 hsc sh_Ix6 hc (sh_end6 (sh_uB_le rfl) hsc rfl rfl)⟩
theorem sh_lt6 {L : Nat} (h : L < 6) : Int32.ofNat L - 6 < 0 := by
  have : L = 0 ∨ L = 1 ∨ L = 2 ∨ L = 3 ∨ L = 4 ∨ L = 5 := by omega
  rcases this with rfl | rfl | rfl | rfl | rfl | rfl <;> decide
theorem sh_pure6 : sh_Pure 6 := by
  intro L xs hL
  have h : ∃ h3, sh_To sh_G0 (some (L, xs)) 0 0 [(0, .ref 0)] [] [] (.returned (some (.int 1))) h3 (150 + 20, 501000 + 200, 100, 4000) := by
    by_cases h6 : L < 6
    · exact ⟨_, sh_start (v := (20, 200, 0, 0)) (sh_To_le (sh_uB_le rfl) (sh_lawE rfl rfl rfl (sh_lt6 h6)))⟩
    · have h6 : L = 6 := by omega
      subst h6
      obtain ⟨h3, hk⟩ := sh_p1one (sc := some (6, xs)) (xs := xs) rfl
      exact ⟨h3, sh_start (v := (20, 200, 0, 0)) hk⟩
  obtain ⟨h3, n, u, hr, hu⟩ := h
  have h1 := hu.1
  have h2 := hu.2.1
  have h4 := hu.2.2.1
  have h5 := hu.2.2.2
  dsimp only at h1 h2 h4 h5
  exact ⟨n, h3, u, hr, by omega, by omega, by omega, by omega⟩
end P1
