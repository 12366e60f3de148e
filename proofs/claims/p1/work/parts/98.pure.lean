/-! p1: one call on a fresh object -/
section P1
variable {sc : sh_S} {xs : Nat → Int32} {T : List sh_Tg} {I : Nat → Nat → Int32} {J : Nat → Nat → Int64}
theorem sh_Ix6 : sh_Ix 0 6 := by unfold sh_Ix; decide
theorem sh_f0 {T : List sh_Tg} {I : Nat → Nat → Int32} {J : Nat → Nat → Int64} (hT : sh_St T) : ∃ fs, (sh_rep T I J)[0]? = some (.inr (0, fs)) := sh_at0 (sh_s0 hT)
theorem sh_f66 {T : List sh_Tg} {I : Nat → Nat → Int32} {J : Nat → Nat → Int64} (hT : sh_St T) : ∃ fs, (sh_rep T I J)[66]? = some (.inr (12, fs)) := sh_at0 (sh_s66 hT)
/-- a fresh object and a fresh reference -/
def sh_fresh (T : List sh_Tg) (I : Nat → Nat → Int32) : Prop := sh_St T ∧ T.length = 125 ∧ T[2]? = some (.inr (1, [.inr (.ref 4), .inr (.ref 5), .inr (.ref 6), .inr (.ref 7), .inr (.ref 8), .inr (.ref 9), .inl 0, .inl 0, .inl 0, .inl 0, .inl 0])) ∧ T[9]? = some (.inr (2, [.inr (.ref 11), .inr (.ref 12), .inr (.ref 13), .inl 0])) ∧ T[58]? = some (.inr (10, [.inr (.ref 10), .inr (.ref 14), .inr (.ref 19), .inr (.ref 24), .inr (.ref 60), .inr (.ref 61), .inl 0, .inl 0, .inl 0, .inl 0, .inl 0, .inl 0])) ∧ T[61]? = some (.inr (11, [.inr (.ref 10), .inr (.ref 63), .inr (.ref 64), .inr (.ref 65), .inr (.ref 66), .inl 1])) ∧ I 0 10 = 0 ∧ I 0 11 = 0 ∧ I 0 12 = -1 ∧ I 0 13 = 0 ∧ I 66 2 = 0 ∧ I 66 4 = 0 ∧ I 66 5 = 0 ∧ I 66 7 = -1 ∧ I 66 80 = 0
theorem sh_end6 {lv : sh_Ls} {h : sh_H} {v : sh_U} (hv : sh_le (0, 0, 8, 200) v) (hsc : sc = some (6, xs)) (h4 : lv.lookup 4 = some (.int (0 + 6))) (h0 : lv.lookup 0 = some (.ref 0)) : sh_To sh_G0 sc 0 23 lv [] h (.returned (some (.int 1))) h v := sh_To_le hv (sh_lawE hsc h4 h0 (by decide))
def sh_one6 (sc : sh_S) (T : List sh_Tg) (I : Nat → Nat → Int32) (J : Nat → Nat → Int64) : Prop := ∃ h3, sh_To sh_G0 sc 0 23 [(4, .int 0), (3, .ref 125), (2, .ref 67), (1, .ref 1), (0, .ref 0)] [] (sh_rep T I J) (.returned (some (.int 1))) h3 (20, 200, 100, 4000)
theorem sh_one6_0 (F : sh_fresh T I) (hsc : sc = some (6, xs)) (hc : xs (Int32.toNatClampNeg 0) &&& 15 = 0) : sh_one6 sc T I J := by
  obtain ⟨hT, hL, d2, d9, d58, d61, xc10, xc11, xc12, xc13, xm2, xm4, xm5, xm7, xm80⟩ := F
  have hp : ¬ (3980 : Int32) < I 0 10 := by rw [xc10]; decide
  have cx := sh_c13 (sc := sc) (T := T) (I := I) (J := J) (a := xs (Int32.toNatClampNeg (0 + 1))) (b := xs (Int32.toNatClampNeg (0 + 2))) (c := xs (Int32.toNatClampNeg (0 + 3))) (d := xs (Int32.toNatClampNeg (0 + 4))) (e := xs (Int32.toNatClampNeg (0 + 5))) hT (by rw [xc10]; decide) (by rw [xc10]; decide)
  rw [if_neg hp, if_neg hp] at cx
  have e2 : sh_ap20 I (xs (Int32.toNatClampNeg (0 + 1))) (xs (Int32.toNatClampNeg (0 + 2))) (xs (Int32.toNatClampNeg (0 + 3))) (xs (Int32.toNatClampNeg (0 + 4))) (xs (Int32.toNatClampNeg (0 + 5))) 66 2 = 0 := xm2
  have cm := sh_c244 (sc := sc) (T := T) (I := sh_ap20 I (xs (Int32.toNatClampNeg (0 + 1))) (xs (Int32.toNatClampNeg (0 + 2))) (xs (Int32.toNatClampNeg (0 + 3))) (xs (Int32.toNatClampNeg (0 + 4))) (xs (Int32.toNatClampNeg (0 + 5)))) (J := J) (a := xs (Int32.toNatClampNeg (0 + 1))) (b := xs (Int32.toNatClampNeg (0 + 2))) (c := xs (Int32.toNatClampNeg (0 + 3))) (d := xs (Int32.toNatClampNeg (0 + 4))) (e := xs (Int32.toNatClampNeg (0 + 5))) hT (by rw [e2]; decide) (by rw [e2]; decide)
  have hq : ¬ (4000 : Int32) < sh_ap20 I (xs (Int32.toNatClampNeg (0 + 1))) (xs (Int32.toNatClampNeg (0 + 2))) (xs (Int32.toNatClampNeg (0 + 3))) (xs (Int32.toNatClampNeg (0 + 4))) (xs (Int32.toNatClampNeg (0 + 5))) 66 2 + 20 := by rw [e2]; decide
  rw [if_neg hq, if_neg hq] at cm
  exact ⟨_, sh_To_le (sh_uB_le rfl) (sh_law0 hsc sh_Ix6 hc (sh_f0 hT) (sh_f66 hT) cx cm rfl (sh_end6 (v := (0, 0, 8, 200)) (sh_uB_le rfl) hsc rfl rfl))⟩
theorem sh_one6_1 (F : sh_fresh T I) (hsc : sc = some (6, xs)) (hc : xs (Int32.toNatClampNeg 0) &&& 15 = 1) : sh_one6 sc T I J := by
  obtain ⟨hT, hL, d2, d9, d58, d61, xc10, xc11, xc12, xc13, xm2, xm4, xm5, xm7, xm80⟩ := F
  have cx := sh_c15 (sc := sc) (T := T) (I := I) (J := J) (n := xs (Int32.toNatClampNeg (0 + 1))) hT
  have cm := sh_c245 (sc := sc) (T := T) (I := if xs (Int32.toNatClampNeg (0 + 1)) < 0 ∨ I 0 10 < xs (Int32.toNatClampNeg (0 + 1)) then I else sh_u2 I 0 10 (xs (Int32.toNatClampNeg (0 + 1)))) (J := J) (n := xs (Int32.toNatClampNeg (0 + 1))) hT
  have e : (if xs (Int32.toNatClampNeg (0 + 1)) < 0 ∨ I 0 10 < xs (Int32.toNatClampNeg (0 + 1)) then I else sh_u2 I 0 10 (xs (Int32.toNatClampNeg (0 + 1)))) 66 2 = I 0 10 := by
    rw [xc10]
    split
    · exact xm2
    · exact xm2
  rw [e] at cm
  exact ⟨_, sh_To_le (sh_uB_le rfl) (sh_law1 hsc sh_Ix6 hc (sh_f0 hT) (sh_f66 hT) cx cm rfl (sh_end6 (v := (0, 0, 8, 200)) (sh_uB_le rfl) hsc rfl rfl))⟩
theorem sh_one6_2 (F : sh_fresh T I) (hsc : sc = some (6, xs)) (hc : xs (Int32.toNatClampNeg 0) &&& 15 = 2) : sh_one6 sc T I J := by
  obtain ⟨hT, hL, d2, d9, d58, d61, xc10, xc11, xc12, xc13, xm2, xm4, xm5, xm7, xm80⟩ := F
  exact ⟨_, sh_To_le (sh_uB_le rfl) (sh_law2 hsc sh_Ix6 hc (sh_f0 hT) (sh_f66 (hT.set (by decide))) (sh_q25 hT d9 d2 xc11 xc10) (sh_q40 (hT.set (by decide)) xm80 xm2) rfl (sh_end6 (v := (0, 0, 8, 200)) (sh_uB_le rfl) hsc rfl rfl))⟩
theorem sh_one6_3 (F : sh_fresh T I) (hsc : sc = some (6, xs)) (hc : xs (Int32.toNatClampNeg 0) &&& 15 = 3) : sh_one6 sc T I J := by
  obtain ⟨hT, hL, d2, d9, d58, d61, xc10, xc11, xc12, xc13, xm2, xm4, xm5, xm7, xm80⟩ := F
  exact ⟨_, sh_To_le (sh_uB_le rfl) (sh_law3 hsc sh_Ix6 hc (sh_f0 hT) (sh_f66 (hT.set (by decide)).app) (sh_q46 hT (by omega) d9 d58 xc11 xc10) (sh_q53 (hT.set (by decide)).app xm80 xm2) rfl (sh_end6 (v := (0, 0, 8, 200)) (sh_uB_le rfl) hsc rfl rfl))⟩
theorem sh_one6_4 (F : sh_fresh T I) (hsc : sc = some (6, xs)) (hc : xs (Int32.toNatClampNeg 0) &&& 15 = 4) : sh_one6 sc T I J := by
  obtain ⟨hT, hL, d2, d9, d58, d61, xc10, xc11, xc12, xc13, xm2, xm4, xm5, xm7, xm80⟩ := F
  exact ⟨_, sh_To_le (sh_uB_le rfl) (sh_law4 hsc sh_Ix6 hc (sh_f0 hT) (sh_f66 hT) (sh_c213 hT) (sh_c332 hT) (xc12.trans xm7.symm) (sh_end6 (v := (0, 0, 8, 200)) (sh_uB_le rfl) hsc rfl rfl))⟩
theorem sh_one6_5 (F : sh_fresh T I) (hsc : sc = some (6, xs)) (hc : xs (Int32.toNatClampNeg 0) &&& 15 = 5) : sh_one6 sc T I J := by
  obtain ⟨hT, hL, d2, d9, d58, d61, xc10, xc11, xc12, xc13, xm2, xm4, xm5, xm7, xm80⟩ := F
  exact ⟨_, sh_To_le (sh_uB_le rfl) (sh_law5 hsc sh_Ix6 hc (sh_f0 hT) (sh_f66 hT) (sh_c214n hT xc13) (sh_c333n hT xm4) rfl (sh_end6 (v := (0, 0, 8, 200)) (sh_uB_le rfl) hsc rfl rfl))⟩
theorem sh_one6_6 (F : sh_fresh T I) (hsc : sc = some (6, xs)) (hc : xs (Int32.toNatClampNeg 0) &&& 15 = 6) : sh_one6 sc T I J := by
  obtain ⟨hT, hL, d2, d9, d58, d61, xc10, xc11, xc12, xc13, xm2, xm4, xm5, xm7, xm80⟩ := F
  exact ⟨_, sh_To_le (sh_uB_le rfl) (sh_law6_1 (p := 0) hsc sh_Ix6 hc (sh_f66 hT.app) (sh_f66 hT.app) (sh_c236n hT (by omega) xc13) (sh_c334n hT.app (by rw [xm4]; decide)) (sh_c243 hT.app) (sh_end6 (v := (0, 0, 8, 200)) (sh_uB_le rfl) hsc rfl rfl))⟩
theorem sh_one6_7 (F : sh_fresh T I) (hsc : sc = some (6, xs)) (hc : xs (Int32.toNatClampNeg 0) &&& 15 = 7) : sh_one6 sc T I J := by
  obtain ⟨hT, hL, d2, d9, d58, d61, xc10, xc11, xc12, xc13, xm2, xm4, xm5, xm7, xm80⟩ := F
  exact ⟨_, sh_To_le (sh_uB_le rfl) (sh_law7 (p := 1) hsc sh_Ix6 hc (sh_f66 hT.app) (sh_f66 hT.app) (sh_c238n hT (by omega) xc13) (sh_c336n hT.app (by rw [xm4]; decide)) (sh_c243 hT.app) (sh_end6 (v := (0, 0, 8, 200)) (sh_uB_le rfl) hsc rfl rfl))⟩
theorem sh_one6_8 (F : sh_fresh T I) (hsc : sc = some (6, xs)) (hc : xs (Int32.toNatClampNeg 0) &&& 15 = 8) : sh_one6 sc T I J := by
  obtain ⟨hT, hL, d2, d9, d58, d61, xc10, xc11, xc12, xc13, xm2, xm4, xm5, xm7, xm80⟩ := F
  exact ⟨_, sh_To_le (sh_uB_le rfl) (sh_law8 hsc sh_Ix6 hc (sh_f0 hT) (sh_f66 hT) (sh_c217 hT d61) (sh_c337 hT) (sh_end6 (v := (0, 0, 8, 200)) (sh_uB_le rfl) hsc rfl rfl))⟩
theorem sh_one6_9 (F : sh_fresh T I) (hsc : sc = some (6, xs)) (hc : xs (Int32.toNatClampNeg 0) &&& 15 = 9) : sh_one6 sc T I J := by
  obtain ⟨hT, hL, d2, d9, d58, d61, xc10, xc11, xc12, xc13, xm2, xm4, xm5, xm7, xm80⟩ := F
  exact ⟨_, sh_To_le (sh_uB_le rfl) (sh_law9 hsc sh_Ix6 hc (sh_f0 hT) (sh_f66 hT) (sh_c219n hT xc13) (sh_c338n hT xm4) rfl (sh_end6 (v := (0, 0, 8, 200)) (sh_uB_le rfl) hsc rfl rfl))⟩
theorem sh_one6_10 (F : sh_fresh T I) (hsc : sc = some (6, xs)) (hc : xs (Int32.toNatClampNeg 0) &&& 15 = 10) : sh_one6 sc T I J := by
  obtain ⟨hT, hL, d2, d9, d58, d61, xc10, xc11, xc12, xc13, xm2, xm4, xm5, xm7, xm80⟩ := F
  exact ⟨_, sh_To_le (sh_uB_le rfl) (sh_law10_1 (p := 0) hsc sh_Ix6 hc (sh_f66 hT.app) (sh_f66 hT.app) (sh_c240n hT (by omega) xc13) (sh_c340n hT.app xm5) (sh_c243 hT.app) (sh_end6 (v := (0, 0, 8, 200)) (sh_uB_le rfl) hsc rfl rfl))⟩
theorem sh_p1one (F : sh_fresh T I) (hsc : sc = some (6, xs)) : sh_one6 sc T I J := by
  obtain ⟨n, hn, hc⟩ := sh_16 (xs (Int32.toNatClampNeg 0))
  have h16 : n = 0 ∨ n = 1 ∨ n = 2 ∨ n = 3 ∨ n = 4 ∨ n = 5 ∨ n = 6 ∨ n = 7 ∨ n = 8 ∨ n = 9 ∨ n = 10 ∨ n = 11 ∨ n = 12 ∨ n = 13 ∨ n = 14 ∨ n = 15 := by omega
  rcases h16 with rfl | rfl | rfl | rfl | rfl | rfl | rfl | rfl | rfl | rfl | rfl | rfl | rfl | rfl | rfl | rfl
  · exact sh_one6_0 F hsc hc
  · exact sh_one6_1 F hsc hc
  · exact sh_one6_2 F hsc hc
  · exact sh_one6_3 F hsc hc
  · exact sh_one6_4 F hsc hc
  · exact sh_one6_5 F hsc hc
  · exact sh_one6_6 F hsc hc
  · exact sh_one6_7 F hsc hc
  · exact sh_one6_8 F hsc hc
  · exact sh_one6_9 F hsc hc
  · exact sh_one6_10 F hsc hc
  · exact ⟨_, sh_law11 hsc sh_Ix6 hc (sh_end6 (sh_uB_le rfl) hsc rfl rfl)⟩
  · exact ⟨_, sh_law12 hsc sh_Ix6 hc (sh_end6 (sh_uB_le rfl) hsc rfl rfl)⟩
  · exact ⟨_, sh_law13 hsc sh_Ix6 hc (sh_end6 (sh_uB_le rfl) hsc rfl rfl)⟩
  · exact ⟨_, sh_law14 hsc sh_Ix6 hc (sh_end6 (sh_uB_le rfl) hsc rfl rfl)⟩
  · exact ⟨_, sh_law15 hsc sh_Ix6 hc (sh_end6 (sh_uB_le rfl) hsc rfl rfl)⟩
theorem sh_lt6 {L : Nat} (h : L < 6) : Int32.ofNat L - 6 < 0 := by
  have : L = 0 ∨ L = 1 ∨ L = 2 ∨ L = 3 ∨ L = 4 ∨ L = 5 := by omega
  rcases this with rfl | rfl | rfl | rfl | rfl | rfl <;> decide
theorem sh_fresh0 : sh_fresh sh_T0 sh_IX := ⟨sh_St0, rfl, rfl, rfl, rfl, rfl, sh_IX0 10 (by decide), sh_IX0 11 (by decide), sh_IX0 12 (by decide), sh_IX0 13 (by decide), sh_IX66 2 (by decide), sh_IX66 4 (by decide), sh_IX66 5 (by decide), sh_IX66 7 (by decide), sh_IX66 80 (by decide)⟩
theorem sh_pure6 : sh_Pure 6 := by
  intro L xs hL
  have h : ∃ h3, sh_To sh_G0 (some (L, xs)) 0 0 [(0, .ref 0)] [] [] (.returned (some (.int 1))) h3 (150 + 20, 501000 + 200, 100, 4000) := by
    by_cases h6 : L < 6
    · exact ⟨_, sh_start (v := (20, 200, 0, 0)) (sh_To_le (sh_uB_le rfl) (sh_lawE rfl rfl rfl (sh_lt6 h6)))⟩
    · have h6 : L = 6 := by omega
      subst h6
      obtain ⟨h3, hk⟩ := sh_p1one (sc := some (6, xs)) (xs := xs) sh_fresh0 rfl
      exact ⟨h3, sh_start (v := (20, 200, 0, 0)) hk⟩
  obtain ⟨h3, n, u, hr, hu⟩ := h
  have h1 := hu.1
  have h2 := hu.2.1
  have h4 := hu.2.2.1
  have h5 := hu.2.2.2
  dsimp only at h1 h2 h4 h5
  exact ⟨n, h3, u, hr, by omega, by omega, by omega, by omega⟩
end P1
