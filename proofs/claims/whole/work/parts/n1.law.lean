/-! THE LAW: on every script it answers 1 -/
section LawRun
variable {L : Nat} {xs : Nat → Int32} {fm : Value} {i : Int32} {j : Nat} {m : sh_X}
abbrev so_lv (i : Int32) : sh_Ls := [(4, .int i), (3, .ref 125), (2, .ref 67), (1, .ref 1), (0, .ref 0)]
/-- from the loop's head the law comes to its end and answers 1 -/
def so_Ok (sc : sh_S) (i : Int32) (m : sh_X) : Prop := ∃ h3 c s, sh_To sh_G0 sc 0 23 (so_lv i) [] (sh_rep m.T m.I m.J) (.returned (some (.int 1))) h3 (c, s, 2045, 83000) ∧ c + m.T.length ≤ 2000 ∧ s + m.s ≤ 700000
theorem so_link {k : Nat} {lv : sh_Ls} {m m2 : sh_X} {o : Outcome} {F W : Nat} (h : sh_Lk k 0 lv [] m o m2 F W) (hf : sh_isR fm = true) (hd : sh_DD m.T) : sh_DD m2.T ∧ ∃ c s, sh_To sh_G0 (some (L, xs), fm) k 0 lv [] (sh_rep m.T m.I m.J) o (sh_rep m2.T m2.I m2.J) (c, s, F, W) ∧ c + m.T.length = m2.T.length ∧ s + m.s = m2.s := by
  obtain ⟨h1, _, _, c, s, ⟨n, u, hr, hu⟩, h4, h5⟩ := h fm hf hd
  exact ⟨h1, c, s, ⟨n, u, sh_run_none (sc := (some (L, xs), fm)) (sc0 := (none, fm)) rfl (Or.inl rfl) _ _ _ _ _ _ _ hr, hu⟩, h4, h5⟩
theorem so_f0 {m : sh_X} (h : sh_DD m.T) : ∃ fs, (sh_rep m.T m.I m.J)[0]? = some (.inr (0, fs)) := sh_at0 (sh_s0 h.st)
theorem so_f66 {m : sh_X} (h : sh_DD m.T) : ∃ fs, (sh_rep m.T m.I m.J)[66]? = some (.inr (12, fs)) := sh_at0 (sh_s66 h.st)
theorem so_le2 {L1 L2 c1 s1 F1 W1 c2 s2 F2 W2 c s : Nat} (h1 : F1 + 1 ≤ 2045) (h2 : F2 + 1 ≤ 2045) (w1 : 8 + (L1 + 11) + W1 ≤ 83000) (w2 : 8 + (L2 + 11) + W2 ≤ 83000) : sh_le (sh_seq L1 (c1, s1, F1, W1) (sh_seq L2 (c2, s2, F2, W2) (c, s, 2045, 83000))) (c1 + c2 + c, s1 + s2 + s, 2045, 83000) :=
  ⟨by show c1 + (c2 + c) ≤ c1 + c2 + c; omega, by show s1 + (s2 + s) ≤ s1 + s2 + s; omega, Nat.max_le.mpr ⟨h1, Nat.max_le.mpr ⟨h2, Nat.le_refl _⟩⟩, Nat.max_le.mpr ⟨w1, Nat.max_le.mpr ⟨w2, Nat.le_refl _⟩⟩⟩
theorem so_two {k1 k2 F1 W1 F2 W2 : Nat} {lv1 lv2 : sh_Ls} {o1 o2 : Outcome} {m1 m2 : sh_X} (h1 : sh_Lk k1 0 lv1 [] m o1 m1 F1 W1) (h2 : sh_Lk k2 0 lv2 [] m1 o2 m2 F2 W2) (hf : sh_isR fm = true) (hd : sh_DD m.T) (ok : sh_DD m2.T → so_Ok (some (L, xs), fm) (i + 6) m2)
    (b1 : F1 + 1 ≤ 2045) (b2 : F2 + 1 ≤ 2045) (w1 : 8 + (sh_L sh_G0 k1 + 11) + W1 ≤ 83000) (w2 : 8 + (sh_L sh_G0 k2 + 11) + W2 ≤ 83000)
    (law : ∀ v1 v2 h3 v, sh_DD m1.T → sh_DD m2.T → sh_To sh_G0 (some (L, xs), fm) k1 0 lv1 [] (sh_rep m.T m.I m.J) o1 (sh_rep m1.T m1.I m1.J) v1 → sh_To sh_G0 (some (L, xs), fm) k2 0 lv2 [] (sh_rep m1.T m1.I m1.J) o2 (sh_rep m2.T m2.I m2.J) v2 → sh_To sh_G0 (some (L, xs), fm) 0 23 (so_lv (i + 6)) [] (sh_rep m2.T m2.I m2.J) (.returned (some (.int 1))) h3 v → sh_To sh_G0 (some (L, xs), fm) 0 23 (so_lv i) [] (sh_rep m.T m.I m.J) (.returned (some (.int 1))) h3 (sh_seq (sh_L sh_G0 k1) v1 (sh_seq (sh_L sh_G0 k2) v2 v))) : so_Ok (some (L, xs), fm) i m := by
  obtain ⟨D1, c1, s1, t1, u1, q1⟩ := so_link (L := L) (xs := xs) h1 hf hd
  obtain ⟨D2, c2, s2, t2, u2, q2⟩ := so_link (L := L) (xs := xs) h2 hf D1
  obtain ⟨h3, c, s, t, u, q⟩ := ok D2
  exact ⟨h3, c1 + c2 + c, s1 + s2 + s, sh_To_le (so_le2 b1 b2 w1 w2) (law _ _ _ _ D1 D2 t1 t2 t), by omega, by omega⟩
theorem so_three {k1 k2 k3 F1 W1 F2 W2 F3 W3 : Nat} {lv1 lv2 lv3 : sh_Ls} {o1 o2 o3 : Outcome} {m1 m2 m3 : sh_X} (h1 : sh_Lk k1 0 lv1 [] m o1 m1 F1 W1) (h2 : sh_Lk k2 0 lv2 [] m1 o2 m2 F2 W2) (h3 : sh_Lk k3 0 lv3 [] m2 o3 m3 F3 W3) (hf : sh_isR fm = true) (hd : sh_DD m.T) (ok : sh_DD m3.T → so_Ok (some (L, xs), fm) (i + 6) m3)
    (b1 : F1 + 1 ≤ 2045) (b2 : F2 + 1 ≤ 2045) (b3 : F3 + 1 ≤ 2045) (w1 : 8 + (sh_L sh_G0 k1 + 11) + W1 ≤ 83000) (w2 : 8 + (sh_L sh_G0 k2 + 11) + W2 ≤ 83000) (w3 : 8 + (sh_L sh_G0 k3 + 11) + W3 ≤ 83000)
    (law : ∀ v1 v2 v4 h3 v, sh_DD m1.T → sh_DD m2.T → sh_DD m3.T → sh_To sh_G0 (some (L, xs), fm) k1 0 lv1 [] (sh_rep m.T m.I m.J) o1 (sh_rep m1.T m1.I m1.J) v1 → sh_To sh_G0 (some (L, xs), fm) k2 0 lv2 [] (sh_rep m1.T m1.I m1.J) o2 (sh_rep m2.T m2.I m2.J) v2 → sh_To sh_G0 (some (L, xs), fm) k3 0 lv3 [] (sh_rep m2.T m2.I m2.J) o3 (sh_rep m3.T m3.I m3.J) v4 → sh_To sh_G0 (some (L, xs), fm) 0 23 (so_lv (i + 6)) [] (sh_rep m3.T m3.I m3.J) (.returned (some (.int 1))) h3 v → sh_To sh_G0 (some (L, xs), fm) 0 23 (so_lv i) [] (sh_rep m.T m.I m.J) (.returned (some (.int 1))) h3 (sh_seq (sh_L sh_G0 k1) v1 (sh_seq (sh_L sh_G0 k2) v2 (sh_seq (sh_L sh_G0 k3) v4 v)))) : so_Ok (some (L, xs), fm) i m := by
  obtain ⟨D1, c1, s1, t1, u1, q1⟩ := so_link (L := L) (xs := xs) h1 hf hd
  obtain ⟨D2, c2, s2, t2, u2, q2⟩ := so_link (L := L) (xs := xs) h2 hf D1
  obtain ⟨D3, c3, s3, t3, u3, q3⟩ := so_link (L := L) (xs := xs) h3 hf D2
  obtain ⟨h4, c, s, t, u, q⟩ := ok D3
  refine ⟨h4, c1 + (c2 + c3) + c, s1 + (s2 + s3) + s, sh_To_le ⟨?_, ?_, Nat.max_le.mpr ⟨b1, Nat.max_le.mpr ⟨b2, Nat.max_le.mpr ⟨b3, Nat.le_refl _⟩⟩⟩, Nat.max_le.mpr ⟨w1, Nat.max_le.mpr ⟨w2, Nat.max_le.mpr ⟨w3, Nat.le_refl _⟩⟩⟩⟩ (law _ _ _ _ _ D1 D2 D3 t1 t2 t3 t), by omega, by omega⟩
  · show c1 + (c2 + (c3 + c)) ≤ c1 + (c2 + c3) + c
    omega
  · show s1 + (s2 + (s3 + s)) ≤ s1 + (s2 + s3) + s
    omega
theorem so_sub6 {i : Int32} {a b : Value} : sh_sub (so_lv i) [(4, .int i), (6, a), (5, b), (3, .ref 125), (2, .ref 67), (1, .ref 1), (0, .ref 0)] := sh_sub_c rfl (sh_sub_c rfl (sh_sub_c rfl (sh_sub_c rfl (sh_sub_c rfl sh_sub_n))))
theorem so_sub5 {i : Int32} {b : Value} : sh_sub (so_lv i) [(4, .int i), (5, b), (3, .ref 125), (2, .ref 67), (1, .ref 1), (0, .ref 0)] := sh_sub_c rfl (sh_sub_c rfl (sh_sub_c rfl (sh_sub_c rfl (sh_sub_c rfl sh_sub_n))))
theorem so_c0 (hf : sh_isR fm = true) (hI : sh_Ix i L) (hd : sh_DD m.T) (r : so_R j m) (hj : j ≤ 600) (ok : ∀ m2, so_R (j + 1) m2 → sh_DD m2.T → so_Ok (some (L, xs), fm) (i + 6) m2) (hc : xs (Int32.toNatClampNeg i) &&& 15 = 0) : so_Ok (some (L, xs), fm) i m := by
  obtain ⟨b, m1, m2, e1, e2, r2⟩ := so_feed (x1 := xs (Int32.toNatClampNeg (i + 1))) (x2 := xs (Int32.toNatClampNeg (i + 2))) (x3 := xs (Int32.toNatClampNeg (i + 3))) (x4 := xs (Int32.toNatClampNeg (i + 4))) (x5 := xs (Int32.toNatClampNeg (i + 5))) r hj
  exact so_two (m1 := m1) (m2 := m2) (sl_13 e1 ⟨rfl, rfl⟩) (sl_244 e2 ⟨rfl, rfl⟩) hf hd (fun D => ok m2 r2 D) (Nat.le_of_ble_eq_true rfl) (Nat.le_of_ble_eq_true rfl) (Nat.le_of_ble_eq_true rfl) (Nat.le_of_ble_eq_true rfl) (fun v1 v2 h3 v D1 D2 a b c => sh_law0 rfl hI hc (so_f0 hd) (so_f66 D1) a b rfl c)
theorem so_c1 (hf : sh_isR fm = true) (hI : sh_Ix i L) (hd : sh_DD m.T) (r : so_R j m) (hj : j ≤ 600) (ok : ∀ m2, so_R (j + 1) m2 → sh_DD m2.T → so_Ok (some (L, xs), fm) (i + 6) m2) (hc : xs (Int32.toNatClampNeg i) &&& 15 = 1) : so_Ok (some (L, xs), fm) i m := by
  obtain ⟨b, m1, m2, e1, e2, r2⟩ := so_end (x := xs (Int32.toNatClampNeg (i + 1))) r hj
  exact so_two (m1 := m1) (m2 := m2) (sl_15 e1 ⟨rfl, rfl⟩) (sl_245 e2 ⟨rfl, rfl⟩) hf hd (fun D => ok m2 r2 D) (Nat.le_of_ble_eq_true rfl) (Nat.le_of_ble_eq_true rfl) (Nat.le_of_ble_eq_true rfl) (Nat.le_of_ble_eq_true rfl) (fun v1 v2 h3 v D1 D2 a b c => sh_law1 rfl hI hc (so_f0 hd) (so_f66 D1) a b rfl c)
theorem so_c2 (hf : sh_isR fm = true) (hI : sh_Ix i L) (hd : sh_DD m.T) (r : so_R j m) (hj : j ≤ 600) (ok : ∀ m2, so_R (j + 1) m2 → sh_DD m2.T → so_Ok (some (L, xs), fm) (i + 6) m2) (hc : xs (Int32.toNatClampNeg i) &&& 15 = 2) : so_Ok (some (L, xs), fm) i m := by
  obtain ⟨b, m1, m2, e1, e2, r2⟩ := so_comp  r hj
  exact so_two (m1 := m1) (m2 := m2) (sl_16 e1 ⟨rfl, rfl⟩) (sl_246 e2 ⟨rfl, rfl⟩) hf hd (fun D => ok m2 r2 D) (Nat.le_of_ble_eq_true rfl) (Nat.le_of_ble_eq_true rfl) (Nat.le_of_ble_eq_true rfl) (Nat.le_of_ble_eq_true rfl) (fun v1 v2 h3 v D1 D2 a b c => sh_law2 rfl hI hc (so_f0 hd) (so_f66 D1) a b rfl c)
theorem so_c3 (hf : sh_isR fm = true) (hI : sh_Ix i L) (hd : sh_DD m.T) (r : so_R j m) (hj : j ≤ 600) (ok : ∀ m2, so_R (j + 1) m2 → sh_DD m2.T → so_Ok (some (L, xs), fm) (i + 6) m2) (hc : xs (Int32.toNatClampNeg i) &&& 15 = 3) : so_Ok (some (L, xs), fm) i m := by
  obtain ⟨b, m1, m2, e1, e2, r2⟩ := so_circ  r hj
  exact so_two (m1 := m1) (m2 := m2) (sl_199 e1 ⟨rfl, rfl⟩) (sl_323 e2 ⟨rfl, rfl⟩) hf hd (fun D => ok m2 r2 D) (Nat.le_of_ble_eq_true rfl) (Nat.le_of_ble_eq_true rfl) (Nat.le_of_ble_eq_true rfl) (Nat.le_of_ble_eq_true rfl) (fun v1 v2 h3 v D1 D2 a b c => sh_law3 rfl hI hc (so_f0 hd) (so_f66 D1) a b rfl c)
theorem so_c4 (hf : sh_isR fm = true) (hI : sh_Ix i L) (hd : sh_DD m.T) (r : so_R j m) (hj : j ≤ 600) (ok : ∀ m2, so_R (j + 1) m2 → sh_DD m2.T → so_Ok (some (L, xs), fm) (i + 6) m2) (hc : xs (Int32.toNatClampNeg i) &&& 15 = 4) : so_Ok (some (L, xs), fm) i m := by
  obtain ⟨b, m2, e1, e2, r2⟩ := so_place r hj
  exact so_two (m1 := m) (m2 := m2) (sl_213 e1 ⟨rfl, rfl⟩) (sl_332 e2 ⟨rfl, rfl⟩) hf hd (fun D => ok m2 r2 D) (Nat.le_of_ble_eq_true rfl) (Nat.le_of_ble_eq_true rfl) (Nat.le_of_ble_eq_true rfl) (Nat.le_of_ble_eq_true rfl) (fun v1 v2 h3 v D1 D2 a b c => sh_law4 rfl hI hc (so_f0 hd) (so_f66 D1) a b rfl c)
theorem so_c5 (hf : sh_isR fm = true) (hI : sh_Ix i L) (hd : sh_DD m.T) (r : so_R j m) (hj : j ≤ 600) (ok : ∀ m2, so_R (j + 1) m2 → sh_DD m2.T → so_Ok (some (L, xs), fm) (i + 6) m2) (hc : xs (Int32.toNatClampNeg i) &&& 15 = 5) : so_Ok (some (L, xs), fm) i m := by
  obtain ⟨b, m1, m2, e1, e2, r2⟩ := so_cnt (x := xs (Int32.toNatClampNeg (i + 1))) r hj
  exact so_two (m1 := m1) (m2 := m2) (sl_214 e1 ⟨rfl, rfl⟩) (sl_333 e2 ⟨rfl, rfl⟩) hf hd (fun D => ok m2 r2 D) (Nat.le_of_ble_eq_true rfl) (Nat.le_of_ble_eq_true rfl) (Nat.le_of_ble_eq_true rfl) (Nat.le_of_ble_eq_true rfl) (fun v1 v2 h3 v D1 D2 a b c => sh_law5 rfl hI hc (so_f0 hd) (so_f66 D1) a b rfl c)
theorem so_c8 (hf : sh_isR fm = true) (hI : sh_Ix i L) (hd : sh_DD m.T) (r : so_R j m) (hj : j ≤ 600) (ok : ∀ m2, so_R (j + 1) m2 → sh_DD m2.T → so_Ok (some (L, xs), fm) (i + 6) m2) (hc : xs (Int32.toNatClampNeg i) &&& 15 = 8) : so_Ok (some (L, xs), fm) i m := by
  obtain ⟨m1, m2, e1, e2, r2⟩ := so_coin (x1 := xs (Int32.toNatClampNeg (i + 1))) (x2 := xs (Int32.toNatClampNeg (i + 2))) (x3 := xs (Int32.toNatClampNeg (i + 3))) r hj
  exact so_two (m1 := m1) (m2 := m2) (sl_217 e1 ⟨rfl, rfl⟩) (sl_337 e2 ⟨rfl, rfl⟩) hf hd (fun D => ok m2 r2 D) (Nat.le_of_ble_eq_true rfl) (Nat.le_of_ble_eq_true rfl) (Nat.le_of_ble_eq_true rfl) (Nat.le_of_ble_eq_true rfl) (fun v1 v2 h3 v D1 D2 a b c => sh_law8 rfl hI hc (so_f0 hd) (so_f66 D1) a b c)
theorem so_c9 (hf : sh_isR fm = true) (hI : sh_Ix i L) (hd : sh_DD m.T) (r : so_R j m) (hj : j ≤ 600) (ok : ∀ m2, so_R (j + 1) m2 → sh_DD m2.T → so_Ok (some (L, xs), fm) (i + 6) m2) (hc : xs (Int32.toNatClampNeg i) &&& 15 = 9) : so_Ok (some (L, xs), fm) i m := by
  obtain ⟨b, m1, m2, e1, e2, r2⟩ := so_run  r hj
  exact so_two (m1 := m1) (m2 := m2) (sl_219 e1 ⟨rfl, rfl⟩) (sl_338 e2 ⟨rfl, rfl⟩) hf hd (fun D => ok m2 r2 D) (Nat.le_of_ble_eq_true rfl) (Nat.le_of_ble_eq_true rfl) (Nat.le_of_ble_eq_true rfl) (Nat.le_of_ble_eq_true rfl) (fun v1 v2 h3 v D1 D2 a b c => sh_law9 rfl hI hc (so_f0 hd) (so_f66 D1) a b rfl c)
theorem so_c6 (hf : sh_isR fm = true) (hI : sh_Ix i L) (hd : sh_DD m.T) (r : so_R j m) (hj : j ≤ 600) (ok : ∀ m2, so_R (j + 1) m2 → sh_DD m2.T → so_Ok (some (L, xs), fm) (i + 6) m2) (hc : xs (Int32.toNatClampNeg i) &&& 15 = 6) : so_Ok (some (L, xs), fm) i m := by
  rcases so_bit (x1 := xs (Int32.toNatClampNeg (i + 1))) (x2 := xs (Int32.toNatClampNeg (i + 2))) r hj with ⟨w, m1, m2, e1, e2, e3, e4, r2⟩ | ⟨w, m1, m2, e1, e2, e3, r2⟩
  · exact so_three (m1 := m1) (m2 := m2) (m3 := m2) (sl_236 e1 ⟨rfl, rfl⟩) (sl_334 e2 ⟨rfl, rfl⟩) (sl_243 e3 ⟨rfl, rfl⟩) hf hd (fun D => ok m2 r2 D) (Nat.le_of_ble_eq_true rfl) (Nat.le_of_ble_eq_true rfl) (Nat.le_of_ble_eq_true rfl) (Nat.le_of_ble_eq_true rfl) (Nat.le_of_ble_eq_true rfl) (Nat.le_of_ble_eq_true rfl) (fun v1 v2 v4 h3 v D1 D2 D3 a b c d => sh_law6_0 (p := 0) rfl hI hc (so_f66 D1) (so_f66 D2) a b c ⟨m2.J 124, sh_rep_get (sh_s124 D2.st), e4⟩ (sh_To_sub so_sub6 d))
  · exact so_three (m1 := m1) (m2 := m2) (m3 := m2) (sl_236 e1 ⟨rfl, rfl⟩) (sl_334 e2 ⟨rfl, rfl⟩) (sl_243 e3 ⟨rfl, rfl⟩) hf hd (fun D => ok m2 r2 D) (Nat.le_of_ble_eq_true rfl) (Nat.le_of_ble_eq_true rfl) (Nat.le_of_ble_eq_true rfl) (Nat.le_of_ble_eq_true rfl) (Nat.le_of_ble_eq_true rfl) (Nat.le_of_ble_eq_true rfl) (fun v1 v2 v4 h3 v D1 D2 D3 a b c d => sh_law6_1 (p := 0) rfl hI hc (so_f66 D1) (so_f66 D2) a b c (sh_To_sub so_sub6 d))
theorem so_c7 (hf : sh_isR fm = true) (hI : sh_Ix i L) (hd : sh_DD m.T) (r : so_R j m) (hj : j ≤ 600) (ok : ∀ m2, so_R (j + 1) m2 → sh_DD m2.T → so_Ok (some (L, xs), fm) (i + 6) m2) (hc : xs (Int32.toNatClampNeg i) &&& 15 = 7) : so_Ok (some (L, xs), fm) i m := by
  obtain ⟨w, m1, m2, e1, e2, e3, r2⟩ := so_give (x1 := xs (Int32.toNatClampNeg (i + 1))) (x2 := xs (Int32.toNatClampNeg (i + 2))) (x3 := xs (Int32.toNatClampNeg (i + 3))) (x4 := xs (Int32.toNatClampNeg (i + 4))) r hj
  exact so_three (m1 := m1) (m2 := m2) (m3 := m2) (sl_238 e1 ⟨rfl, rfl⟩) (sl_336 e2 ⟨rfl, rfl⟩) (sl_243 e3 ⟨rfl, rfl⟩) hf hd (fun D => ok m2 r2 D) (Nat.le_of_ble_eq_true rfl) (Nat.le_of_ble_eq_true rfl) (Nat.le_of_ble_eq_true rfl) (Nat.le_of_ble_eq_true rfl) (Nat.le_of_ble_eq_true rfl) (Nat.le_of_ble_eq_true rfl) (fun v1 v2 v4 h3 v D1 D2 D3 a b c d => sh_law7 rfl hI hc (so_f66 D1) (so_f66 D2) a b c (sh_To_sub so_sub5 d))
theorem so_c10 (hf : sh_isR fm = true) (hI : sh_Ix i L) (hd : sh_DD m.T) (r : so_R j m) (hj : j ≤ 600) (ok : ∀ m2, so_R (j + 1) m2 → sh_DD m2.T → so_Ok (some (L, xs), fm) (i + 6) m2) (hc : xs (Int32.toNatClampNeg i) &&& 15 = 10) : so_Ok (some (L, xs), fm) i m := by
  rcases so_val (x := xs (Int32.toNatClampNeg (i + 1))) r hj with ⟨w, m1, m2, e1, e2, e3, e4, r2⟩ | ⟨w, m1, m2, e1, e2, e3, r2⟩
  · exact so_three (m1 := m1) (m2 := m2) (m3 := m2) (sl_240 e1 ⟨rfl, rfl⟩) (sl_340 e2 ⟨rfl, rfl⟩) (sl_243 e3 ⟨rfl, rfl⟩) hf hd (fun D => ok m2 r2 D) (Nat.le_of_ble_eq_true rfl) (Nat.le_of_ble_eq_true rfl) (Nat.le_of_ble_eq_true rfl) (Nat.le_of_ble_eq_true rfl) (Nat.le_of_ble_eq_true rfl) (Nat.le_of_ble_eq_true rfl) (fun v1 v2 v4 h3 v D1 D2 D3 a b c d => sh_law10_0 (p := 0) rfl hI hc (so_f66 D1) (so_f66 D2) a b c ⟨m2.J 124, sh_rep_get (sh_s124 D2.st), e4⟩ (sh_To_sub so_sub6 d))
  · exact so_three (m1 := m1) (m2 := m2) (m3 := m2) (sl_240 e1 ⟨rfl, rfl⟩) (sl_340 e2 ⟨rfl, rfl⟩) (sl_243 e3 ⟨rfl, rfl⟩) hf hd (fun D => ok m2 r2 D) (Nat.le_of_ble_eq_true rfl) (Nat.le_of_ble_eq_true rfl) (Nat.le_of_ble_eq_true rfl) (Nat.le_of_ble_eq_true rfl) (Nat.le_of_ble_eq_true rfl) (Nat.le_of_ble_eq_true rfl) (fun v1 v2 v4 h3 v D1 D2 D3 a b c d => sh_law10_1 (p := 0) rfl hI hc (so_f66 D1) (so_f66 D2) a b c (sh_To_sub so_sub6 d))
theorem so_step (hf : sh_isR fm = true) (hI : sh_Ix i L) (hd : sh_DD m.T) (r : so_R j m) (hj : j ≤ 600) (ok : ∀ m2, so_R (j + 1) m2 → sh_DD m2.T → so_Ok (some (L, xs), fm) (i + 6) m2) : so_Ok (some (L, xs), fm) i m := by
  have pass : so_R (j + 1) m := so_M.R (so_M.of (m2 := m) rfl rfl rfl (fun _ _ _ _ _ => rfl) (fun _ _ => rfl) (fun _ _ _ => rfl)) r hj r.tx
  obtain ⟨n, hn, hc⟩ := sh_16 (xs (Int32.toNatClampNeg i))
  have h16 : n = 0 ∨ n = 1 ∨ n = 2 ∨ n = 3 ∨ n = 4 ∨ n = 5 ∨ n = 6 ∨ n = 7 ∨ n = 8 ∨ n = 9 ∨ n = 10 ∨ n = 11 ∨ n = 12 ∨ n = 13 ∨ n = 14 ∨ n = 15 := by omega
  rcases h16 with rfl | rfl | rfl | rfl | rfl | rfl | rfl | rfl | rfl | rfl | rfl | rfl | rfl | rfl | rfl | rfl
  · exact so_c0 hf hI hd r hj ok hc
  · exact so_c1 hf hI hd r hj ok hc
  · exact so_c2 hf hI hd r hj ok hc
  · exact so_c3 hf hI hd r hj ok hc
  · exact so_c4 hf hI hd r hj ok hc
  · exact so_c5 hf hI hd r hj ok hc
  · exact so_c6 hf hI hd r hj ok hc
  · exact so_c7 hf hI hd r hj ok hc
  · exact so_c8 hf hI hd r hj ok hc
  · exact so_c9 hf hI hd r hj ok hc
  · exact so_c10 hf hI hd r hj ok hc
  · obtain ⟨h3, c, s, t, u, q⟩ := ok m pass hd
    exact ⟨h3, c, s, sh_law11 rfl hI hc t, u, q⟩
  · obtain ⟨h3, c, s, t, u, q⟩ := ok m pass hd
    exact ⟨h3, c, s, sh_law12 rfl hI hc t, u, q⟩
  · obtain ⟨h3, c, s, t, u, q⟩ := ok m pass hd
    exact ⟨h3, c, s, sh_law13 rfl hI hc t, u, q⟩
  · obtain ⟨h3, c, s, t, u, q⟩ := ok m pass hd
    exact ⟨h3, c, s, sh_law14 rfl hI hc t, u, q⟩
  · obtain ⟨h3, c, s, t, u, q⟩ := ok m pass hd
    exact ⟨h3, c, s, sh_law15 rfl hI hc t, u, q⟩
theorem so_ix {n : Nat} (hL : L ≤ 3072) (h : n + 6 ≤ L) : sh_Ix (Int32.ofNat n) L := by
  have e : ∀ k : Nat, k < 6 → ¬ Int32.ofNat (n + k) < 0 ∧ (Int32.ofNat (n + k)).toNatClampNeg < L := fun k hk => ⟨sh_nI0 (by omega), by rw [sh_nIc (by omega)]; omega⟩
  have a : ∀ k : Nat, Int32.ofNat n + Int32.ofNat k = Int32.ofNat (n + k) := fun k => sh_nIadd
  refine ⟨?_, e 0 (by omega), ?_, ?_, ?_, ?_, ?_⟩
  · rw [show Int32.ofNat L - 6 = Int32.ofNat (L - 6) from sh_nIsub (b := 6) (by omega), sh_nIlt (by omega) (by omega)]
    omega
  · rw [show Int32.ofNat n + 1 = Int32.ofNat (n + 1) from a 1]
    exact e 1 (by omega)
  · rw [show Int32.ofNat n + 2 = Int32.ofNat (n + 2) from a 2]
    exact e 2 (by omega)
  · rw [show Int32.ofNat n + 3 = Int32.ofNat (n + 3) from a 3]
    exact e 3 (by omega)
  · rw [show Int32.ofNat n + 4 = Int32.ofNat (n + 4) from a 4]
    exact e 4 (by omega)
  · rw [show Int32.ofNat n + 5 = Int32.ofNat (n + 5) from a 5]
    exact e 5 (by omega)
theorem so_over {n : Nat} (hn : n ≤ 4000) (h : L < n + 6) : Int32.ofNat L - 6 < Int32.ofNat n := by
  rcases Nat.lt_or_ge L 6 with q | q
  · have h0 : Int32.ofNat L - 6 < 0 := by
      have : L = 0 ∨ L = 1 ∨ L = 2 ∨ L = 3 ∨ L = 4 ∨ L = 5 := by omega
      rcases this with rfl | rfl | rfl | rfl | rfl | rfl <;> decide
    have h1 : ¬ Int32.ofNat n < 0 := sh_nI0 (by omega)
    rw [Int32.lt_iff_toInt_lt] at h0 h1 ⊢
    omega
  · rw [show Int32.ofNat L - 6 = Int32.ofNat (L - 6) from sh_nIsub (b := 6) (by omega), sh_nIlt (by omega) (by omega)]
    omega
theorem so_R.sl {j : Nat} {m : sh_X} (r : so_R j m) (hj : j ≤ 600) : m.s ≤ 690000 := by
  obtain ⟨ra, rb, v1, v2, v3⟩ := r.V
  obtain ⟨gs, x, _, _, _, a, b, d, nn, gv⟩ := r.S.GS
  have l : sj_l m = nn := by
    have e : sj_l m = sj_l (so_g x m) := rfl
    rw [e]
    unfold sj_l
    rw [gv.ra, gv.la]
  have n1 := gv.n1
  have l2 := v1.l2
  omega
theorem so_loop (hL : L ≤ 3072) (hf : sh_isR fm = true) : ∀ (q j : Nat) (m : sh_X), j + q = 513 → so_R j m → sh_DD m.T → so_Ok (some (L, xs), fm) (Int32.ofNat (6 * j)) m := by
  intro q
  induction q with
  | zero =>
    intro j m hj r hd
    have e1 := r.len (by omega)
    have e2 := r.sl (by omega)
    exact ⟨_, 0, 0, sh_To_le (v := (0, 0, 8, 200)) ⟨Nat.le_refl _, Nat.le_refl _, Nat.le_of_ble_eq_true rfl, Nat.le_of_ble_eq_true rfl⟩ (sh_lawE (L := L) (xs := xs) (i := Int32.ofNat (6 * j)) rfl rfl rfl (so_over (n := 6 * j) (by omega) (by omega))), by omega, by omega⟩
  | succ q ih =>
    intro j m hj r hd
    rcases Nat.lt_or_ge L (6 * j + 6) with o | o
    · have e1 := r.len (by omega)
      have e2 := r.sl (by omega)
      exact ⟨_, 0, 0, sh_To_le (v := (0, 0, 8, 200)) ⟨Nat.le_refl _, Nat.le_refl _, Nat.le_of_ble_eq_true rfl, Nat.le_of_ble_eq_true rfl⟩ (sh_lawE (L := L) (xs := xs) (i := Int32.ofNat (6 * j)) rfl rfl rfl (so_over (n := 6 * j) (by omega) o)), by omega, by omega⟩
    · refine so_step hf (so_ix hL o) hd r (by omega) (fun m2 r2 d2 => ?_)
      have k := ih (j + 1) m2 (by omega) r2 d2
      rw [show Int32.ofNat (6 * j) + 6 = Int32.ofNat (6 * (j + 1)) from by rw [show 6 * (j + 1) = 6 * j + 6 by omega]; exact sh_nIadd (b := 6)]
      exact k
theorem so_pure : sh_Pure 3072 := by
  intro L xs fm hL hfm
  have hf : sh_isR fm = true := by
    rcases hfm with h | h
    · rw [h]; rfl
    · rw [h]; rfl
  obtain ⟨m0, hT, hI, hJ, hs⟩ := so_ex sh_T0 sh_IX sh_JX 0
  obtain ⟨h3, c, s, t, u, q⟩ := so_loop (L := L) (xs := xs) (fm := fm) hL hf 513 0 m0 (by omega) (so_R0 hT hI hs) (by rw [hT]; exact so_DD0)
  rw [hT, hI, hJ] at t
  rw [hT, so_T0l] at u
  obtain ⟨n, w, hr, hu⟩ := so_begin0 (v := (c, s, 0, 0)) t
  have h1 := hu.1
  have h2 := hu.2.1
  have h4 := hu.2.2.1
  have h5 := hu.2.2.2
  dsimp only at h1 h2 h4 h5
  exact ⟨n, h3, w, hr, by omega, by omega, by omega, by omega⟩
end LawRun
