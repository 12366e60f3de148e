/-! LINKS, printed by gen27.py -/
theorem sl_279_19s {x1 : Int32} {x2 : Int32} {x3 : Int32} {m m2 : sh_X} {o : Outcome} {z : (Int32 ⊕ Bool)} (e : sf_279_19s x1 x2 x3 m = some z) (tg : (sh_el (fun q => sh_Lk 279 19 [(0, .ref 67), (1, .int x1), (2, .int x2), (3, .int q)] [] m o m2 8 200) (sh_tZc m o m2)) z) : sh_Lk 279 19 [(0, .ref 67), (1, .int x1), (2, .int x2), (3, .int x3)] [] m o m2 8 200 := by
  unfold sf_279_19s at e
  refine sh_Lk_lift (T := m.T) (I := m.I) (J := m.J) (s := m.s) (pc2 := 25) (lv2 := [(0, .ref 67), (1, .int x1), (2, .int x2), (3, .int x3)]) (st2 := [.int x1, .ref 71, .int x3]) (I2 := m.I) (J2 := m.J) (fun hT v kk => ?_) ?_
  · refine sh_w (i := (.iload_n 3)) (len := 1) (pc2 := 20) (lv2 := [(0, .ref 67), (1, .int x1), (2, .int x2), (3, .int x3)]) (st2 := [.int x3]) (h2 := (sh_rep m.T m.I m.J)) rfl rfl rfl ?_
    refine sh_w (i := (.aload_n 0)) (len := 1) (pc2 := 21) (lv2 := [(0, .ref 67), (1, .int x1), (2, .int x2), (3, .int x3)]) (st2 := [.ref 67, .int x3]) (h2 := (sh_rep m.T m.I m.J)) rfl rfl rfl ?_
    refine sh_gR1 (len := 3) (x := .ref 71) (pc2 := 24) rfl rfl (sh_s66 hT.st) rfl rfl ?_
    refine sh_w (i := (.iload_n 1)) (len := 1) (pc2 := 25) (lv2 := [(0, .ref 67), (1, .int x1), (2, .int x2), (3, .int x3)]) (st2 := [.int x1, .ref 71, .int x3]) (h2 := (sh_rep m.T m.I m.J)) rfl rfl rfl ?_
    exact kk
  obtain ⟨c, e⟩ := sh_gd e
  refine sh_Lk_lift (T := m.T) (I := m.I) (J := m.J) (s := m.s) (pc2 := 26) (lv2 := [(0, .ref 67), (1, .int x1), (2, .int x2), (3, .int x3)]) (st2 := [.int (m.I 70 (Int32.toNatClampNeg x1)), .int x3]) (I2 := m.I) (J2 := m.J) (fun hT v kk => ?_) ?_
  · refine sh_ia1 (x := m.I 70 (Int32.toNatClampNeg x1)) (pc2 := 26) rfl (sh_s70 hT.st) (sh_okb1 c) (sh_okb2 c) rfl rfl ?_
    exact kk
  rcases sh_ite e with ⟨c, e⟩ | ⟨c, e⟩
  · refine sh_Lk_lift (T := m.T) (I := m.I) (J := m.J) (s := m.s) (pc2 := 38) (lv2 := [(0, .ref 67), (1, .int x1), (2, .int x2), (3, .int x3)]) (st2 := [.int x1, .ref 70, .ref 72]) (I2 := m.I) (J2 := m.J) (fun hT v kk => ?_) ?_
    · refine sh_jc (c := .ge) (off := (40)) (pc2 := 29) false rfl (sh_Bgef c) rfl ?_
      refine sh_w (i := (.aload_n 0)) (len := 1) (pc2 := 30) (lv2 := [(0, .ref 67), (1, .int x1), (2, .int x2), (3, .int x3)]) (st2 := [.ref 67]) (h2 := (sh_rep m.T m.I m.J)) rfl rfl rfl ?_
      refine sh_gR1 (len := 3) (x := .ref 72) (pc2 := 33) rfl rfl (sh_s66 hT.st) rfl rfl ?_
      refine sh_w (i := (.aload_n 0)) (len := 1) (pc2 := 34) (lv2 := [(0, .ref 67), (1, .int x1), (2, .int x2), (3, .int x3)]) (st2 := [.ref 67, .ref 72]) (h2 := (sh_rep m.T m.I m.J)) rfl rfl rfl ?_
      refine sh_gR1 (len := 3) (x := .ref 70) (pc2 := 37) rfl rfl (sh_s66 hT.st) rfl rfl ?_
      refine sh_w (i := (.iload_n 1)) (len := 1) (pc2 := 38) (lv2 := [(0, .ref 67), (1, .int x1), (2, .int x2), (3, .int x3)]) (st2 := [.int x1, .ref 70, .ref 72]) (h2 := (sh_rep m.T m.I m.J)) rfl rfl rfl ?_
      exact kk
    obtain ⟨c, e⟩ := sh_gd e
    refine sh_Lk_lift (T := m.T) (I := m.I) (J := m.J) (s := m.s) (pc2 := 41) (lv2 := [(0, .ref 67), (1, .int x1), (2, .int x2), (3, .int x3)]) (st2 := [.int ((m.I 69 (Int32.toNatClampNeg x1)) + x3), .ref 72]) (I2 := m.I) (J2 := m.J) (fun hT v kk => ?_) ?_
    · refine sh_ia1 (x := m.I 69 (Int32.toNatClampNeg x1)) (pc2 := 39) rfl (sh_s69 hT.st) (sh_okb1 c) (sh_okb2 c) rfl rfl ?_
      refine sh_w (i := (.iload_n 3)) (len := 1) (pc2 := 40) (lv2 := [(0, .ref 67), (1, .int x1), (2, .int x2), (3, .int x3)]) (st2 := [.int x3, .int (m.I 69 (Int32.toNatClampNeg x1)), .ref 72]) (h2 := (sh_rep m.T m.I m.J)) rfl rfl rfl ?_
      refine sh_w (i := .iadd) (len := 1) (pc2 := 41) (lv2 := [(0, .ref 67), (1, .int x1), (2, .int x2), (3, .int x3)]) (st2 := [.int ((m.I 69 (Int32.toNatClampNeg x1)) + x3), .ref 72]) (h2 := (sh_rep m.T m.I m.J)) rfl rfl rfl ?_
      exact kk
    obtain ⟨c, e⟩ := sh_gd e
    refine sh_Lk_lift (T := m.T) (I := m.I) (J := m.J) (s := m.s) (pc2 := 51) (lv2 := [(0, .ref 67), (1, .int x1), (2, .int x2), (3, .int x3)]) (st2 := [.int x2, .ref 70, .ref 72, .int (m.I 71 (Int32.toNatClampNeg ((m.I 69 (Int32.toNatClampNeg x1)) + x3)))]) (I2 := m.I) (J2 := m.J) (fun hT v kk => ?_) ?_
    · refine sh_ba1 (x := m.I 71 (Int32.toNatClampNeg ((m.I 69 (Int32.toNatClampNeg x1)) + x3))) (pc2 := 42) rfl (sh_s71 hT.st) (Or.inl rfl) (sh_okb1 c) (sh_okb2 c) rfl rfl ?_
      refine sh_w (i := (.aload_n 0)) (len := 1) (pc2 := 43) (lv2 := [(0, .ref 67), (1, .int x1), (2, .int x2), (3, .int x3)]) (st2 := [.ref 67, .int (m.I 71 (Int32.toNatClampNeg ((m.I 69 (Int32.toNatClampNeg x1)) + x3)))]) (h2 := (sh_rep m.T m.I m.J)) rfl rfl rfl ?_
      refine sh_gR1 (len := 3) (x := .ref 72) (pc2 := 46) rfl rfl (sh_s66 hT.st) rfl rfl ?_
      refine sh_w (i := (.aload_n 0)) (len := 1) (pc2 := 47) (lv2 := [(0, .ref 67), (1, .int x1), (2, .int x2), (3, .int x3)]) (st2 := [.ref 67, .ref 72, .int (m.I 71 (Int32.toNatClampNeg ((m.I 69 (Int32.toNatClampNeg x1)) + x3)))]) (h2 := (sh_rep m.T m.I m.J)) rfl rfl rfl ?_
      refine sh_gR1 (len := 3) (x := .ref 70) (pc2 := 50) rfl rfl (sh_s66 hT.st) rfl rfl ?_
      refine sh_w (i := (.iload_n 2)) (len := 1) (pc2 := 51) (lv2 := [(0, .ref 67), (1, .int x1), (2, .int x2), (3, .int x3)]) (st2 := [.int x2, .ref 70, .ref 72, .int (m.I 71 (Int32.toNatClampNeg ((m.I 69 (Int32.toNatClampNeg x1)) + x3)))]) (h2 := (sh_rep m.T m.I m.J)) rfl rfl rfl ?_
      exact kk
    obtain ⟨c, e⟩ := sh_gd e
    refine sh_Lk_lift (T := m.T) (I := m.I) (J := m.J) (s := m.s) (pc2 := 54) (lv2 := [(0, .ref 67), (1, .int x1), (2, .int x2), (3, .int x3)]) (st2 := [.int ((m.I 69 (Int32.toNatClampNeg x2)) + x3), .ref 72, .int (m.I 71 (Int32.toNatClampNeg ((m.I 69 (Int32.toNatClampNeg x1)) + x3)))]) (I2 := m.I) (J2 := m.J) (fun hT v kk => ?_) ?_
    · refine sh_ia1 (x := m.I 69 (Int32.toNatClampNeg x2)) (pc2 := 52) rfl (sh_s69 hT.st) (sh_okb1 c) (sh_okb2 c) rfl rfl ?_
      refine sh_w (i := (.iload_n 3)) (len := 1) (pc2 := 53) (lv2 := [(0, .ref 67), (1, .int x1), (2, .int x2), (3, .int x3)]) (st2 := [.int x3, .int (m.I 69 (Int32.toNatClampNeg x2)), .ref 72, .int (m.I 71 (Int32.toNatClampNeg ((m.I 69 (Int32.toNatClampNeg x1)) + x3)))]) (h2 := (sh_rep m.T m.I m.J)) rfl rfl rfl ?_
      refine sh_w (i := .iadd) (len := 1) (pc2 := 54) (lv2 := [(0, .ref 67), (1, .int x1), (2, .int x2), (3, .int x3)]) (st2 := [.int ((m.I 69 (Int32.toNatClampNeg x2)) + x3), .ref 72, .int (m.I 71 (Int32.toNatClampNeg ((m.I 69 (Int32.toNatClampNeg x1)) + x3)))]) (h2 := (sh_rep m.T m.I m.J)) rfl rfl rfl ?_
      exact kk
    obtain ⟨c, e⟩ := sh_gd e
    refine sh_Lk_lift (T := m.T) (I := m.I) (J := m.J) (s := m.s) (pc2 := 55) (lv2 := [(0, .ref 67), (1, .int x1), (2, .int x2), (3, .int x3)]) (st2 := [.int (m.I 71 (Int32.toNatClampNeg ((m.I 69 (Int32.toNatClampNeg x2)) + x3))), .int (m.I 71 (Int32.toNatClampNeg ((m.I 69 (Int32.toNatClampNeg x1)) + x3)))]) (I2 := m.I) (J2 := m.J) (fun hT v kk => ?_) ?_
    · refine sh_ba1 (x := m.I 71 (Int32.toNatClampNeg ((m.I 69 (Int32.toNatClampNeg x2)) + x3))) (pc2 := 55) rfl (sh_s71 hT.st) (Or.inl rfl) (sh_okb1 c) (sh_okb2 c) rfl rfl ?_
      exact kk
    rcases sh_ite e with ⟨c, e⟩ | ⟨c, e⟩
    · refine sh_Lk_lift (T := m.T) (I := m.I) (J := m.J) (s := m.s) (pc2 := 19) (lv2 := [(3, .int (x3 + 1)), (0, .ref 67), (1, .int x1), (2, .int x2)]) (st2 := []) (I2 := m.I) (J2 := m.J) (fun hT v kk => ?_) ?_
      · refine sh_jc (c := .eq) (off := (5)) (pc2 := 60) true rfl (sh_Beqt c) rfl ?_
        refine sh_w (i := (.iinc 3 1)) (len := 3) (pc2 := 63) (lv2 := [(3, .int (x3 + 1)), (0, .ref 67), (1, .int x1), (2, .int x2)]) (st2 := []) (h2 := (sh_rep m.T m.I m.J)) rfl rfl rfl ?_
        refine sh_w (i := (.goto (-44))) (len := 3) (pc2 := 19) (lv2 := [(3, .int (x3 + 1)), (0, .ref 67), (1, .int x1), (2, .int x2)]) (st2 := []) (h2 := (sh_rep m.T m.I m.J)) rfl rfl rfl ?_
        exact kk
      obtain rfl := Option.some.inj e
      exact sh_Lk_sub (sh_sub_c rfl (sh_sub_c rfl (sh_sub_c rfl (sh_sub_c rfl (sh_sub_n))))) tg
    · refine sh_Lk_lift (T := m.T) (I := m.I) (J := m.J) (s := m.s) (pc2 := 59) (lv2 := [(0, .ref 67), (1, .int x1), (2, .int x2), (3, .int x3)]) (st2 := [.int 0]) (I2 := m.I) (J2 := m.J) (fun hT v kk => ?_) ?_
      · refine sh_jc (c := .eq) (off := (5)) (pc2 := 58) false rfl (sh_Beqf c) rfl ?_
        refine sh_w (i := (.iconst 0)) (len := 1) (pc2 := 59) (lv2 := [(0, .ref 67), (1, .int x1), (2, .int x2), (3, .int x3)]) (st2 := [.int 0]) (h2 := (sh_rep m.T m.I m.J)) rfl rfl rfl ?_
        exact kk
      obtain rfl := Option.some.inj e
      obtain ⟨rfl, rfl⟩ := tg
      exact sh_Lk_ret (i := .ireturn) rfl rfl rfl (Nat.le_of_ble_eq_true rfl) (Nat.le_of_ble_eq_true rfl)
  · refine sh_Lk_lift (T := m.T) (I := m.I) (J := m.J) (s := m.s) (pc2 := 67) (lv2 := [(0, .ref 67), (1, .int x1), (2, .int x2), (3, .int x3)]) (st2 := [.int 1]) (I2 := m.I) (J2 := m.J) (fun hT v kk => ?_) ?_
    · refine sh_jc (c := .ge) (off := (40)) (pc2 := 66) true rfl (sh_Bget c) rfl ?_
      refine sh_w (i := (.iconst 1)) (len := 1) (pc2 := 67) (lv2 := [(0, .ref 67), (1, .int x1), (2, .int x2), (3, .int x3)]) (st2 := [.int 1]) (h2 := (sh_rep m.T m.I m.J)) rfl rfl rfl ?_
      exact kk
    obtain rfl := Option.some.inj e
    obtain ⟨rfl, rfl⟩ := tg
    exact sh_Lk_ret (i := .ireturn) rfl rfl rfl (Nat.le_of_ble_eq_true rfl) (Nat.le_of_ble_eq_true rfl)
theorem sl_279_19 {x1 : Int32} {x2 : Int32} {x3 : Int32} {m m2 : sh_X} {o : Outcome} {z : Bool} (e : sf_279_19 x1 x2 x3 m = some z) (tg : (sh_tZc m o m2) z) : sh_Lk 279 19 [(0, .ref 67), (1, .int x1), (2, .int x2), (3, .int x3)] [] m o m2 8 200 := by
  unfold sf_279_19 at e
  exact sh_while_lk (P := fun q => sh_Lk 279 19 [(0, .ref 67), (1, .int x1), (2, .int x2), (3, .int q)] [] m o m2 8 200) (Q := (sh_tZc m o m2)) (fun q z e tg => sl_279_19s (x1 := x1) (x2 := x2) (x3 := q) (m := m) e tg) (s := x3) e tg
theorem sl_279 {x1 : Int32} {x2 : Int32} {m m2 : sh_X} {o : Outcome} {z : Bool} (e : sf_279 x1 x2 m = some z) (tg : (sh_tZc m o m2) z) : sh_Lk 279 0 [(0, .ref 67), (1, .int x1), (2, .int x2)] [] m o m2 8 200 := by
  unfold sf_279 at e
  refine sh_Lk_lift (T := m.T) (I := m.I) (J := m.J) (s := m.s) (pc2 := 5) (lv2 := [(0, .ref 67), (1, .int x1), (2, .int x2)]) (st2 := [.int x1, .ref 71]) (I2 := m.I) (J2 := m.J) (fun hT v kk => ?_) ?_
  · refine sh_w (i := (.aload_n 0)) (len := 1) (pc2 := 1) (lv2 := [(0, .ref 67), (1, .int x1), (2, .int x2)]) (st2 := [.ref 67]) (h2 := (sh_rep m.T m.I m.J)) rfl rfl rfl ?_
    refine sh_gR1 (len := 3) (x := .ref 71) (pc2 := 4) rfl rfl (sh_s66 hT.st) rfl rfl ?_
    refine sh_w (i := (.iload_n 1)) (len := 1) (pc2 := 5) (lv2 := [(0, .ref 67), (1, .int x1), (2, .int x2)]) (st2 := [.int x1, .ref 71]) (h2 := (sh_rep m.T m.I m.J)) rfl rfl rfl ?_
    exact kk
  obtain ⟨c, e⟩ := sh_gd e
  refine sh_Lk_lift (T := m.T) (I := m.I) (J := m.J) (s := m.s) (pc2 := 11) (lv2 := [(0, .ref 67), (1, .int x1), (2, .int x2)]) (st2 := [.int x2, .ref 71, .int (m.I 70 (Int32.toNatClampNeg x1))]) (I2 := m.I) (J2 := m.J) (fun hT v kk => ?_) ?_
  · refine sh_ia1 (x := m.I 70 (Int32.toNatClampNeg x1)) (pc2 := 6) rfl (sh_s70 hT.st) (sh_okb1 c) (sh_okb2 c) rfl rfl ?_
    refine sh_w (i := (.aload_n 0)) (len := 1) (pc2 := 7) (lv2 := [(0, .ref 67), (1, .int x1), (2, .int x2)]) (st2 := [.ref 67, .int (m.I 70 (Int32.toNatClampNeg x1))]) (h2 := (sh_rep m.T m.I m.J)) rfl rfl rfl ?_
    refine sh_gR1 (len := 3) (x := .ref 71) (pc2 := 10) rfl rfl (sh_s66 hT.st) rfl rfl ?_
    refine sh_w (i := (.iload_n 2)) (len := 1) (pc2 := 11) (lv2 := [(0, .ref 67), (1, .int x1), (2, .int x2)]) (st2 := [.int x2, .ref 71, .int (m.I 70 (Int32.toNatClampNeg x1))]) (h2 := (sh_rep m.T m.I m.J)) rfl rfl rfl ?_
    exact kk
  obtain ⟨c, e⟩ := sh_gd e
  refine sh_Lk_lift (T := m.T) (I := m.I) (J := m.J) (s := m.s) (pc2 := 12) (lv2 := [(0, .ref 67), (1, .int x1), (2, .int x2)]) (st2 := [.int (m.I 70 (Int32.toNatClampNeg x2)), .int (m.I 70 (Int32.toNatClampNeg x1))]) (I2 := m.I) (J2 := m.J) (fun hT v kk => ?_) ?_
  · refine sh_ia1 (x := m.I 70 (Int32.toNatClampNeg x2)) (pc2 := 12) rfl (sh_s70 hT.st) (sh_okb1 c) (sh_okb2 c) rfl rfl ?_
    exact kk
  rcases sh_ite e with ⟨c, e⟩ | ⟨c, e⟩
  · refine sh_Lk_lift (T := m.T) (I := m.I) (J := m.J) (s := m.s) (pc2 := 19) (lv2 := [(3, .int 0), (0, .ref 67), (1, .int x1), (2, .int x2)]) (st2 := []) (I2 := m.I) (J2 := m.J) (fun hT v kk => ?_) ?_
    · refine sh_jc (c := .eq) (off := (5)) (pc2 := 17) true rfl (sh_Beqt c) rfl ?_
      refine sh_w (i := (.iconst 0)) (len := 1) (pc2 := 18) (lv2 := [(0, .ref 67), (1, .int x1), (2, .int x2)]) (st2 := [.int 0]) (h2 := (sh_rep m.T m.I m.J)) rfl rfl rfl ?_
      refine sh_w (i := (.istore_n 3)) (len := 1) (pc2 := 19) (lv2 := [(3, .int 0), (0, .ref 67), (1, .int x1), (2, .int x2)]) (st2 := []) (h2 := (sh_rep m.T m.I m.J)) rfl rfl rfl ?_
      exact kk
    exact sh_Lk_sub (sh_sub_c rfl (sh_sub_c rfl (sh_sub_c rfl (sh_sub_c rfl (sh_sub_n))))) (sl_279_19 e tg)
  · refine sh_Lk_lift (T := m.T) (I := m.I) (J := m.J) (s := m.s) (pc2 := 16) (lv2 := [(0, .ref 67), (1, .int x1), (2, .int x2)]) (st2 := [.int 0]) (I2 := m.I) (J2 := m.J) (fun hT v kk => ?_) ?_
    · refine sh_jc (c := .eq) (off := (5)) (pc2 := 15) false rfl (sh_Beqf c) rfl ?_
      refine sh_w (i := (.iconst 0)) (len := 1) (pc2 := 16) (lv2 := [(0, .ref 67), (1, .int x1), (2, .int x2)]) (st2 := [.int 0]) (h2 := (sh_rep m.T m.I m.J)) rfl rfl rfl ?_
      exact kk
    obtain rfl := Option.some.inj e
    obtain ⟨rfl, rfl⟩ := tg
    exact sh_Lk_ret (i := .ireturn) rfl rfl rfl (Nat.le_of_ble_eq_true rfl) (Nat.le_of_ble_eq_true rfl)
theorem sl_281_5s {x1 : Int32} {x2 : Int64} {x4 : Int32} {m m2 : sh_X} {o : Outcome} {z : ((Int64 × Int32) ⊕ Int64)} (e : sf_281_5s x1 x2 x4 m = some z) (tg : (sh_el (fun q => sh_Lk 281 5 [(0, .ref 67), (1, .int x1), (2, .long q.1), (4, .int q.2)] [] m o m2 8 200) (sh_tJc m o m2)) z) : sh_Lk 281 5 [(0, .ref 67), (1, .int x1), (2, .long x2), (4, .int x4)] [] m o m2 8 200 := by
  unfold sf_281_5s at e
  refine sh_Lk_lift (T := m.T) (I := m.I) (J := m.J) (s := m.s) (pc2 := 12) (lv2 := [(0, .ref 67), (1, .int x1), (2, .long x2), (4, .int x4)]) (st2 := [.int x1, .ref 71, .int x4]) (I2 := m.I) (J2 := m.J) (fun hT v kk => ?_) ?_
  · refine sh_w (i := (.iload 4)) (len := 2) (pc2 := 7) (lv2 := [(0, .ref 67), (1, .int x1), (2, .long x2), (4, .int x4)]) (st2 := [.int x4]) (h2 := (sh_rep m.T m.I m.J)) rfl rfl rfl ?_
    refine sh_w (i := (.aload_n 0)) (len := 1) (pc2 := 8) (lv2 := [(0, .ref 67), (1, .int x1), (2, .long x2), (4, .int x4)]) (st2 := [.ref 67, .int x4]) (h2 := (sh_rep m.T m.I m.J)) rfl rfl rfl ?_
    refine sh_gR1 (len := 3) (x := .ref 71) (pc2 := 11) rfl rfl (sh_s66 hT.st) rfl rfl ?_
    refine sh_w (i := (.iload_n 1)) (len := 1) (pc2 := 12) (lv2 := [(0, .ref 67), (1, .int x1), (2, .long x2), (4, .int x4)]) (st2 := [.int x1, .ref 71, .int x4]) (h2 := (sh_rep m.T m.I m.J)) rfl rfl rfl ?_
    exact kk
  obtain ⟨c, e⟩ := sh_gd e
  refine sh_Lk_lift (T := m.T) (I := m.I) (J := m.J) (s := m.s) (pc2 := 13) (lv2 := [(0, .ref 67), (1, .int x1), (2, .long x2), (4, .int x4)]) (st2 := [.int (m.I 70 (Int32.toNatClampNeg x1)), .int x4]) (I2 := m.I) (J2 := m.J) (fun hT v kk => ?_) ?_
  · refine sh_ia1 (x := m.I 70 (Int32.toNatClampNeg x1)) (pc2 := 13) rfl (sh_s70 hT.st) (sh_okb1 c) (sh_okb2 c) rfl rfl ?_
    exact kk
  rcases sh_ite e with ⟨c, e⟩ | ⟨c, e⟩
  · refine sh_Lk_lift (T := m.T) (I := m.I) (J := m.J) (s := m.s) (pc2 := 30) (lv2 := [(0, .ref 67), (1, .int x1), (2, .long x2), (4, .int x4)]) (st2 := [.int x1, .ref 70, .ref 72, .long ((10 : Int64) * x2)]) (I2 := m.I) (J2 := m.J) (fun hT v kk => ?_) ?_
    · refine sh_jc (c := .ge) (off := (35)) (pc2 := 16) false rfl (sh_Bgef c) rfl ?_
      refine sh_w (i := (.ldc2_w 240)) (len := 3) (pc2 := 19) (lv2 := [(0, .ref 67), (1, .int x1), (2, .long x2), (4, .int x4)]) (st2 := [.long 10]) (h2 := (sh_rep m.T m.I m.J)) rfl rfl rfl ?_
      refine sh_w (i := (.lload_n 2)) (len := 1) (pc2 := 20) (lv2 := [(0, .ref 67), (1, .int x1), (2, .long x2), (4, .int x4)]) (st2 := [.long x2, .long 10]) (h2 := (sh_rep m.T m.I m.J)) rfl rfl rfl ?_
      refine sh_w (i := .lmul) (len := 1) (pc2 := 21) (lv2 := [(0, .ref 67), (1, .int x1), (2, .long x2), (4, .int x4)]) (st2 := [.long ((10 : Int64) * x2)]) (h2 := (sh_rep m.T m.I m.J)) rfl rfl rfl ?_
      refine sh_w (i := (.aload_n 0)) (len := 1) (pc2 := 22) (lv2 := [(0, .ref 67), (1, .int x1), (2, .long x2), (4, .int x4)]) (st2 := [.ref 67, .long ((10 : Int64) * x2)]) (h2 := (sh_rep m.T m.I m.J)) rfl rfl rfl ?_
      refine sh_gR1 (len := 3) (x := .ref 72) (pc2 := 25) rfl rfl (sh_s66 hT.st) rfl rfl ?_
      refine sh_w (i := (.aload_n 0)) (len := 1) (pc2 := 26) (lv2 := [(0, .ref 67), (1, .int x1), (2, .long x2), (4, .int x4)]) (st2 := [.ref 67, .ref 72, .long ((10 : Int64) * x2)]) (h2 := (sh_rep m.T m.I m.J)) rfl rfl rfl ?_
      refine sh_gR1 (len := 3) (x := .ref 70) (pc2 := 29) rfl rfl (sh_s66 hT.st) rfl rfl ?_
      refine sh_w (i := (.iload_n 1)) (len := 1) (pc2 := 30) (lv2 := [(0, .ref 67), (1, .int x1), (2, .long x2), (4, .int x4)]) (st2 := [.int x1, .ref 70, .ref 72, .long ((10 : Int64) * x2)]) (h2 := (sh_rep m.T m.I m.J)) rfl rfl rfl ?_
      exact kk
    obtain ⟨c, e⟩ := sh_gd e
    refine sh_Lk_lift (T := m.T) (I := m.I) (J := m.J) (s := m.s) (pc2 := 34) (lv2 := [(0, .ref 67), (1, .int x1), (2, .long x2), (4, .int x4)]) (st2 := [.int ((m.I 69 (Int32.toNatClampNeg x1)) + x4), .ref 72, .long ((10 : Int64) * x2)]) (I2 := m.I) (J2 := m.J) (fun hT v kk => ?_) ?_
    · refine sh_ia1 (x := m.I 69 (Int32.toNatClampNeg x1)) (pc2 := 31) rfl (sh_s69 hT.st) (sh_okb1 c) (sh_okb2 c) rfl rfl ?_
      refine sh_w (i := (.iload 4)) (len := 2) (pc2 := 33) (lv2 := [(0, .ref 67), (1, .int x1), (2, .long x2), (4, .int x4)]) (st2 := [.int x4, .int (m.I 69 (Int32.toNatClampNeg x1)), .ref 72, .long ((10 : Int64) * x2)]) (h2 := (sh_rep m.T m.I m.J)) rfl rfl rfl ?_
      refine sh_w (i := .iadd) (len := 1) (pc2 := 34) (lv2 := [(0, .ref 67), (1, .int x1), (2, .long x2), (4, .int x4)]) (st2 := [.int ((m.I 69 (Int32.toNatClampNeg x1)) + x4), .ref 72, .long ((10 : Int64) * x2)]) (h2 := (sh_rep m.T m.I m.J)) rfl rfl rfl ?_
      exact kk
    obtain ⟨c, e⟩ := sh_gd e
    refine sh_Lk_lift (T := m.T) (I := m.I) (J := m.J) (s := m.s) (pc2 := 5) (lv2 := [(4, .int (x4 + 1)), (2, .long ((((10 : Int64) * x2) + (Int32.toInt64 (m.I 71 (Int32.toNatClampNeg ((m.I 69 (Int32.toNatClampNeg x1)) + x4))))) - (48 : Int64))), (0, .ref 67), (1, .int x1)]) (st2 := []) (I2 := m.I) (J2 := m.J) (fun hT v kk => ?_) ?_
    · refine sh_ba1 (x := m.I 71 (Int32.toNatClampNeg ((m.I 69 (Int32.toNatClampNeg x1)) + x4))) (pc2 := 35) rfl (sh_s71 hT.st) (Or.inl rfl) (sh_okb1 c) (sh_okb2 c) rfl rfl ?_
      refine sh_w (i := .i2l) (len := 1) (pc2 := 36) (lv2 := [(0, .ref 67), (1, .int x1), (2, .long x2), (4, .int x4)]) (st2 := [.long (Int32.toInt64 (m.I 71 (Int32.toNatClampNeg ((m.I 69 (Int32.toNatClampNeg x1)) + x4)))), .long ((10 : Int64) * x2)]) (h2 := (sh_rep m.T m.I m.J)) rfl rfl rfl ?_
      refine sh_w (i := .ladd) (len := 1) (pc2 := 37) (lv2 := [(0, .ref 67), (1, .int x1), (2, .long x2), (4, .int x4)]) (st2 := [.long (((10 : Int64) * x2) + (Int32.toInt64 (m.I 71 (Int32.toNatClampNeg ((m.I 69 (Int32.toNatClampNeg x1)) + x4)))))]) (h2 := (sh_rep m.T m.I m.J)) rfl rfl rfl ?_
      refine sh_w (i := (.ldc2_w 242)) (len := 3) (pc2 := 40) (lv2 := [(0, .ref 67), (1, .int x1), (2, .long x2), (4, .int x4)]) (st2 := [.long 48, .long (((10 : Int64) * x2) + (Int32.toInt64 (m.I 71 (Int32.toNatClampNeg ((m.I 69 (Int32.toNatClampNeg x1)) + x4)))))]) (h2 := (sh_rep m.T m.I m.J)) rfl rfl rfl ?_
      refine sh_w (i := .lsub) (len := 1) (pc2 := 41) (lv2 := [(0, .ref 67), (1, .int x1), (2, .long x2), (4, .int x4)]) (st2 := [.long ((((10 : Int64) * x2) + (Int32.toInt64 (m.I 71 (Int32.toNatClampNeg ((m.I 69 (Int32.toNatClampNeg x1)) + x4))))) - (48 : Int64))]) (h2 := (sh_rep m.T m.I m.J)) rfl rfl rfl ?_
      refine sh_w (i := (.lstore_n 2)) (len := 1) (pc2 := 42) (lv2 := [(2, .long ((((10 : Int64) * x2) + (Int32.toInt64 (m.I 71 (Int32.toNatClampNeg ((m.I 69 (Int32.toNatClampNeg x1)) + x4))))) - (48 : Int64))), (0, .ref 67), (1, .int x1), (4, .int x4)]) (st2 := []) (h2 := (sh_rep m.T m.I m.J)) rfl rfl rfl ?_
      refine sh_w (i := (.iinc 4 1)) (len := 3) (pc2 := 45) (lv2 := [(4, .int (x4 + 1)), (2, .long ((((10 : Int64) * x2) + (Int32.toInt64 (m.I 71 (Int32.toNatClampNeg ((m.I 69 (Int32.toNatClampNeg x1)) + x4))))) - (48 : Int64))), (0, .ref 67), (1, .int x1)]) (st2 := []) (h2 := (sh_rep m.T m.I m.J)) rfl rfl rfl ?_
      refine sh_w (i := (.goto (-40))) (len := 3) (pc2 := 5) (lv2 := [(4, .int (x4 + 1)), (2, .long ((((10 : Int64) * x2) + (Int32.toInt64 (m.I 71 (Int32.toNatClampNeg ((m.I 69 (Int32.toNatClampNeg x1)) + x4))))) - (48 : Int64))), (0, .ref 67), (1, .int x1)]) (st2 := []) (h2 := (sh_rep m.T m.I m.J)) rfl rfl rfl ?_
      exact kk
    obtain rfl := Option.some.inj e
    exact sh_Lk_sub (sh_sub_c rfl (sh_sub_c rfl (sh_sub_c rfl (sh_sub_c rfl (sh_sub_n))))) tg
  · refine sh_Lk_lift (T := m.T) (I := m.I) (J := m.J) (s := m.s) (pc2 := 49) (lv2 := [(0, .ref 67), (1, .int x1), (2, .long x2), (4, .int x4)]) (st2 := [.long x2]) (I2 := m.I) (J2 := m.J) (fun hT v kk => ?_) ?_
    · refine sh_jc (c := .ge) (off := (35)) (pc2 := 48) true rfl (sh_Bget c) rfl ?_
      refine sh_w (i := (.lload_n 2)) (len := 1) (pc2 := 49) (lv2 := [(0, .ref 67), (1, .int x1), (2, .long x2), (4, .int x4)]) (st2 := [.long x2]) (h2 := (sh_rep m.T m.I m.J)) rfl rfl rfl ?_
      exact kk
    obtain rfl := Option.some.inj e
    obtain ⟨rfl, rfl⟩ := tg
    exact sh_Lk_ret (i := .lreturn) rfl rfl rfl (Nat.le_of_ble_eq_true rfl) (Nat.le_of_ble_eq_true rfl)
theorem sl_281_5 {x1 : Int32} {x2 : Int64} {x4 : Int32} {m m2 : sh_X} {o : Outcome} {z : Int64} (e : sf_281_5 x1 x2 x4 m = some z) (tg : (sh_tJc m o m2) z) : sh_Lk 281 5 [(0, .ref 67), (1, .int x1), (2, .long x2), (4, .int x4)] [] m o m2 8 200 := by
  unfold sf_281_5 at e
  exact sh_while_lk (P := fun q => sh_Lk 281 5 [(0, .ref 67), (1, .int x1), (2, .long q.1), (4, .int q.2)] [] m o m2 8 200) (Q := (sh_tJc m o m2)) (fun q z e tg => sl_281_5s (x1 := x1) (x2 := q.1) (x4 := q.2) (m := m) e tg) (s := (x2, x4)) e tg
theorem sl_281 {x1 : Int32} {m m2 : sh_X} {o : Outcome} {z : Int64} (e : sf_281 x1 m = some z) (tg : (sh_tJc m o m2) z) : sh_Lk 281 0 [(0, .ref 67), (1, .int x1)] [] m o m2 8 200 := by
  unfold sf_281 at e
  refine sh_Lk_lift (T := m.T) (I := m.I) (J := m.J) (s := m.s) (pc2 := 5) (lv2 := [(4, .int 0), (2, .long 0), (0, .ref 67), (1, .int x1)]) (st2 := []) (I2 := m.I) (J2 := m.J) (fun hT v kk => ?_) ?_
  · refine sh_w (i := (.lconst 0)) (len := 1) (pc2 := 1) (lv2 := [(0, .ref 67), (1, .int x1)]) (st2 := [.long 0]) (h2 := (sh_rep m.T m.I m.J)) rfl rfl rfl ?_
    refine sh_w (i := (.lstore_n 2)) (len := 1) (pc2 := 2) (lv2 := [(2, .long 0), (0, .ref 67), (1, .int x1)]) (st2 := []) (h2 := (sh_rep m.T m.I m.J)) rfl rfl rfl ?_
    refine sh_w (i := (.iconst 0)) (len := 1) (pc2 := 3) (lv2 := [(2, .long 0), (0, .ref 67), (1, .int x1)]) (st2 := [.int 0]) (h2 := (sh_rep m.T m.I m.J)) rfl rfl rfl ?_
    refine sh_w (i := (.istore 4)) (len := 2) (pc2 := 5) (lv2 := [(4, .int 0), (2, .long 0), (0, .ref 67), (1, .int x1)]) (st2 := []) (h2 := (sh_rep m.T m.I m.J)) rfl rfl rfl ?_
    exact kk
  exact sh_Lk_sub (sh_sub_c rfl (sh_sub_c rfl (sh_sub_c rfl (sh_sub_c rfl (sh_sub_n))))) (sl_281_5 e tg)
theorem sl_280_40 {m m2 : sh_X} {o : Outcome} {z : (Bool × sh_X)} (e : sf_280_40 m = some z) (tg : (sh_tZ o m2) z) : sh_Lk 280 40 [] [] m o m2 9 224 := by
  unfold sf_280_40 at e
  refine sh_Lk_lift (T := m.T) (I := m.I) (J := m.J) (s := m.s) (pc2 := 45) (lv2 := []) (st2 := [.int 1]) (I2 := m.I) (J2 := m.J) (fun hT v kk => ?_) ?_
  · refine sh_w (i := (.iconst 1)) (len := 1) (pc2 := 41) (lv2 := []) (st2 := [.int 1]) (h2 := (sh_rep m.T m.I m.J)) rfl rfl rfl ?_
    refine sh_w (i := (.goto 4)) (len := 3) (pc2 := 45) (lv2 := []) (st2 := [.int 1]) (h2 := (sh_rep m.T m.I m.J)) rfl rfl rfl ?_
    exact kk
  obtain rfl := Option.some.inj e
  obtain ⟨rfl, rfl⟩ := tg
  exact sh_Lk_ret (i := .ireturn) rfl rfl rfl (Nat.le_of_ble_eq_true rfl) (Nat.le_of_ble_eq_true rfl)
theorem sl_280_26 {x1 : Int32} {m m2 : sh_X} {o : Outcome} {z : (Bool × sh_X)} (e : sf_280_26 x1 m = some z) (tg : (sh_tZ o m2) z) : sh_Lk 280 26 [(0, .ref 67), (1, .int x1)] [] m o m2 9 224 := by
  unfold sf_280_26 at e
  refine sh_Lk_lift (T := m.T) (I := m.I) (J := m.J) (s := m.s) (pc2 := 33) (lv2 := [(0, .ref 67), (1, .int x1)]) (st2 := [.int x1, .ref 70, .int 4, .ref 67]) (I2 := m.I) (J2 := m.J) (fun hT v kk => ?_) ?_
  · refine sh_w (i := (.aload_n 0)) (len := 1) (pc2 := 27) (lv2 := [(0, .ref 67), (1, .int x1)]) (st2 := [.ref 67]) (h2 := (sh_rep m.T m.I m.J)) rfl rfl rfl ?_
    refine sh_w (i := (.iconst 4)) (len := 1) (pc2 := 28) (lv2 := [(0, .ref 67), (1, .int x1)]) (st2 := [.int 4, .ref 67]) (h2 := (sh_rep m.T m.I m.J)) rfl rfl rfl ?_
    refine sh_w (i := (.aload_n 0)) (len := 1) (pc2 := 29) (lv2 := [(0, .ref 67), (1, .int x1)]) (st2 := [.ref 67, .int 4, .ref 67]) (h2 := (sh_rep m.T m.I m.J)) rfl rfl rfl ?_
    refine sh_gR1 (len := 3) (x := .ref 70) (pc2 := 32) rfl rfl (sh_s66 hT.st) rfl rfl ?_
    refine sh_w (i := (.iload_n 1)) (len := 1) (pc2 := 33) (lv2 := [(0, .ref 67), (1, .int x1)]) (st2 := [.int x1, .ref 70, .int 4, .ref 67]) (h2 := (sh_rep m.T m.I m.J)) rfl rfl rfl ?_
    exact kk
  obtain ⟨c, e⟩ := sh_gd e
  refine sh_Lk_lift (T := m.T) (I := m.I) (J := m.J) (s := m.s) (pc2 := 34) (lv2 := [(0, .ref 67), (1, .int x1)]) (st2 := [.int (m.I 69 (Int32.toNatClampNeg x1)), .int 4, .ref 67]) (I2 := m.I) (J2 := m.J) (fun hT v kk => ?_) ?_
  · refine sh_ia1 (x := m.I 69 (Int32.toNatClampNeg x1)) (pc2 := 34) rfl (sh_s69 hT.st) (sh_okb1 c) (sh_okb2 c) rfl rfl ?_
    exact kk
  obtain ⟨r1, m11, e1, e⟩ := sh_bn_e e
  refine sh_Lk_cV (r := (some (.int (sh_b2 r1)))) (st2 := [.int (sh_b2 r1)]) (pc2 := 37) (k2 := 252) (a := 66) (as := [.ref 67, .int 4, .int (m.I 69 (Int32.toNatClampNeg x1))]) (rest := []) rfl rfl rfl (fun hT => (sh_s66 hT.st)) rfl rfl ⟨Nat.le_of_ble_eq_true rfl, Nat.le_of_ble_eq_true rfl⟩ (sl_252 e1 ⟨rfl, rfl⟩) rfl rfl (Nat.le_of_ble_eq_true rfl) (Nat.le_of_ble_eq_true rfl) ?_
  rcases sh_ite e with ⟨c, e⟩ | ⟨c, e⟩
  · refine sh_Lk_lift (T := m11.T) (I := m11.I) (J := m11.J) (s := m11.s) (pc2 := 40) (lv2 := [(0, .ref 67), (1, .int x1)]) (st2 := []) (I2 := m11.I) (J2 := m11.J) (fun hT v kk => ?_) ?_
    · refine sh_j0 (c := .eq) (off := (7)) (pc2 := 40) false rfl (sh_Zeqf c) rfl ?_
      exact kk
    exact sh_Lk_sub (sh_sub_n) (sl_280_40 e tg)
  · refine sh_Lk_lift (T := m11.T) (I := m11.I) (J := m11.J) (s := m11.s) (pc2 := 45) (lv2 := [(0, .ref 67), (1, .int x1)]) (st2 := [.int 0]) (I2 := m11.I) (J2 := m11.J) (fun hT v kk => ?_) ?_
    · refine sh_j0 (c := .eq) (off := (7)) (pc2 := 44) true rfl (sh_Zeqt c) rfl ?_
      refine sh_w (i := (.iconst 0)) (len := 1) (pc2 := 45) (lv2 := [(0, .ref 67), (1, .int x1)]) (st2 := [.int 0]) (h2 := (sh_rep m11.T m11.I m11.J)) rfl rfl rfl ?_
      exact kk
    obtain rfl := Option.some.inj e
    obtain ⟨rfl, rfl⟩ := tg
    exact sh_Lk_ret (i := .ireturn) rfl rfl rfl (Nat.le_of_ble_eq_true rfl) (Nat.le_of_ble_eq_true rfl)
theorem sl_280 {x1 : Int32} {m m2 : sh_X} {o : Outcome} {z : (Bool × sh_X)} (e : sf_280 x1 m = some z) (tg : (sh_tZ o m2) z) : sh_Lk 280 0 [(0, .ref 67), (1, .int x1)] [] m o m2 9 224 := by
  unfold sf_280 at e
  refine sh_Lk_lift (T := m.T) (I := m.I) (J := m.J) (s := m.s) (pc2 := 1) (lv2 := [(0, .ref 67), (1, .int x1)]) (st2 := [.int x1]) (I2 := m.I) (J2 := m.J) (fun hT v kk => ?_) ?_
  · refine sh_w (i := (.iload_n 1)) (len := 1) (pc2 := 1) (lv2 := [(0, .ref 67), (1, .int x1)]) (st2 := [.int x1]) (h2 := (sh_rep m.T m.I m.J)) rfl rfl rfl ?_
    exact kk
  rcases sh_ite e with ⟨c, e⟩ | ⟨c, e⟩
  · refine sh_Lk_lift (T := m.T) (I := m.I) (J := m.J) (s := m.s) (pc2 := 40) (lv2 := [(0, .ref 67), (1, .int x1)]) (st2 := []) (I2 := m.I) (J2 := m.J) (fun hT v kk => ?_) ?_
    · refine sh_j0 (c := .lt) (off := (39)) (pc2 := 40) true rfl (sh_Bltt c) rfl ?_
      exact kk
    exact sh_Lk_sub (sh_sub_n) (sl_280_40 e tg)
  · refine sh_Lk_lift (T := m.T) (I := m.I) (J := m.J) (s := m.s) (pc2 := 6) (lv2 := [(0, .ref 67), (1, .int x1)]) (st2 := [.int x1, .ref 67]) (I2 := m.I) (J2 := m.J) (fun hT v kk => ?_) ?_
    · refine sh_j0 (c := .lt) (off := (39)) (pc2 := 4) false rfl (sh_Bltf c) rfl ?_
      refine sh_w (i := (.aload_n 0)) (len := 1) (pc2 := 5) (lv2 := [(0, .ref 67), (1, .int x1)]) (st2 := [.ref 67]) (h2 := (sh_rep m.T m.I m.J)) rfl rfl rfl ?_
      refine sh_w (i := (.iload_n 1)) (len := 1) (pc2 := 6) (lv2 := [(0, .ref 67), (1, .int x1)]) (st2 := [.int x1, .ref 67]) (h2 := (sh_rep m.T m.I m.J)) rfl rfl rfl ?_
      exact kk
    obtain ⟨r1, e1, e⟩ := sh_bc_e e
    refine sh_Lk_cV (r := (some (.long r1))) (st2 := [.long r1]) (pc2 := 9) (k2 := 281) (a := 66) (as := [.ref 67, .int x1]) (rest := []) rfl rfl rfl (fun hT => (sh_s66 hT.st)) rfl rfl ⟨Nat.le_of_ble_eq_true rfl, Nat.le_of_ble_eq_true rfl⟩ (sl_281 e1 ⟨rfl, rfl⟩) rfl rfl (Nat.le_of_ble_eq_true rfl) (Nat.le_of_ble_eq_true rfl) ?_
    refine sh_Lk_lift (T := m.T) (I := m.I) (J := m.J) (s := m.s) (pc2 := 11) (lv2 := [(0, .ref 67), (1, .int x1)]) (st2 := [.int (lg_cmp r1 1)]) (I2 := m.I) (J2 := m.J) (fun hT v kk => ?_) ?_
    · refine sh_w (i := (.lconst 1)) (len := 1) (pc2 := 10) (lv2 := [(0, .ref 67), (1, .int x1)]) (st2 := [.long 1, .long r1]) (h2 := (sh_rep m.T m.I m.J)) rfl rfl rfl ?_
      refine sh_w (i := .lcmp) (len := 1) (pc2 := 11) (lv2 := [(0, .ref 67), (1, .int x1)]) (st2 := [.int (lg_cmp r1 1)]) (h2 := (sh_rep m.T m.I m.J)) rfl rfl rfl ?_
      exact kk
    rcases sh_ite e with ⟨c, e⟩ | ⟨c, e⟩
    · refine sh_Lk_lift (T := m.T) (I := m.I) (J := m.J) (s := m.s) (pc2 := 26) (lv2 := [(0, .ref 67), (1, .int x1)]) (st2 := []) (I2 := m.I) (J2 := m.J) (fun hT v kk => ?_) ?_
      · refine sh_j0 (c := .lt) (off := (15)) (pc2 := 26) true rfl (sh_Cltt c) rfl ?_
        exact kk
      exact sh_Lk_sub (sh_sub_c rfl (sh_sub_c rfl (sh_sub_n))) (sl_280_26 e tg)
    · refine sh_Lk_lift (T := m.T) (I := m.I) (J := m.J) (s := m.s) (pc2 := 16) (lv2 := [(0, .ref 67), (1, .int x1)]) (st2 := [.int x1, .ref 67]) (I2 := m.I) (J2 := m.J) (fun hT v kk => ?_) ?_
      · refine sh_j0 (c := .lt) (off := (15)) (pc2 := 14) false rfl (sh_Cltf c) rfl ?_
        refine sh_w (i := (.aload_n 0)) (len := 1) (pc2 := 15) (lv2 := [(0, .ref 67), (1, .int x1)]) (st2 := [.ref 67]) (h2 := (sh_rep m.T m.I m.J)) rfl rfl rfl ?_
        refine sh_w (i := (.iload_n 1)) (len := 1) (pc2 := 16) (lv2 := [(0, .ref 67), (1, .int x1)]) (st2 := [.int x1, .ref 67]) (h2 := (sh_rep m.T m.I m.J)) rfl rfl rfl ?_
        exact kk
      obtain ⟨r2, e2, e⟩ := sh_bc_e e
      refine sh_Lk_cV (r := (some (.long r2))) (st2 := [.long r2]) (pc2 := 19) (k2 := 281) (a := 66) (as := [.ref 67, .int x1]) (rest := []) rfl rfl rfl (fun hT => (sh_s66 hT.st)) rfl rfl ⟨Nat.le_of_ble_eq_true rfl, Nat.le_of_ble_eq_true rfl⟩ (sl_281 e2 ⟨rfl, rfl⟩) rfl rfl (Nat.le_of_ble_eq_true rfl) (Nat.le_of_ble_eq_true rfl) ?_
      refine sh_Lk_lift (T := m.T) (I := m.I) (J := m.J) (s := m.s) (pc2 := 23) (lv2 := [(0, .ref 67), (1, .int x1)]) (st2 := [.int (lg_cmp r2 32)]) (I2 := m.I) (J2 := m.J) (fun hT v kk => ?_) ?_
      · refine sh_w (i := (.ldc2_w 548)) (len := 3) (pc2 := 22) (lv2 := [(0, .ref 67), (1, .int x1)]) (st2 := [.long 32, .long r2]) (h2 := (sh_rep m.T m.I m.J)) rfl rfl rfl ?_
        refine sh_w (i := .lcmp) (len := 1) (pc2 := 23) (lv2 := [(0, .ref 67), (1, .int x1)]) (st2 := [.int (lg_cmp r2 32)]) (h2 := (sh_rep m.T m.I m.J)) rfl rfl rfl ?_
        exact kk
      rcases sh_ite e with ⟨c, e⟩ | ⟨c, e⟩
      · refine sh_Lk_lift (T := m.T) (I := m.I) (J := m.J) (s := m.s) (pc2 := 26) (lv2 := [(0, .ref 67), (1, .int x1)]) (st2 := []) (I2 := m.I) (J2 := m.J) (fun hT v kk => ?_) ?_
        · refine sh_j0 (c := .le) (off := (17)) (pc2 := 26) false rfl (sh_Clef c) rfl ?_
          exact kk
        exact sh_Lk_sub (sh_sub_c rfl (sh_sub_c rfl (sh_sub_n))) (sl_280_26 e tg)
      · refine sh_Lk_lift (T := m.T) (I := m.I) (J := m.J) (s := m.s) (pc2 := 40) (lv2 := [(0, .ref 67), (1, .int x1)]) (st2 := []) (I2 := m.I) (J2 := m.J) (fun hT v kk => ?_) ?_
        · refine sh_j0 (c := .le) (off := (17)) (pc2 := 40) true rfl (sh_Clet c) rfl ?_
          exact kk
        exact sh_Lk_sub (sh_sub_n) (sl_280_40 e tg)
theorem sl_278_73s {x1 : Int32} {x2 : Int32} {x3 : Int32} {m m2 : sh_X} {o : Outcome} {z : ((Int32 × sh_X) ⊕ ((Int32 × sh_X) ⊕ ((Int32 × sh_X) ⊕ (Bool × sh_X))))} (e : sf_278_73s x1 x2 x3 m = some z) (tg : (sh_el (fun q => sh_Lk 278 73 [(0, .ref 67), (1, .int x1), (2, .int x2), (3, .int q.1)] [] q.2 o m2 10 245) (sh_el (fun q => sh_Lk 278 61 [(0, .ref 67), (1, .int x1), (2, .int q.1)] [] q.2 o m2 10 245) (sh_el (fun q => sh_Lk 278 2 [(0, .ref 67), (1, .int q.1)] [] q.2 o m2 10 245) (sh_tZ o m2)))) z) : sh_Lk 278 73 [(0, .ref 67), (1, .int x1), (2, .int x2), (3, .int x3)] [] m o m2 10 245 := by
  unfold sf_278_73s at e
  refine sh_Lk_lift (T := m.T) (I := m.I) (J := m.J) (s := m.s) (pc2 := 75) (lv2 := [(0, .ref 67), (1, .int x1), (2, .int x2), (3, .int x3)]) (st2 := [.int x2, .int x3]) (I2 := m.I) (J2 := m.J) (fun hT v kk => ?_) ?_
  · refine sh_w (i := (.iload_n 3)) (len := 1) (pc2 := 74) (lv2 := [(0, .ref 67), (1, .int x1), (2, .int x2), (3, .int x3)]) (st2 := [.int x3]) (h2 := (sh_rep m.T m.I m.J)) rfl rfl rfl ?_
    refine sh_w (i := (.iload_n 2)) (len := 1) (pc2 := 75) (lv2 := [(0, .ref 67), (1, .int x1), (2, .int x2), (3, .int x3)]) (st2 := [.int x2, .int x3]) (h2 := (sh_rep m.T m.I m.J)) rfl rfl rfl ?_
    exact kk
  rcases sh_ite e with ⟨c, e⟩ | ⟨c, e⟩
  · refine sh_Lk_lift (T := m.T) (I := m.I) (J := m.J) (s := m.s) (pc2 := 89) (lv2 := [(0, .ref 67), (1, .int x1), (2, .int x2), (3, .int x3)]) (st2 := [.int ((8 * x1) + x3), .ref 82, .ref 67]) (I2 := m.I) (J2 := m.J) (fun hT v kk => ?_) ?_
    · refine sh_jc (c := .ge) (off := (60)) (pc2 := 78) false rfl (sh_Bgef c) rfl ?_
      refine sh_w (i := (.aload_n 0)) (len := 1) (pc2 := 79) (lv2 := [(0, .ref 67), (1, .int x1), (2, .int x2), (3, .int x3)]) (st2 := [.ref 67]) (h2 := (sh_rep m.T m.I m.J)) rfl rfl rfl ?_
      refine sh_w (i := (.aload_n 0)) (len := 1) (pc2 := 80) (lv2 := [(0, .ref 67), (1, .int x1), (2, .int x2), (3, .int x3)]) (st2 := [.ref 67, .ref 67]) (h2 := (sh_rep m.T m.I m.J)) rfl rfl rfl ?_
      refine sh_gR1 (len := 3) (x := .ref 82) (pc2 := 83) rfl rfl (sh_s66 hT.st) rfl rfl ?_
      refine sh_w (i := (.bipush 8)) (len := 2) (pc2 := 85) (lv2 := [(0, .ref 67), (1, .int x1), (2, .int x2), (3, .int x3)]) (st2 := [.int 8, .ref 82, .ref 67]) (h2 := (sh_rep m.T m.I m.J)) rfl rfl rfl ?_
      refine sh_w (i := (.iload_n 1)) (len := 1) (pc2 := 86) (lv2 := [(0, .ref 67), (1, .int x1), (2, .int x2), (3, .int x3)]) (st2 := [.int x1, .int 8, .ref 82, .ref 67]) (h2 := (sh_rep m.T m.I m.J)) rfl rfl rfl ?_
      refine sh_w (i := .imul) (len := 1) (pc2 := 87) (lv2 := [(0, .ref 67), (1, .int x1), (2, .int x2), (3, .int x3)]) (st2 := [.int (8 * x1), .ref 82, .ref 67]) (h2 := (sh_rep m.T m.I m.J)) rfl rfl rfl ?_
      refine sh_w (i := (.iload_n 3)) (len := 1) (pc2 := 88) (lv2 := [(0, .ref 67), (1, .int x1), (2, .int x2), (3, .int x3)]) (st2 := [.int x3, .int (8 * x1), .ref 82, .ref 67]) (h2 := (sh_rep m.T m.I m.J)) rfl rfl rfl ?_
      refine sh_w (i := .iadd) (len := 1) (pc2 := 89) (lv2 := [(0, .ref 67), (1, .int x1), (2, .int x2), (3, .int x3)]) (st2 := [.int ((8 * x1) + x3), .ref 82, .ref 67]) (h2 := (sh_rep m.T m.I m.J)) rfl rfl rfl ?_
      exact kk
    obtain ⟨c, e⟩ := sh_gd e
    refine sh_Lk_lift (T := m.T) (I := m.I) (J := m.J) (s := m.s) (pc2 := 100) (lv2 := [(0, .ref 67), (1, .int x1), (2, .int x2), (3, .int x3)]) (st2 := [.int ((8 * x1) + x2), .ref 82, .int (m.I 81 (Int32.toNatClampNeg ((8 * x1) + x3))), .ref 67]) (I2 := m.I) (J2 := m.J) (fun hT v kk => ?_) ?_
    · refine sh_ia1 (x := m.I 81 (Int32.toNatClampNeg ((8 * x1) + x3))) (pc2 := 90) rfl (sh_s81 hT.st) (sh_okb1 c) (sh_okb2 c) rfl rfl ?_
      refine sh_w (i := (.aload_n 0)) (len := 1) (pc2 := 91) (lv2 := [(0, .ref 67), (1, .int x1), (2, .int x2), (3, .int x3)]) (st2 := [.ref 67, .int (m.I 81 (Int32.toNatClampNeg ((8 * x1) + x3))), .ref 67]) (h2 := (sh_rep m.T m.I m.J)) rfl rfl rfl ?_
      refine sh_gR1 (len := 3) (x := .ref 82) (pc2 := 94) rfl rfl (sh_s66 hT.st) rfl rfl ?_
      refine sh_w (i := (.bipush 8)) (len := 2) (pc2 := 96) (lv2 := [(0, .ref 67), (1, .int x1), (2, .int x2), (3, .int x3)]) (st2 := [.int 8, .ref 82, .int (m.I 81 (Int32.toNatClampNeg ((8 * x1) + x3))), .ref 67]) (h2 := (sh_rep m.T m.I m.J)) rfl rfl rfl ?_
      refine sh_w (i := (.iload_n 1)) (len := 1) (pc2 := 97) (lv2 := [(0, .ref 67), (1, .int x1), (2, .int x2), (3, .int x3)]) (st2 := [.int x1, .int 8, .ref 82, .int (m.I 81 (Int32.toNatClampNeg ((8 * x1) + x3))), .ref 67]) (h2 := (sh_rep m.T m.I m.J)) rfl rfl rfl ?_
      refine sh_w (i := .imul) (len := 1) (pc2 := 98) (lv2 := [(0, .ref 67), (1, .int x1), (2, .int x2), (3, .int x3)]) (st2 := [.int (8 * x1), .ref 82, .int (m.I 81 (Int32.toNatClampNeg ((8 * x1) + x3))), .ref 67]) (h2 := (sh_rep m.T m.I m.J)) rfl rfl rfl ?_
      refine sh_w (i := (.iload_n 2)) (len := 1) (pc2 := 99) (lv2 := [(0, .ref 67), (1, .int x1), (2, .int x2), (3, .int x3)]) (st2 := [.int x2, .int (8 * x1), .ref 82, .int (m.I 81 (Int32.toNatClampNeg ((8 * x1) + x3))), .ref 67]) (h2 := (sh_rep m.T m.I m.J)) rfl rfl rfl ?_
      refine sh_w (i := .iadd) (len := 1) (pc2 := 100) (lv2 := [(0, .ref 67), (1, .int x1), (2, .int x2), (3, .int x3)]) (st2 := [.int ((8 * x1) + x2), .ref 82, .int (m.I 81 (Int32.toNatClampNeg ((8 * x1) + x3))), .ref 67]) (h2 := (sh_rep m.T m.I m.J)) rfl rfl rfl ?_
      exact kk
    obtain ⟨c, e⟩ := sh_gd e
    refine sh_Lk_lift (T := m.T) (I := m.I) (J := m.J) (s := m.s) (pc2 := 101) (lv2 := [(0, .ref 67), (1, .int x1), (2, .int x2), (3, .int x3)]) (st2 := [.int (m.I 81 (Int32.toNatClampNeg ((8 * x1) + x2))), .int (m.I 81 (Int32.toNatClampNeg ((8 * x1) + x3))), .ref 67]) (I2 := m.I) (J2 := m.J) (fun hT v kk => ?_) ?_
    · refine sh_ia1 (x := m.I 81 (Int32.toNatClampNeg ((8 * x1) + x2))) (pc2 := 101) rfl (sh_s81 hT.st) (sh_okb1 c) (sh_okb2 c) rfl rfl ?_
      exact kk
    obtain ⟨r1, e1, e⟩ := sh_bc_e e
    refine sh_Lk_cV (r := (some (.int (sh_b2 r1)))) (st2 := [.int (sh_b2 r1)]) (pc2 := 104) (k2 := 279) (a := 66) (as := [.ref 67, .int (m.I 81 (Int32.toNatClampNeg ((8 * x1) + x3))), .int (m.I 81 (Int32.toNatClampNeg ((8 * x1) + x2)))]) (rest := []) rfl rfl rfl (fun hT => (sh_s66 hT.st)) rfl rfl ⟨Nat.le_of_ble_eq_true rfl, Nat.le_of_ble_eq_true rfl⟩ (sl_279 e1 ⟨rfl, rfl⟩) rfl rfl (Nat.le_of_ble_eq_true rfl) (Nat.le_of_ble_eq_true rfl) ?_
    rcases sh_ite e with ⟨c, e⟩ | ⟨c, e⟩
    · refine sh_Lk_lift (T := m.T) (I := m.I) (J := m.J) (s := m.s) (pc2 := 123) (lv2 := [(0, .ref 67), (1, .int x1), (2, .int x2), (3, .int x3)]) (st2 := [.int ((8 * x1) + x2), .ref 82, .ref 70, .int 3, .ref 67]) (I2 := m.I) (J2 := m.J) (fun hT v kk => ?_) ?_
      · refine sh_j0 (c := .eq) (off := (25)) (pc2 := 107) false rfl (sh_Zeqf c) rfl ?_
        refine sh_w (i := (.aload_n 0)) (len := 1) (pc2 := 108) (lv2 := [(0, .ref 67), (1, .int x1), (2, .int x2), (3, .int x3)]) (st2 := [.ref 67]) (h2 := (sh_rep m.T m.I m.J)) rfl rfl rfl ?_
        refine sh_w (i := (.iconst 3)) (len := 1) (pc2 := 109) (lv2 := [(0, .ref 67), (1, .int x1), (2, .int x2), (3, .int x3)]) (st2 := [.int 3, .ref 67]) (h2 := (sh_rep m.T m.I m.J)) rfl rfl rfl ?_
        refine sh_w (i := (.aload_n 0)) (len := 1) (pc2 := 110) (lv2 := [(0, .ref 67), (1, .int x1), (2, .int x2), (3, .int x3)]) (st2 := [.ref 67, .int 3, .ref 67]) (h2 := (sh_rep m.T m.I m.J)) rfl rfl rfl ?_
        refine sh_gR1 (len := 3) (x := .ref 70) (pc2 := 113) rfl rfl (sh_s66 hT.st) rfl rfl ?_
        refine sh_w (i := (.aload_n 0)) (len := 1) (pc2 := 114) (lv2 := [(0, .ref 67), (1, .int x1), (2, .int x2), (3, .int x3)]) (st2 := [.ref 67, .ref 70, .int 3, .ref 67]) (h2 := (sh_rep m.T m.I m.J)) rfl rfl rfl ?_
        refine sh_gR1 (len := 3) (x := .ref 82) (pc2 := 117) rfl rfl (sh_s66 hT.st) rfl rfl ?_
        refine sh_w (i := (.bipush 8)) (len := 2) (pc2 := 119) (lv2 := [(0, .ref 67), (1, .int x1), (2, .int x2), (3, .int x3)]) (st2 := [.int 8, .ref 82, .ref 70, .int 3, .ref 67]) (h2 := (sh_rep m.T m.I m.J)) rfl rfl rfl ?_
        refine sh_w (i := (.iload_n 1)) (len := 1) (pc2 := 120) (lv2 := [(0, .ref 67), (1, .int x1), (2, .int x2), (3, .int x3)]) (st2 := [.int x1, .int 8, .ref 82, .ref 70, .int 3, .ref 67]) (h2 := (sh_rep m.T m.I m.J)) rfl rfl rfl ?_
        refine sh_w (i := .imul) (len := 1) (pc2 := 121) (lv2 := [(0, .ref 67), (1, .int x1), (2, .int x2), (3, .int x3)]) (st2 := [.int (8 * x1), .ref 82, .ref 70, .int 3, .ref 67]) (h2 := (sh_rep m.T m.I m.J)) rfl rfl rfl ?_
        refine sh_w (i := (.iload_n 2)) (len := 1) (pc2 := 122) (lv2 := [(0, .ref 67), (1, .int x1), (2, .int x2), (3, .int x3)]) (st2 := [.int x2, .int (8 * x1), .ref 82, .ref 70, .int 3, .ref 67]) (h2 := (sh_rep m.T m.I m.J)) rfl rfl rfl ?_
        refine sh_w (i := .iadd) (len := 1) (pc2 := 123) (lv2 := [(0, .ref 67), (1, .int x1), (2, .int x2), (3, .int x3)]) (st2 := [.int ((8 * x1) + x2), .ref 82, .ref 70, .int 3, .ref 67]) (h2 := (sh_rep m.T m.I m.J)) rfl rfl rfl ?_
        exact kk
      obtain ⟨c, e⟩ := sh_gd e
      refine sh_Lk_lift (T := m.T) (I := m.I) (J := m.J) (s := m.s) (pc2 := 124) (lv2 := [(0, .ref 67), (1, .int x1), (2, .int x2), (3, .int x3)]) (st2 := [.int (m.I 81 (Int32.toNatClampNeg ((8 * x1) + x2))), .ref 70, .int 3, .ref 67]) (I2 := m.I) (J2 := m.J) (fun hT v kk => ?_) ?_
      · refine sh_ia1 (x := m.I 81 (Int32.toNatClampNeg ((8 * x1) + x2))) (pc2 := 124) rfl (sh_s81 hT.st) (sh_okb1 c) (sh_okb2 c) rfl rfl ?_
        exact kk
      obtain ⟨c, e⟩ := sh_gd e
      refine sh_Lk_lift (T := m.T) (I := m.I) (J := m.J) (s := m.s) (pc2 := 125) (lv2 := [(0, .ref 67), (1, .int x1), (2, .int x2), (3, .int x3)]) (st2 := [.int (m.I 69 (Int32.toNatClampNeg (m.I 81 (Int32.toNatClampNeg ((8 * x1) + x2))))), .int 3, .ref 67]) (I2 := m.I) (J2 := m.J) (fun hT v kk => ?_) ?_
      · refine sh_ia1 (x := m.I 69 (Int32.toNatClampNeg (m.I 81 (Int32.toNatClampNeg ((8 * x1) + x2))))) (pc2 := 125) rfl (sh_s69 hT.st) (sh_okb1 c) (sh_okb2 c) rfl rfl ?_
        exact kk
      obtain ⟨r2, m12, e2, e⟩ := sh_bn_e e
      refine sh_Lk_cV (r := (some (.int (sh_b2 r2)))) (st2 := [.int (sh_b2 r2)]) (pc2 := 128) (k2 := 252) (a := 66) (as := [.ref 67, .int 3, .int (m.I 69 (Int32.toNatClampNeg (m.I 81 (Int32.toNatClampNeg ((8 * x1) + x2)))))]) (rest := []) rfl rfl rfl (fun hT => (sh_s66 hT.st)) rfl rfl ⟨Nat.le_of_ble_eq_true rfl, Nat.le_of_ble_eq_true rfl⟩ (sl_252 e2 ⟨rfl, rfl⟩) rfl rfl (Nat.le_of_ble_eq_true rfl) (Nat.le_of_ble_eq_true rfl) ?_
      obtain rfl := Option.some.inj e
      obtain ⟨rfl, rfl⟩ := tg
      exact sh_Lk_ret (i := .ireturn) rfl rfl (sh_rb rfl _) (Nat.le_of_ble_eq_true rfl) (Nat.le_of_ble_eq_true rfl)
    · refine sh_Lk_lift (T := m.T) (I := m.I) (J := m.J) (s := m.s) (pc2 := 73) (lv2 := [(3, .int (x3 + 1)), (0, .ref 67), (1, .int x1), (2, .int x2)]) (st2 := []) (I2 := m.I) (J2 := m.J) (fun hT v kk => ?_) ?_
      · refine sh_j0 (c := .eq) (off := (25)) (pc2 := 129) true rfl (sh_Zeqt c) rfl ?_
        refine sh_w (i := (.iinc 3 1)) (len := 3) (pc2 := 132) (lv2 := [(3, .int (x3 + 1)), (0, .ref 67), (1, .int x1), (2, .int x2)]) (st2 := []) (h2 := (sh_rep m.T m.I m.J)) rfl rfl rfl ?_
        refine sh_w (i := (.goto (-59))) (len := 3) (pc2 := 73) (lv2 := [(3, .int (x3 + 1)), (0, .ref 67), (1, .int x1), (2, .int x2)]) (st2 := []) (h2 := (sh_rep m.T m.I m.J)) rfl rfl rfl ?_
        exact kk
      obtain rfl := Option.some.inj e
      exact sh_Lk_sub (sh_sub_c rfl (sh_sub_c rfl (sh_sub_c rfl (sh_sub_c rfl (sh_sub_n))))) tg
  · refine sh_Lk_lift (T := m.T) (I := m.I) (J := m.J) (s := m.s) (pc2 := 146) (lv2 := [(0, .ref 67), (1, .int x1), (2, .int x2), (3, .int x3)]) (st2 := [.int ((8 * x1) + x2), .ref 84, .ref 67]) (I2 := m.I) (J2 := m.J) (fun hT v kk => ?_) ?_
    · refine sh_jc (c := .ge) (off := (60)) (pc2 := 135) true rfl (sh_Bget c) rfl ?_
      refine sh_w (i := (.aload_n 0)) (len := 1) (pc2 := 136) (lv2 := [(0, .ref 67), (1, .int x1), (2, .int x2), (3, .int x3)]) (st2 := [.ref 67]) (h2 := (sh_rep m.T m.I m.J)) rfl rfl rfl ?_
      refine sh_w (i := (.aload_n 0)) (len := 1) (pc2 := 137) (lv2 := [(0, .ref 67), (1, .int x1), (2, .int x2), (3, .int x3)]) (st2 := [.ref 67, .ref 67]) (h2 := (sh_rep m.T m.I m.J)) rfl rfl rfl ?_
      refine sh_gR1 (len := 3) (x := .ref 84) (pc2 := 140) rfl rfl (sh_s66 hT.st) rfl rfl ?_
      refine sh_w (i := (.bipush 8)) (len := 2) (pc2 := 142) (lv2 := [(0, .ref 67), (1, .int x1), (2, .int x2), (3, .int x3)]) (st2 := [.int 8, .ref 84, .ref 67]) (h2 := (sh_rep m.T m.I m.J)) rfl rfl rfl ?_
      refine sh_w (i := (.iload_n 1)) (len := 1) (pc2 := 143) (lv2 := [(0, .ref 67), (1, .int x1), (2, .int x2), (3, .int x3)]) (st2 := [.int x1, .int 8, .ref 84, .ref 67]) (h2 := (sh_rep m.T m.I m.J)) rfl rfl rfl ?_
      refine sh_w (i := .imul) (len := 1) (pc2 := 144) (lv2 := [(0, .ref 67), (1, .int x1), (2, .int x2), (3, .int x3)]) (st2 := [.int (8 * x1), .ref 84, .ref 67]) (h2 := (sh_rep m.T m.I m.J)) rfl rfl rfl ?_
      refine sh_w (i := (.iload_n 2)) (len := 1) (pc2 := 145) (lv2 := [(0, .ref 67), (1, .int x1), (2, .int x2), (3, .int x3)]) (st2 := [.int x2, .int (8 * x1), .ref 84, .ref 67]) (h2 := (sh_rep m.T m.I m.J)) rfl rfl rfl ?_
      refine sh_w (i := .iadd) (len := 1) (pc2 := 146) (lv2 := [(0, .ref 67), (1, .int x1), (2, .int x2), (3, .int x3)]) (st2 := [.int ((8 * x1) + x2), .ref 84, .ref 67]) (h2 := (sh_rep m.T m.I m.J)) rfl rfl rfl ?_
      exact kk
    obtain ⟨c, e⟩ := sh_gd e
    refine sh_Lk_lift (T := m.T) (I := m.I) (J := m.J) (s := m.s) (pc2 := 147) (lv2 := [(0, .ref 67), (1, .int x1), (2, .int x2), (3, .int x3)]) (st2 := [.int (m.I 83 (Int32.toNatClampNeg ((8 * x1) + x2))), .ref 67]) (I2 := m.I) (J2 := m.J) (fun hT v kk => ?_) ?_
    · refine sh_ia1 (x := m.I 83 (Int32.toNatClampNeg ((8 * x1) + x2))) (pc2 := 147) rfl (sh_s83 hT.st) (sh_okb1 c) (sh_okb2 c) rfl rfl ?_
      exact kk
    obtain ⟨r3, m13, e3, e⟩ := sh_bn_e e
    refine sh_Lk_cV (r := (some (.int (sh_b2 r3)))) (st2 := [.int (sh_b2 r3)]) (pc2 := 150) (k2 := 280) (a := 66) (as := [.ref 67, .int (m.I 83 (Int32.toNatClampNeg ((8 * x1) + x2)))]) (rest := []) rfl rfl rfl (fun hT => (sh_s66 hT.st)) rfl rfl ⟨Nat.le_of_ble_eq_true rfl, Nat.le_of_ble_eq_true rfl⟩ (sl_280 e3 ⟨rfl, rfl⟩) rfl rfl (Nat.le_of_ble_eq_true rfl) (Nat.le_of_ble_eq_true rfl) ?_
    rcases sh_ite e with ⟨c, e⟩ | ⟨c, e⟩
    · refine sh_Lk_lift (T := m13.T) (I := m13.I) (J := m13.J) (s := m13.s) (pc2 := 61) (lv2 := [(2, .int (x2 + 1)), (0, .ref 67), (1, .int x1), (3, .int x3)]) (st2 := []) (I2 := m13.I) (J2 := m13.J) (fun hT v kk => ?_) ?_
      · refine sh_j0 (c := .ne) (off := (5)) (pc2 := 155) true rfl (sh_Znet c) rfl ?_
        refine sh_w (i := (.iinc 2 1)) (len := 3) (pc2 := 158) (lv2 := [(2, .int (x2 + 1)), (0, .ref 67), (1, .int x1), (3, .int x3)]) (st2 := []) (h2 := (sh_rep m13.T m13.I m13.J)) rfl rfl rfl ?_
        refine sh_w (i := (.goto (-97))) (len := 3) (pc2 := 61) (lv2 := [(2, .int (x2 + 1)), (0, .ref 67), (1, .int x1), (3, .int x3)]) (st2 := []) (h2 := (sh_rep m13.T m13.I m13.J)) rfl rfl rfl ?_
        exact kk
      obtain rfl := Option.some.inj e
      exact sh_Lk_sub (sh_sub_c rfl (sh_sub_c rfl (sh_sub_c rfl (sh_sub_n)))) tg
    · refine sh_Lk_lift (T := m13.T) (I := m13.I) (J := m13.J) (s := m13.s) (pc2 := 154) (lv2 := [(0, .ref 67), (1, .int x1), (2, .int x2), (3, .int x3)]) (st2 := [.int 0]) (I2 := m13.I) (J2 := m13.J) (fun hT v kk => ?_) ?_
      · refine sh_j0 (c := .ne) (off := (5)) (pc2 := 153) false rfl (sh_Znef c) rfl ?_
        refine sh_w (i := (.iconst 0)) (len := 1) (pc2 := 154) (lv2 := [(0, .ref 67), (1, .int x1), (2, .int x2), (3, .int x3)]) (st2 := [.int 0]) (h2 := (sh_rep m13.T m13.I m13.J)) rfl rfl rfl ?_
        exact kk
      obtain rfl := Option.some.inj e
      obtain ⟨rfl, rfl⟩ := tg
      exact sh_Lk_ret (i := .ireturn) rfl rfl rfl (Nat.le_of_ble_eq_true rfl) (Nat.le_of_ble_eq_true rfl)
theorem sl_278_73 {x1 : Int32} {x2 : Int32} {x3 : Int32} {m m2 : sh_X} {o : Outcome} {z : ((Int32 × sh_X) ⊕ ((Int32 × sh_X) ⊕ (Bool × sh_X)))} (e : sf_278_73 x1 x2 x3 m = some z) (tg : (sh_el (fun q => sh_Lk 278 61 [(0, .ref 67), (1, .int x1), (2, .int q.1)] [] q.2 o m2 10 245) (sh_el (fun q => sh_Lk 278 2 [(0, .ref 67), (1, .int q.1)] [] q.2 o m2 10 245) (sh_tZ o m2))) z) : sh_Lk 278 73 [(0, .ref 67), (1, .int x1), (2, .int x2), (3, .int x3)] [] m o m2 10 245 := by
  unfold sf_278_73 at e
  exact sh_while_lk (P := fun q => sh_Lk 278 73 [(0, .ref 67), (1, .int x1), (2, .int x2), (3, .int q.1)] [] q.2 o m2 10 245) (Q := (sh_el (fun q => sh_Lk 278 61 [(0, .ref 67), (1, .int x1), (2, .int q.1)] [] q.2 o m2 10 245) (sh_el (fun q => sh_Lk 278 2 [(0, .ref 67), (1, .int q.1)] [] q.2 o m2 10 245) (sh_tZ o m2)))) (fun q z e tg => sl_278_73s (x1 := x1) (x2 := x2) (x3 := q.1) (m := q.2) e tg) (s := (x3, m)) e tg
theorem sl_278_61s {x1 : Int32} {x2 : Int32} {m m2 : sh_X} {o : Outcome} {z : ((Int32 × sh_X) ⊕ ((Int32 × sh_X) ⊕ (Bool × sh_X)))} (e : sf_278_61s x1 x2 m = some z) (tg : (sh_el (fun q => sh_Lk 278 61 [(0, .ref 67), (1, .int x1), (2, .int q.1)] [] q.2 o m2 10 245) (sh_el (fun q => sh_Lk 278 2 [(0, .ref 67), (1, .int q.1)] [] q.2 o m2 10 245) (sh_tZ o m2))) z) : sh_Lk 278 61 [(0, .ref 67), (1, .int x1), (2, .int x2)] [] m o m2 10 245 := by
  unfold sf_278_61s at e
  refine sh_Lk_lift (T := m.T) (I := m.I) (J := m.J) (s := m.s) (pc2 := 67) (lv2 := [(0, .ref 67), (1, .int x1), (2, .int x2)]) (st2 := [.int x1, .ref 81, .int x2]) (I2 := m.I) (J2 := m.J) (fun hT v kk => ?_) ?_
  · refine sh_w (i := (.iload_n 2)) (len := 1) (pc2 := 62) (lv2 := [(0, .ref 67), (1, .int x1), (2, .int x2)]) (st2 := [.int x2]) (h2 := (sh_rep m.T m.I m.J)) rfl rfl rfl ?_
    refine sh_w (i := (.aload_n 0)) (len := 1) (pc2 := 63) (lv2 := [(0, .ref 67), (1, .int x1), (2, .int x2)]) (st2 := [.ref 67, .int x2]) (h2 := (sh_rep m.T m.I m.J)) rfl rfl rfl ?_
    refine sh_gR1 (len := 3) (x := .ref 81) (pc2 := 66) rfl rfl (sh_s66 hT.st) rfl rfl ?_
    refine sh_w (i := (.iload_n 1)) (len := 1) (pc2 := 67) (lv2 := [(0, .ref 67), (1, .int x1), (2, .int x2)]) (st2 := [.int x1, .ref 81, .int x2]) (h2 := (sh_rep m.T m.I m.J)) rfl rfl rfl ?_
    exact kk
  obtain ⟨c, e⟩ := sh_gd e
  refine sh_Lk_lift (T := m.T) (I := m.I) (J := m.J) (s := m.s) (pc2 := 68) (lv2 := [(0, .ref 67), (1, .int x1), (2, .int x2)]) (st2 := [.int (m.I 80 (Int32.toNatClampNeg x1)), .int x2]) (I2 := m.I) (J2 := m.J) (fun hT v kk => ?_) ?_
  · refine sh_ia1 (x := m.I 80 (Int32.toNatClampNeg x1)) (pc2 := 68) rfl (sh_s80 hT.st) (sh_okb1 c) (sh_okb2 c) rfl rfl ?_
    exact kk
  rcases sh_ite e with ⟨c, e⟩ | ⟨c, e⟩
  · refine sh_Lk_lift (T := m.T) (I := m.I) (J := m.J) (s := m.s) (pc2 := 73) (lv2 := [(3, .int 0), (0, .ref 67), (1, .int x1), (2, .int x2)]) (st2 := []) (I2 := m.I) (J2 := m.J) (fun hT v kk => ?_) ?_
    · refine sh_jc (c := .ge) (off := (93)) (pc2 := 71) false rfl (sh_Bgef c) rfl ?_
      refine sh_w (i := (.iconst 0)) (len := 1) (pc2 := 72) (lv2 := [(0, .ref 67), (1, .int x1), (2, .int x2)]) (st2 := [.int 0]) (h2 := (sh_rep m.T m.I m.J)) rfl rfl rfl ?_
      refine sh_w (i := (.istore_n 3)) (len := 1) (pc2 := 73) (lv2 := [(3, .int 0), (0, .ref 67), (1, .int x1), (2, .int x2)]) (st2 := []) (h2 := (sh_rep m.T m.I m.J)) rfl rfl rfl ?_
      exact kk
    exact sh_Lk_sub (sh_sub_c rfl (sh_sub_c rfl (sh_sub_c rfl (sh_sub_c rfl (sh_sub_n))))) (sl_278_73 e tg)
  · refine sh_Lk_lift (T := m.T) (I := m.I) (J := m.J) (s := m.s) (pc2 := 167) (lv2 := [(0, .ref 67), (1, .int x1), (2, .int x2)]) (st2 := [.int x1, .ref 86, .ref 67]) (I2 := m.I) (J2 := m.J) (fun hT v kk => ?_) ?_
    · refine sh_jc (c := .ge) (off := (93)) (pc2 := 161) true rfl (sh_Bget c) rfl ?_
      refine sh_w (i := (.aload_n 0)) (len := 1) (pc2 := 162) (lv2 := [(0, .ref 67), (1, .int x1), (2, .int x2)]) (st2 := [.ref 67]) (h2 := (sh_rep m.T m.I m.J)) rfl rfl rfl ?_
      refine sh_w (i := (.aload_n 0)) (len := 1) (pc2 := 163) (lv2 := [(0, .ref 67), (1, .int x1), (2, .int x2)]) (st2 := [.ref 67, .ref 67]) (h2 := (sh_rep m.T m.I m.J)) rfl rfl rfl ?_
      refine sh_gR1 (len := 3) (x := .ref 86) (pc2 := 166) rfl rfl (sh_s66 hT.st) rfl rfl ?_
      refine sh_w (i := (.iload_n 1)) (len := 1) (pc2 := 167) (lv2 := [(0, .ref 67), (1, .int x1), (2, .int x2)]) (st2 := [.int x1, .ref 86, .ref 67]) (h2 := (sh_rep m.T m.I m.J)) rfl rfl rfl ?_
      exact kk
    obtain ⟨c, e⟩ := sh_gd e
    refine sh_Lk_lift (T := m.T) (I := m.I) (J := m.J) (s := m.s) (pc2 := 168) (lv2 := [(0, .ref 67), (1, .int x1), (2, .int x2)]) (st2 := [.int (m.I 85 (Int32.toNatClampNeg x1)), .ref 67]) (I2 := m.I) (J2 := m.J) (fun hT v kk => ?_) ?_
    · refine sh_ia1 (x := m.I 85 (Int32.toNatClampNeg x1)) (pc2 := 168) rfl (sh_s85 hT.st) (sh_okb1 c) (sh_okb2 c) rfl rfl ?_
      exact kk
    obtain ⟨r1, m11, e1, e⟩ := sh_bn_e e
    refine sh_Lk_cV (r := (some (.int (sh_b2 r1)))) (st2 := [.int (sh_b2 r1)]) (pc2 := 171) (k2 := 280) (a := 66) (as := [.ref 67, .int (m.I 85 (Int32.toNatClampNeg x1))]) (rest := []) rfl rfl rfl (fun hT => (sh_s66 hT.st)) rfl rfl ⟨Nat.le_of_ble_eq_true rfl, Nat.le_of_ble_eq_true rfl⟩ (sl_280 e1 ⟨rfl, rfl⟩) rfl rfl (Nat.le_of_ble_eq_true rfl) (Nat.le_of_ble_eq_true rfl) ?_
    rcases sh_ite e with ⟨c, e⟩ | ⟨c, e⟩
    · refine sh_Lk_lift (T := m11.T) (I := m11.I) (J := m11.J) (s := m11.s) (pc2 := 2) (lv2 := [(1, .int (x1 + 1)), (0, .ref 67), (2, .int x2)]) (st2 := []) (I2 := m11.I) (J2 := m11.J) (fun hT v kk => ?_) ?_
      · refine sh_j0 (c := .ne) (off := (5)) (pc2 := 176) true rfl (sh_Znet c) rfl ?_
        refine sh_w (i := (.iinc 1 1)) (len := 3) (pc2 := 179) (lv2 := [(1, .int (x1 + 1)), (0, .ref 67), (2, .int x2)]) (st2 := []) (h2 := (sh_rep m11.T m11.I m11.J)) rfl rfl rfl ?_
        refine sh_w (i := (.goto (-177))) (len := 3) (pc2 := 2) (lv2 := [(1, .int (x1 + 1)), (0, .ref 67), (2, .int x2)]) (st2 := []) (h2 := (sh_rep m11.T m11.I m11.J)) rfl rfl rfl ?_
        exact kk
      obtain rfl := Option.some.inj e
      exact sh_Lk_sub (sh_sub_c rfl (sh_sub_c rfl (sh_sub_n))) tg
    · refine sh_Lk_lift (T := m11.T) (I := m11.I) (J := m11.J) (s := m11.s) (pc2 := 175) (lv2 := [(0, .ref 67), (1, .int x1), (2, .int x2)]) (st2 := [.int 0]) (I2 := m11.I) (J2 := m11.J) (fun hT v kk => ?_) ?_
      · refine sh_j0 (c := .ne) (off := (5)) (pc2 := 174) false rfl (sh_Znef c) rfl ?_
        refine sh_w (i := (.iconst 0)) (len := 1) (pc2 := 175) (lv2 := [(0, .ref 67), (1, .int x1), (2, .int x2)]) (st2 := [.int 0]) (h2 := (sh_rep m11.T m11.I m11.J)) rfl rfl rfl ?_
        exact kk
      obtain rfl := Option.some.inj e
      obtain ⟨rfl, rfl⟩ := tg
      exact sh_Lk_ret (i := .ireturn) rfl rfl rfl (Nat.le_of_ble_eq_true rfl) (Nat.le_of_ble_eq_true rfl)
theorem sl_278_61 {x1 : Int32} {x2 : Int32} {m m2 : sh_X} {o : Outcome} {z : ((Int32 × sh_X) ⊕ (Bool × sh_X))} (e : sf_278_61 x1 x2 m = some z) (tg : (sh_el (fun q => sh_Lk 278 2 [(0, .ref 67), (1, .int q.1)] [] q.2 o m2 10 245) (sh_tZ o m2)) z) : sh_Lk 278 61 [(0, .ref 67), (1, .int x1), (2, .int x2)] [] m o m2 10 245 := by
  unfold sf_278_61 at e
  exact sh_while_lk (P := fun q => sh_Lk 278 61 [(0, .ref 67), (1, .int x1), (2, .int q.1)] [] q.2 o m2 10 245) (Q := (sh_el (fun q => sh_Lk 278 2 [(0, .ref 67), (1, .int q.1)] [] q.2 o m2 10 245) (sh_tZ o m2))) (fun q z e tg => sl_278_61s (x1 := x1) (x2 := q.1) (m := q.2) e tg) (s := (x2, m)) e tg
theorem sl_278_12s {x1 : Int32} {x2 : Int32} {m m2 : sh_X} {o : Outcome} {z : ((Int32 × sh_X) ⊕ ((Int32 × sh_X) ⊕ (Bool × sh_X)))} (e : sf_278_12s x1 x2 m = some z) (tg : (sh_el (fun q => sh_Lk 278 12 [(0, .ref 67), (1, .int x1), (2, .int q.1)] [] q.2 o m2 10 245) (sh_el (fun q => sh_Lk 278 2 [(0, .ref 67), (1, .int q.1)] [] q.2 o m2 10 245) (sh_tZ o m2))) z) : sh_Lk 278 12 [(0, .ref 67), (1, .int x1), (2, .int x2)] [] m o m2 10 245 := by
  unfold sf_278_12s at e
  refine sh_Lk_lift (T := m.T) (I := m.I) (J := m.J) (s := m.s) (pc2 := 14) (lv2 := [(0, .ref 67), (1, .int x1), (2, .int x2)]) (st2 := [.int x1, .int x2]) (I2 := m.I) (J2 := m.J) (fun hT v kk => ?_) ?_
  · refine sh_w (i := (.iload_n 2)) (len := 1) (pc2 := 13) (lv2 := [(0, .ref 67), (1, .int x1), (2, .int x2)]) (st2 := [.int x2]) (h2 := (sh_rep m.T m.I m.J)) rfl rfl rfl ?_
    refine sh_w (i := (.iload_n 1)) (len := 1) (pc2 := 14) (lv2 := [(0, .ref 67), (1, .int x1), (2, .int x2)]) (st2 := [.int x1, .int x2]) (h2 := (sh_rep m.T m.I m.J)) rfl rfl rfl ?_
    exact kk
  rcases sh_ite e with ⟨c, e⟩ | ⟨c, e⟩
  · refine sh_Lk_lift (T := m.T) (I := m.I) (J := m.J) (s := m.s) (pc2 := 23) (lv2 := [(0, .ref 67), (1, .int x1), (2, .int x2)]) (st2 := [.int x2, .ref 80, .ref 67]) (I2 := m.I) (J2 := m.J) (fun hT v kk => ?_) ?_
    · refine sh_jc (c := .ge) (off := (45)) (pc2 := 17) false rfl (sh_Bgef c) rfl ?_
      refine sh_w (i := (.aload_n 0)) (len := 1) (pc2 := 18) (lv2 := [(0, .ref 67), (1, .int x1), (2, .int x2)]) (st2 := [.ref 67]) (h2 := (sh_rep m.T m.I m.J)) rfl rfl rfl ?_
      refine sh_w (i := (.aload_n 0)) (len := 1) (pc2 := 19) (lv2 := [(0, .ref 67), (1, .int x1), (2, .int x2)]) (st2 := [.ref 67, .ref 67]) (h2 := (sh_rep m.T m.I m.J)) rfl rfl rfl ?_
      refine sh_gR1 (len := 3) (x := .ref 80) (pc2 := 22) rfl rfl (sh_s66 hT.st) rfl rfl ?_
      refine sh_w (i := (.iload_n 2)) (len := 1) (pc2 := 23) (lv2 := [(0, .ref 67), (1, .int x1), (2, .int x2)]) (st2 := [.int x2, .ref 80, .ref 67]) (h2 := (sh_rep m.T m.I m.J)) rfl rfl rfl ?_
      exact kk
    obtain ⟨c, e⟩ := sh_gd e
    refine sh_Lk_lift (T := m.T) (I := m.I) (J := m.J) (s := m.s) (pc2 := 29) (lv2 := [(0, .ref 67), (1, .int x1), (2, .int x2)]) (st2 := [.int x1, .ref 80, .int (m.I 79 (Int32.toNatClampNeg x2)), .ref 67]) (I2 := m.I) (J2 := m.J) (fun hT v kk => ?_) ?_
    · refine sh_ia1 (x := m.I 79 (Int32.toNatClampNeg x2)) (pc2 := 24) rfl (sh_s79 hT.st) (sh_okb1 c) (sh_okb2 c) rfl rfl ?_
      refine sh_w (i := (.aload_n 0)) (len := 1) (pc2 := 25) (lv2 := [(0, .ref 67), (1, .int x1), (2, .int x2)]) (st2 := [.ref 67, .int (m.I 79 (Int32.toNatClampNeg x2)), .ref 67]) (h2 := (sh_rep m.T m.I m.J)) rfl rfl rfl ?_
      refine sh_gR1 (len := 3) (x := .ref 80) (pc2 := 28) rfl rfl (sh_s66 hT.st) rfl rfl ?_
      refine sh_w (i := (.iload_n 1)) (len := 1) (pc2 := 29) (lv2 := [(0, .ref 67), (1, .int x1), (2, .int x2)]) (st2 := [.int x1, .ref 80, .int (m.I 79 (Int32.toNatClampNeg x2)), .ref 67]) (h2 := (sh_rep m.T m.I m.J)) rfl rfl rfl ?_
      exact kk
    obtain ⟨c, e⟩ := sh_gd e
    refine sh_Lk_lift (T := m.T) (I := m.I) (J := m.J) (s := m.s) (pc2 := 30) (lv2 := [(0, .ref 67), (1, .int x1), (2, .int x2)]) (st2 := [.int (m.I 79 (Int32.toNatClampNeg x1)), .int (m.I 79 (Int32.toNatClampNeg x2)), .ref 67]) (I2 := m.I) (J2 := m.J) (fun hT v kk => ?_) ?_
    · refine sh_ia1 (x := m.I 79 (Int32.toNatClampNeg x1)) (pc2 := 30) rfl (sh_s79 hT.st) (sh_okb1 c) (sh_okb2 c) rfl rfl ?_
      exact kk
    obtain ⟨r1, e1, e⟩ := sh_bc_e e
    refine sh_Lk_cV (r := (some (.int (sh_b2 r1)))) (st2 := [.int (sh_b2 r1)]) (pc2 := 33) (k2 := 279) (a := 66) (as := [.ref 67, .int (m.I 79 (Int32.toNatClampNeg x2)), .int (m.I 79 (Int32.toNatClampNeg x1))]) (rest := []) rfl rfl rfl (fun hT => (sh_s66 hT.st)) rfl rfl ⟨Nat.le_of_ble_eq_true rfl, Nat.le_of_ble_eq_true rfl⟩ (sl_279 e1 ⟨rfl, rfl⟩) rfl rfl (Nat.le_of_ble_eq_true rfl) (Nat.le_of_ble_eq_true rfl) ?_
    rcases sh_ite e with ⟨c, e⟩ | ⟨c, e⟩
    · refine sh_Lk_lift (T := m.T) (I := m.I) (J := m.J) (s := m.s) (pc2 := 47) (lv2 := [(0, .ref 67), (1, .int x1), (2, .int x2)]) (st2 := [.int x1, .ref 80, .ref 70, .int 3, .ref 67]) (I2 := m.I) (J2 := m.J) (fun hT v kk => ?_) ?_
      · refine sh_j0 (c := .eq) (off := (20)) (pc2 := 36) false rfl (sh_Zeqf c) rfl ?_
        refine sh_w (i := (.aload_n 0)) (len := 1) (pc2 := 37) (lv2 := [(0, .ref 67), (1, .int x1), (2, .int x2)]) (st2 := [.ref 67]) (h2 := (sh_rep m.T m.I m.J)) rfl rfl rfl ?_
        refine sh_w (i := (.iconst 3)) (len := 1) (pc2 := 38) (lv2 := [(0, .ref 67), (1, .int x1), (2, .int x2)]) (st2 := [.int 3, .ref 67]) (h2 := (sh_rep m.T m.I m.J)) rfl rfl rfl ?_
        refine sh_w (i := (.aload_n 0)) (len := 1) (pc2 := 39) (lv2 := [(0, .ref 67), (1, .int x1), (2, .int x2)]) (st2 := [.ref 67, .int 3, .ref 67]) (h2 := (sh_rep m.T m.I m.J)) rfl rfl rfl ?_
        refine sh_gR1 (len := 3) (x := .ref 70) (pc2 := 42) rfl rfl (sh_s66 hT.st) rfl rfl ?_
        refine sh_w (i := (.aload_n 0)) (len := 1) (pc2 := 43) (lv2 := [(0, .ref 67), (1, .int x1), (2, .int x2)]) (st2 := [.ref 67, .ref 70, .int 3, .ref 67]) (h2 := (sh_rep m.T m.I m.J)) rfl rfl rfl ?_
        refine sh_gR1 (len := 3) (x := .ref 80) (pc2 := 46) rfl rfl (sh_s66 hT.st) rfl rfl ?_
        refine sh_w (i := (.iload_n 1)) (len := 1) (pc2 := 47) (lv2 := [(0, .ref 67), (1, .int x1), (2, .int x2)]) (st2 := [.int x1, .ref 80, .ref 70, .int 3, .ref 67]) (h2 := (sh_rep m.T m.I m.J)) rfl rfl rfl ?_
        exact kk
      obtain ⟨c, e⟩ := sh_gd e
      refine sh_Lk_lift (T := m.T) (I := m.I) (J := m.J) (s := m.s) (pc2 := 48) (lv2 := [(0, .ref 67), (1, .int x1), (2, .int x2)]) (st2 := [.int (m.I 79 (Int32.toNatClampNeg x1)), .ref 70, .int 3, .ref 67]) (I2 := m.I) (J2 := m.J) (fun hT v kk => ?_) ?_
      · refine sh_ia1 (x := m.I 79 (Int32.toNatClampNeg x1)) (pc2 := 48) rfl (sh_s79 hT.st) (sh_okb1 c) (sh_okb2 c) rfl rfl ?_
        exact kk
      obtain ⟨c, e⟩ := sh_gd e
      refine sh_Lk_lift (T := m.T) (I := m.I) (J := m.J) (s := m.s) (pc2 := 49) (lv2 := [(0, .ref 67), (1, .int x1), (2, .int x2)]) (st2 := [.int (m.I 69 (Int32.toNatClampNeg (m.I 79 (Int32.toNatClampNeg x1)))), .int 3, .ref 67]) (I2 := m.I) (J2 := m.J) (fun hT v kk => ?_) ?_
      · refine sh_ia1 (x := m.I 69 (Int32.toNatClampNeg (m.I 79 (Int32.toNatClampNeg x1)))) (pc2 := 49) rfl (sh_s69 hT.st) (sh_okb1 c) (sh_okb2 c) rfl rfl ?_
        exact kk
      obtain ⟨r2, m12, e2, e⟩ := sh_bn_e e
      refine sh_Lk_cV (r := (some (.int (sh_b2 r2)))) (st2 := [.int (sh_b2 r2)]) (pc2 := 52) (k2 := 252) (a := 66) (as := [.ref 67, .int 3, .int (m.I 69 (Int32.toNatClampNeg (m.I 79 (Int32.toNatClampNeg x1))))]) (rest := []) rfl rfl rfl (fun hT => (sh_s66 hT.st)) rfl rfl ⟨Nat.le_of_ble_eq_true rfl, Nat.le_of_ble_eq_true rfl⟩ (sl_252 e2 ⟨rfl, rfl⟩) rfl rfl (Nat.le_of_ble_eq_true rfl) (Nat.le_of_ble_eq_true rfl) ?_
      obtain rfl := Option.some.inj e
      obtain ⟨rfl, rfl⟩ := tg
      exact sh_Lk_ret (i := .ireturn) rfl rfl (sh_rb rfl _) (Nat.le_of_ble_eq_true rfl) (Nat.le_of_ble_eq_true rfl)
    · refine sh_Lk_lift (T := m.T) (I := m.I) (J := m.J) (s := m.s) (pc2 := 12) (lv2 := [(2, .int (x2 + 1)), (0, .ref 67), (1, .int x1)]) (st2 := []) (I2 := m.I) (J2 := m.J) (fun hT v kk => ?_) ?_
      · refine sh_j0 (c := .eq) (off := (20)) (pc2 := 53) true rfl (sh_Zeqt c) rfl ?_
        refine sh_w (i := (.iinc 2 1)) (len := 3) (pc2 := 56) (lv2 := [(2, .int (x2 + 1)), (0, .ref 67), (1, .int x1)]) (st2 := []) (h2 := (sh_rep m.T m.I m.J)) rfl rfl rfl ?_
        refine sh_w (i := (.goto (-44))) (len := 3) (pc2 := 12) (lv2 := [(2, .int (x2 + 1)), (0, .ref 67), (1, .int x1)]) (st2 := []) (h2 := (sh_rep m.T m.I m.J)) rfl rfl rfl ?_
        exact kk
      obtain rfl := Option.some.inj e
      exact sh_Lk_sub (sh_sub_c rfl (sh_sub_c rfl (sh_sub_c rfl (sh_sub_n)))) tg
  · refine sh_Lk_lift (T := m.T) (I := m.I) (J := m.J) (s := m.s) (pc2 := 61) (lv2 := [(2, .int 0), (0, .ref 67), (1, .int x1)]) (st2 := []) (I2 := m.I) (J2 := m.J) (fun hT v kk => ?_) ?_
    · refine sh_jc (c := .ge) (off := (45)) (pc2 := 59) true rfl (sh_Bget c) rfl ?_
      refine sh_w (i := (.iconst 0)) (len := 1) (pc2 := 60) (lv2 := [(0, .ref 67), (1, .int x1), (2, .int x2)]) (st2 := [.int 0]) (h2 := (sh_rep m.T m.I m.J)) rfl rfl rfl ?_
      refine sh_w (i := (.istore_n 2)) (len := 1) (pc2 := 61) (lv2 := [(2, .int 0), (0, .ref 67), (1, .int x1)]) (st2 := []) (h2 := (sh_rep m.T m.I m.J)) rfl rfl rfl ?_
      exact kk
    obtain ⟨_, eu, rfl⟩ := sh_up_e e
    exact sh_Lk_sub (sh_sub_c rfl (sh_sub_c rfl (sh_sub_c rfl (sh_sub_n)))) (sl_278_61 eu tg)
theorem sl_278_12 {x1 : Int32} {x2 : Int32} {m m2 : sh_X} {o : Outcome} {z : ((Int32 × sh_X) ⊕ (Bool × sh_X))} (e : sf_278_12 x1 x2 m = some z) (tg : (sh_el (fun q => sh_Lk 278 2 [(0, .ref 67), (1, .int q.1)] [] q.2 o m2 10 245) (sh_tZ o m2)) z) : sh_Lk 278 12 [(0, .ref 67), (1, .int x1), (2, .int x2)] [] m o m2 10 245 := by
  unfold sf_278_12 at e
  exact sh_while_lk (P := fun q => sh_Lk 278 12 [(0, .ref 67), (1, .int x1), (2, .int q.1)] [] q.2 o m2 10 245) (Q := (sh_el (fun q => sh_Lk 278 2 [(0, .ref 67), (1, .int q.1)] [] q.2 o m2 10 245) (sh_tZ o m2))) (fun q z e tg => sl_278_12s (x1 := x1) (x2 := q.1) (m := q.2) e tg) (s := (x2, m)) e tg
theorem sl_278_2s {x1 : Int32} {m m2 : sh_X} {o : Outcome} {z : ((Int32 × sh_X) ⊕ (Bool × sh_X))} (e : sf_278_2s x1 m = some z) (tg : (sh_el (fun q => sh_Lk 278 2 [(0, .ref 67), (1, .int q.1)] [] q.2 o m2 10 245) (sh_tZ o m2)) z) : sh_Lk 278 2 [(0, .ref 67), (1, .int x1)] [] m o m2 10 245 := by
  unfold sf_278_2s at e
  refine sh_Lk_lift (T := m.T) (I := m.I) (J := m.J) (s := m.s) (pc2 := 7) (lv2 := [(0, .ref 67), (1, .int x1)]) (st2 := [.int (m.I 66 31), .int x1]) (I2 := m.I) (J2 := m.J) (fun hT v kk => ?_) ?_
  · refine sh_w (i := (.iload_n 1)) (len := 1) (pc2 := 3) (lv2 := [(0, .ref 67), (1, .int x1)]) (st2 := [.int x1]) (h2 := (sh_rep m.T m.I m.J)) rfl rfl rfl ?_
    refine sh_w (i := (.aload_n 0)) (len := 1) (pc2 := 4) (lv2 := [(0, .ref 67), (1, .int x1)]) (st2 := [.ref 67, .int x1]) (h2 := (sh_rep m.T m.I m.J)) rfl rfl rfl ?_
    refine sh_gI1 (len := 3) (x := m.I 66 31) (pc2 := 7) rfl rfl (sh_s66 hT.st) rfl rfl rfl ?_
    exact kk
  rcases sh_ite e with ⟨c, e⟩ | ⟨c, e⟩
  · refine sh_Lk_lift (T := m.T) (I := m.I) (J := m.J) (s := m.s) (pc2 := 12) (lv2 := [(2, .int 0), (0, .ref 67), (1, .int x1)]) (st2 := []) (I2 := m.I) (J2 := m.J) (fun hT v kk => ?_) ?_
    · refine sh_jc (c := .ge) (off := (175)) (pc2 := 10) false rfl (sh_Bgef c) rfl ?_
      refine sh_w (i := (.iconst 0)) (len := 1) (pc2 := 11) (lv2 := [(0, .ref 67), (1, .int x1)]) (st2 := [.int 0]) (h2 := (sh_rep m.T m.I m.J)) rfl rfl rfl ?_
      refine sh_w (i := (.istore_n 2)) (len := 1) (pc2 := 12) (lv2 := [(2, .int 0), (0, .ref 67), (1, .int x1)]) (st2 := []) (h2 := (sh_rep m.T m.I m.J)) rfl rfl rfl ?_
      exact kk
    exact sh_Lk_sub (sh_sub_c rfl (sh_sub_c rfl (sh_sub_c rfl (sh_sub_n)))) (sl_278_12 e tg)
  · refine sh_Lk_lift (T := m.T) (I := m.I) (J := m.J) (s := m.s) (pc2 := 183) (lv2 := [(0, .ref 67), (1, .int x1)]) (st2 := [.int 1]) (I2 := m.I) (J2 := m.J) (fun hT v kk => ?_) ?_
    · refine sh_jc (c := .ge) (off := (175)) (pc2 := 182) true rfl (sh_Bget c) rfl ?_
      refine sh_w (i := (.iconst 1)) (len := 1) (pc2 := 183) (lv2 := [(0, .ref 67), (1, .int x1)]) (st2 := [.int 1]) (h2 := (sh_rep m.T m.I m.J)) rfl rfl rfl ?_
      exact kk
    obtain rfl := Option.some.inj e
    obtain ⟨rfl, rfl⟩ := tg
    exact sh_Lk_ret (i := .ireturn) rfl rfl rfl (Nat.le_of_ble_eq_true rfl) (Nat.le_of_ble_eq_true rfl)
theorem sl_278_2 {x1 : Int32} {m m2 : sh_X} {o : Outcome} {z : (Bool × sh_X)} (e : sf_278_2 x1 m = some z) (tg : (sh_tZ o m2) z) : sh_Lk 278 2 [(0, .ref 67), (1, .int x1)] [] m o m2 10 245 := by
  unfold sf_278_2 at e
  exact sh_while_lk (P := fun q => sh_Lk 278 2 [(0, .ref 67), (1, .int q.1)] [] q.2 o m2 10 245) (Q := (sh_tZ o m2)) (fun q z e tg => sl_278_2s (x1 := q.1) (m := q.2) e tg) (s := (x1, m)) e tg
theorem sl_278 {m m2 : sh_X} {o : Outcome} {z : (Bool × sh_X)} (e : sf_278 m = some z) (tg : (sh_tZ o m2) z) : sh_Lk 278 0 [(0, .ref 67)] [] m o m2 10 245 := by
  unfold sf_278 at e
  refine sh_Lk_lift (T := m.T) (I := m.I) (J := m.J) (s := m.s) (pc2 := 2) (lv2 := [(1, .int 0), (0, .ref 67)]) (st2 := []) (I2 := m.I) (J2 := m.J) (fun hT v kk => ?_) ?_
  · refine sh_w (i := (.iconst 0)) (len := 1) (pc2 := 1) (lv2 := [(0, .ref 67)]) (st2 := [.int 0]) (h2 := (sh_rep m.T m.I m.J)) rfl rfl rfl ?_
    refine sh_w (i := (.istore_n 1)) (len := 1) (pc2 := 2) (lv2 := [(1, .int 0), (0, .ref 67)]) (st2 := []) (h2 := (sh_rep m.T m.I m.J)) rfl rfl rfl ?_
    exact kk
  exact sh_Lk_sub (sh_sub_c rfl (sh_sub_c rfl (sh_sub_n))) (sl_278_2 e tg)
theorem sl_284_7s {x1 : Int32} {x2 : Int32} {m m2 : sh_X} {o : Outcome} {z : (Int32 ⊕ Int32)} (e : sf_284_7s x1 x2 m = some z) (tg : (sh_el (fun q => sh_Lk 284 7 [(0, .ref 67), (1, .int x1), (2, .int q)] [] m o m2 9 223) (sh_tIc m o m2)) z) : sh_Lk 284 7 [(0, .ref 67), (1, .int x1), (2, .int x2)] [] m o m2 9 223 := by
  unfold sf_284_7s at e
  refine sh_Lk_lift (T := m.T) (I := m.I) (J := m.J) (s := m.s) (pc2 := 12) (lv2 := [(0, .ref 67), (1, .int x1), (2, .int x2)]) (st2 := [.int (m.I 66 54), .int x2]) (I2 := m.I) (J2 := m.J) (fun hT v kk => ?_) ?_
  · refine sh_w (i := (.iload_n 2)) (len := 1) (pc2 := 8) (lv2 := [(0, .ref 67), (1, .int x1), (2, .int x2)]) (st2 := [.int x2]) (h2 := (sh_rep m.T m.I m.J)) rfl rfl rfl ?_
    refine sh_w (i := (.aload_n 0)) (len := 1) (pc2 := 9) (lv2 := [(0, .ref 67), (1, .int x1), (2, .int x2)]) (st2 := [.ref 67, .int x2]) (h2 := (sh_rep m.T m.I m.J)) rfl rfl rfl ?_
    refine sh_gI1 (len := 3) (x := m.I 66 54) (pc2 := 12) rfl rfl (sh_s66 hT.st) rfl rfl rfl ?_
    exact kk
  rcases sh_ite e with ⟨c, e⟩ | ⟨c, e⟩
  · refine sh_Lk_lift (T := m.T) (I := m.I) (J := m.J) (s := m.s) (pc2 := 38) (lv2 := [(0, .ref 67), (1, .int x1), (2, .int x2)]) (st2 := [.int (-1)]) (I2 := m.I) (J2 := m.J) (fun hT v kk => ?_) ?_
    · refine sh_jc (c := .lt) (off := (25)) (pc2 := 37) true rfl (sh_Bltt c) rfl ?_
      refine sh_w (i := (.iconst (-1))) (len := 1) (pc2 := 38) (lv2 := [(0, .ref 67), (1, .int x1), (2, .int x2)]) (st2 := [.int (-1)]) (h2 := (sh_rep m.T m.I m.J)) rfl rfl rfl ?_
      exact kk
    obtain rfl := Option.some.inj e
    obtain ⟨rfl, rfl⟩ := tg
    exact sh_Lk_ret (i := .ireturn) rfl rfl rfl (Nat.le_of_ble_eq_true rfl) (Nat.le_of_ble_eq_true rfl)
  · refine sh_Lk_lift (T := m.T) (I := m.I) (J := m.J) (s := m.s) (pc2 := 21) (lv2 := [(0, .ref 67), (1, .int x1), (2, .int x2)]) (st2 := [.int x2, .ref 94, .ref 67]) (I2 := m.I) (J2 := m.J) (fun hT v kk => ?_) ?_
    · refine sh_jc (c := .lt) (off := (25)) (pc2 := 15) false rfl (sh_Bltf c) rfl ?_
      refine sh_w (i := (.aload_n 0)) (len := 1) (pc2 := 16) (lv2 := [(0, .ref 67), (1, .int x1), (2, .int x2)]) (st2 := [.ref 67]) (h2 := (sh_rep m.T m.I m.J)) rfl rfl rfl ?_
      refine sh_w (i := (.aload_n 0)) (len := 1) (pc2 := 17) (lv2 := [(0, .ref 67), (1, .int x1), (2, .int x2)]) (st2 := [.ref 67, .ref 67]) (h2 := (sh_rep m.T m.I m.J)) rfl rfl rfl ?_
      refine sh_gR1 (len := 3) (x := .ref 94) (pc2 := 20) rfl rfl (sh_s66 hT.st) rfl rfl ?_
      refine sh_w (i := (.iload_n 2)) (len := 1) (pc2 := 21) (lv2 := [(0, .ref 67), (1, .int x1), (2, .int x2)]) (st2 := [.int x2, .ref 94, .ref 67]) (h2 := (sh_rep m.T m.I m.J)) rfl rfl rfl ?_
      exact kk
    obtain ⟨c, e⟩ := sh_gd e
    refine sh_Lk_lift (T := m.T) (I := m.I) (J := m.J) (s := m.s) (pc2 := 23) (lv2 := [(0, .ref 67), (1, .int x1), (2, .int x2)]) (st2 := [.int x1, .int (m.I 93 (Int32.toNatClampNeg x2)), .ref 67]) (I2 := m.I) (J2 := m.J) (fun hT v kk => ?_) ?_
    · refine sh_ia1 (x := m.I 93 (Int32.toNatClampNeg x2)) (pc2 := 22) rfl (sh_s93 hT.st) (sh_okb1 c) (sh_okb2 c) rfl rfl ?_
      refine sh_w (i := (.iload_n 1)) (len := 1) (pc2 := 23) (lv2 := [(0, .ref 67), (1, .int x1), (2, .int x2)]) (st2 := [.int x1, .int (m.I 93 (Int32.toNatClampNeg x2)), .ref 67]) (h2 := (sh_rep m.T m.I m.J)) rfl rfl rfl ?_
      exact kk
    obtain ⟨r1, e1, e⟩ := sh_bc_e e
    refine sh_Lk_cV (r := (some (.int (sh_b2 r1)))) (st2 := [.int (sh_b2 r1)]) (pc2 := 26) (k2 := 279) (a := 66) (as := [.ref 67, .int (m.I 93 (Int32.toNatClampNeg x2)), .int x1]) (rest := []) rfl rfl rfl (fun hT => (sh_s66 hT.st)) rfl rfl ⟨Nat.le_of_ble_eq_true rfl, Nat.le_of_ble_eq_true rfl⟩ (sl_279 e1 ⟨rfl, rfl⟩) rfl rfl (Nat.le_of_ble_eq_true rfl) (Nat.le_of_ble_eq_true rfl) ?_
    rcases sh_ite e with ⟨c, e⟩ | ⟨c, e⟩
    · refine sh_Lk_lift (T := m.T) (I := m.I) (J := m.J) (s := m.s) (pc2 := 30) (lv2 := [(0, .ref 67), (1, .int x1), (2, .int x2)]) (st2 := [.int x2]) (I2 := m.I) (J2 := m.J) (fun hT v kk => ?_) ?_
      · refine sh_j0 (c := .eq) (off := (5)) (pc2 := 29) false rfl (sh_Zeqf c) rfl ?_
        refine sh_w (i := (.iload_n 2)) (len := 1) (pc2 := 30) (lv2 := [(0, .ref 67), (1, .int x1), (2, .int x2)]) (st2 := [.int x2]) (h2 := (sh_rep m.T m.I m.J)) rfl rfl rfl ?_
        exact kk
      obtain rfl := Option.some.inj e
      obtain ⟨rfl, rfl⟩ := tg
      exact sh_Lk_ret (i := .ireturn) rfl rfl rfl (Nat.le_of_ble_eq_true rfl) (Nat.le_of_ble_eq_true rfl)
    · refine sh_Lk_lift (T := m.T) (I := m.I) (J := m.J) (s := m.s) (pc2 := 7) (lv2 := [(2, .int (x2 + (-1))), (0, .ref 67), (1, .int x1)]) (st2 := []) (I2 := m.I) (J2 := m.J) (fun hT v kk => ?_) ?_
      · refine sh_j0 (c := .eq) (off := (5)) (pc2 := 31) true rfl (sh_Zeqt c) rfl ?_
        refine sh_w (i := (.iinc 2 (-1))) (len := 3) (pc2 := 34) (lv2 := [(2, .int (x2 + (-1))), (0, .ref 67), (1, .int x1)]) (st2 := []) (h2 := (sh_rep m.T m.I m.J)) rfl rfl rfl ?_
        refine sh_w (i := (.goto (-27))) (len := 3) (pc2 := 7) (lv2 := [(2, .int (x2 + (-1))), (0, .ref 67), (1, .int x1)]) (st2 := []) (h2 := (sh_rep m.T m.I m.J)) rfl rfl rfl ?_
        exact kk
      obtain rfl := Option.some.inj e
      exact sh_Lk_sub (sh_sub_c rfl (sh_sub_c rfl (sh_sub_c rfl (sh_sub_n)))) tg
theorem sl_284_7 {x1 : Int32} {x2 : Int32} {m m2 : sh_X} {o : Outcome} {z : Int32} (e : sf_284_7 x1 x2 m = some z) (tg : (sh_tIc m o m2) z) : sh_Lk 284 7 [(0, .ref 67), (1, .int x1), (2, .int x2)] [] m o m2 9 223 := by
  unfold sf_284_7 at e
  exact sh_while_lk (P := fun q => sh_Lk 284 7 [(0, .ref 67), (1, .int x1), (2, .int q)] [] m o m2 9 223) (Q := (sh_tIc m o m2)) (fun q z e tg => sl_284_7s (x1 := x1) (x2 := q) (m := m) e tg) (s := x2) e tg
theorem sl_284 {x1 : Int32} {m m2 : sh_X} {o : Outcome} {z : Int32} (e : sf_284 x1 m = some z) (tg : (sh_tIc m o m2) z) : sh_Lk 284 0 [(0, .ref 67), (1, .int x1)] [] m o m2 9 223 := by
  unfold sf_284 at e
  refine sh_Lk_lift (T := m.T) (I := m.I) (J := m.J) (s := m.s) (pc2 := 7) (lv2 := [(2, .int ((m.I 66 53) - 1)), (0, .ref 67), (1, .int x1)]) (st2 := []) (I2 := m.I) (J2 := m.J) (fun hT v kk => ?_) ?_
  · refine sh_w (i := (.aload_n 0)) (len := 1) (pc2 := 1) (lv2 := [(0, .ref 67), (1, .int x1)]) (st2 := [.ref 67]) (h2 := (sh_rep m.T m.I m.J)) rfl rfl rfl ?_
    refine sh_gI1 (len := 3) (x := m.I 66 53) (pc2 := 4) rfl rfl (sh_s66 hT.st) rfl rfl rfl ?_
    refine sh_w (i := (.iconst 1)) (len := 1) (pc2 := 5) (lv2 := [(0, .ref 67), (1, .int x1)]) (st2 := [.int 1, .int (m.I 66 53)]) (h2 := (sh_rep m.T m.I m.J)) rfl rfl rfl ?_
    refine sh_w (i := .isub) (len := 1) (pc2 := 6) (lv2 := [(0, .ref 67), (1, .int x1)]) (st2 := [.int ((m.I 66 53) - 1)]) (h2 := (sh_rep m.T m.I m.J)) rfl rfl rfl ?_
    refine sh_w (i := (.istore_n 2)) (len := 1) (pc2 := 7) (lv2 := [(2, .int ((m.I 66 53) - 1)), (0, .ref 67), (1, .int x1)]) (st2 := []) (h2 := (sh_rep m.T m.I m.J)) rfl rfl rfl ?_
    exact kk
  exact sh_Lk_sub (sh_sub_c rfl (sh_sub_c rfl (sh_sub_c rfl (sh_sub_n)))) (sl_284_7 e tg)
theorem sl_285_78 {x3 : Int32} {y0 : Int32} {y1 : Int32} {m m2 : sh_X} {o : Outcome} {z : Int32} (e : sf_285_78 x3 y0 y1 m = some z) (tg : (sh_tIc m o m2) z) : sh_Lk 285 78 [(3, .int x3)] [.int y1, .int y0] m o m2 8 200 := by
  unfold sf_285_78 at e
  refine sh_Lk_lift (T := m.T) (I := m.I) (J := m.J) (s := m.s) (pc2 := 83) (lv2 := [(3, .int x3)]) (st2 := [.int (((y0 * y1) + x3) - 1)]) (I2 := m.I) (J2 := m.J) (fun hT v kk => ?_) ?_
  · refine sh_w (i := .imul) (len := 1) (pc2 := 79) (lv2 := [(3, .int x3)]) (st2 := [.int (y0 * y1)]) (h2 := (sh_rep m.T m.I m.J)) rfl rfl rfl ?_
    refine sh_w (i := (.iload_n 3)) (len := 1) (pc2 := 80) (lv2 := [(3, .int x3)]) (st2 := [.int x3, .int (y0 * y1)]) (h2 := (sh_rep m.T m.I m.J)) rfl rfl rfl ?_
    refine sh_w (i := .iadd) (len := 1) (pc2 := 81) (lv2 := [(3, .int x3)]) (st2 := [.int ((y0 * y1) + x3)]) (h2 := (sh_rep m.T m.I m.J)) rfl rfl rfl ?_
    refine sh_w (i := (.iconst 1)) (len := 1) (pc2 := 82) (lv2 := [(3, .int x3)]) (st2 := [.int 1, .int ((y0 * y1) + x3)]) (h2 := (sh_rep m.T m.I m.J)) rfl rfl rfl ?_
    refine sh_w (i := .isub) (len := 1) (pc2 := 83) (lv2 := [(3, .int x3)]) (st2 := [.int (((y0 * y1) + x3) - 1)]) (h2 := (sh_rep m.T m.I m.J)) rfl rfl rfl ?_
    exact kk
  obtain rfl := Option.some.inj e
  obtain ⟨rfl, rfl⟩ := tg
  exact sh_Lk_ret (i := .ireturn) rfl rfl rfl (Nat.le_of_ble_eq_true rfl) (Nat.le_of_ble_eq_true rfl)
theorem sl_285_25s {x1 : Int32} {x2 : Int32} {x3 : Int32} {x4 : Int32} {m m2 : sh_X} {o : Outcome} {z : ((Int32 × Int32) ⊕ Int32)} (e : sf_285_25s x1 x2 x3 x4 m = some z) (tg : (sh_el (fun q => sh_Lk 285 25 [(0, .ref 67), (1, .int x1), (2, .int x2), (3, .int q.1), (4, .int q.2)] [] m o m2 8 200) (sh_tIc m o m2)) z) : sh_Lk 285 25 [(0, .ref 67), (1, .int x1), (2, .int x2), (3, .int x3), (4, .int x4)] [] m o m2 8 200 := by
  unfold sf_285_25s at e
  refine sh_Lk_lift (T := m.T) (I := m.I) (J := m.J) (s := m.s) (pc2 := 32) (lv2 := [(0, .ref 67), (1, .int x1), (2, .int x2), (3, .int x3), (4, .int x4)]) (st2 := [.int x1, .ref 71, .int x4]) (I2 := m.I) (J2 := m.J) (fun hT v kk => ?_) ?_
  · refine sh_w (i := (.iload 4)) (len := 2) (pc2 := 27) (lv2 := [(0, .ref 67), (1, .int x1), (2, .int x2), (3, .int x3), (4, .int x4)]) (st2 := [.int x4]) (h2 := (sh_rep m.T m.I m.J)) rfl rfl rfl ?_
    refine sh_w (i := (.aload_n 0)) (len := 1) (pc2 := 28) (lv2 := [(0, .ref 67), (1, .int x1), (2, .int x2), (3, .int x3), (4, .int x4)]) (st2 := [.ref 67, .int x4]) (h2 := (sh_rep m.T m.I m.J)) rfl rfl rfl ?_
    refine sh_gR1 (len := 3) (x := .ref 71) (pc2 := 31) rfl rfl (sh_s66 hT.st) rfl rfl ?_
    refine sh_w (i := (.iload_n 1)) (len := 1) (pc2 := 32) (lv2 := [(0, .ref 67), (1, .int x1), (2, .int x2), (3, .int x3), (4, .int x4)]) (st2 := [.int x1, .ref 71, .int x4]) (h2 := (sh_rep m.T m.I m.J)) rfl rfl rfl ?_
    exact kk
  obtain ⟨c, e⟩ := sh_gd e
  refine sh_Lk_lift (T := m.T) (I := m.I) (J := m.J) (s := m.s) (pc2 := 33) (lv2 := [(0, .ref 67), (1, .int x1), (2, .int x2), (3, .int x3), (4, .int x4)]) (st2 := [.int (m.I 70 (Int32.toNatClampNeg x1)), .int x4]) (I2 := m.I) (J2 := m.J) (fun hT v kk => ?_) ?_
  · refine sh_ia1 (x := m.I 70 (Int32.toNatClampNeg x1)) (pc2 := 33) rfl (sh_s70 hT.st) (sh_okb1 c) (sh_okb2 c) rfl rfl ?_
    exact kk
  rcases sh_ite e with ⟨c, e⟩ | ⟨c, e⟩
  · refine sh_Lk_lift (T := m.T) (I := m.I) (J := m.J) (s := m.s) (pc2 := 49) (lv2 := [(0, .ref 67), (1, .int x1), (2, .int x2), (3, .int x3), (4, .int x4)]) (st2 := [.int x1, .ref 70, .ref 72, .int (10 * x3)]) (I2 := m.I) (J2 := m.J) (fun hT v kk => ?_) ?_
    · refine sh_jc (c := .ge) (off := (32)) (pc2 := 36) false rfl (sh_Bgef c) rfl ?_
      refine sh_w (i := (.bipush 10)) (len := 2) (pc2 := 38) (lv2 := [(0, .ref 67), (1, .int x1), (2, .int x2), (3, .int x3), (4, .int x4)]) (st2 := [.int 10]) (h2 := (sh_rep m.T m.I m.J)) rfl rfl rfl ?_
      refine sh_w (i := (.iload_n 3)) (len := 1) (pc2 := 39) (lv2 := [(0, .ref 67), (1, .int x1), (2, .int x2), (3, .int x3), (4, .int x4)]) (st2 := [.int x3, .int 10]) (h2 := (sh_rep m.T m.I m.J)) rfl rfl rfl ?_
      refine sh_w (i := .imul) (len := 1) (pc2 := 40) (lv2 := [(0, .ref 67), (1, .int x1), (2, .int x2), (3, .int x3), (4, .int x4)]) (st2 := [.int (10 * x3)]) (h2 := (sh_rep m.T m.I m.J)) rfl rfl rfl ?_
      refine sh_w (i := (.aload_n 0)) (len := 1) (pc2 := 41) (lv2 := [(0, .ref 67), (1, .int x1), (2, .int x2), (3, .int x3), (4, .int x4)]) (st2 := [.ref 67, .int (10 * x3)]) (h2 := (sh_rep m.T m.I m.J)) rfl rfl rfl ?_
      refine sh_gR1 (len := 3) (x := .ref 72) (pc2 := 44) rfl rfl (sh_s66 hT.st) rfl rfl ?_
      refine sh_w (i := (.aload_n 0)) (len := 1) (pc2 := 45) (lv2 := [(0, .ref 67), (1, .int x1), (2, .int x2), (3, .int x3), (4, .int x4)]) (st2 := [.ref 67, .ref 72, .int (10 * x3)]) (h2 := (sh_rep m.T m.I m.J)) rfl rfl rfl ?_
      refine sh_gR1 (len := 3) (x := .ref 70) (pc2 := 48) rfl rfl (sh_s66 hT.st) rfl rfl ?_
      refine sh_w (i := (.iload_n 1)) (len := 1) (pc2 := 49) (lv2 := [(0, .ref 67), (1, .int x1), (2, .int x2), (3, .int x3), (4, .int x4)]) (st2 := [.int x1, .ref 70, .ref 72, .int (10 * x3)]) (h2 := (sh_rep m.T m.I m.J)) rfl rfl rfl ?_
      exact kk
    obtain ⟨c, e⟩ := sh_gd e
    refine sh_Lk_lift (T := m.T) (I := m.I) (J := m.J) (s := m.s) (pc2 := 53) (lv2 := [(0, .ref 67), (1, .int x1), (2, .int x2), (3, .int x3), (4, .int x4)]) (st2 := [.int ((m.I 69 (Int32.toNatClampNeg x1)) + x4), .ref 72, .int (10 * x3)]) (I2 := m.I) (J2 := m.J) (fun hT v kk => ?_) ?_
    · refine sh_ia1 (x := m.I 69 (Int32.toNatClampNeg x1)) (pc2 := 50) rfl (sh_s69 hT.st) (sh_okb1 c) (sh_okb2 c) rfl rfl ?_
      refine sh_w (i := (.iload 4)) (len := 2) (pc2 := 52) (lv2 := [(0, .ref 67), (1, .int x1), (2, .int x2), (3, .int x3), (4, .int x4)]) (st2 := [.int x4, .int (m.I 69 (Int32.toNatClampNeg x1)), .ref 72, .int (10 * x3)]) (h2 := (sh_rep m.T m.I m.J)) rfl rfl rfl ?_
      refine sh_w (i := .iadd) (len := 1) (pc2 := 53) (lv2 := [(0, .ref 67), (1, .int x1), (2, .int x2), (3, .int x3), (4, .int x4)]) (st2 := [.int ((m.I 69 (Int32.toNatClampNeg x1)) + x4), .ref 72, .int (10 * x3)]) (h2 := (sh_rep m.T m.I m.J)) rfl rfl rfl ?_
      exact kk
    obtain ⟨c, e⟩ := sh_gd e
    refine sh_Lk_lift (T := m.T) (I := m.I) (J := m.J) (s := m.s) (pc2 := 25) (lv2 := [(4, .int (x4 + 1)), (3, .int (((10 * x3) + (m.I 71 (Int32.toNatClampNeg ((m.I 69 (Int32.toNatClampNeg x1)) + x4)))) - 48)), (0, .ref 67), (1, .int x1), (2, .int x2)]) (st2 := []) (I2 := m.I) (J2 := m.J) (fun hT v kk => ?_) ?_
    · refine sh_ba1 (x := m.I 71 (Int32.toNatClampNeg ((m.I 69 (Int32.toNatClampNeg x1)) + x4))) (pc2 := 54) rfl (sh_s71 hT.st) (Or.inl rfl) (sh_okb1 c) (sh_okb2 c) rfl rfl ?_
      refine sh_w (i := .iadd) (len := 1) (pc2 := 55) (lv2 := [(0, .ref 67), (1, .int x1), (2, .int x2), (3, .int x3), (4, .int x4)]) (st2 := [.int ((10 * x3) + (m.I 71 (Int32.toNatClampNeg ((m.I 69 (Int32.toNatClampNeg x1)) + x4))))]) (h2 := (sh_rep m.T m.I m.J)) rfl rfl rfl ?_
      refine sh_w (i := (.bipush 48)) (len := 2) (pc2 := 57) (lv2 := [(0, .ref 67), (1, .int x1), (2, .int x2), (3, .int x3), (4, .int x4)]) (st2 := [.int 48, .int ((10 * x3) + (m.I 71 (Int32.toNatClampNeg ((m.I 69 (Int32.toNatClampNeg x1)) + x4))))]) (h2 := (sh_rep m.T m.I m.J)) rfl rfl rfl ?_
      refine sh_w (i := .isub) (len := 1) (pc2 := 58) (lv2 := [(0, .ref 67), (1, .int x1), (2, .int x2), (3, .int x3), (4, .int x4)]) (st2 := [.int (((10 * x3) + (m.I 71 (Int32.toNatClampNeg ((m.I 69 (Int32.toNatClampNeg x1)) + x4)))) - 48)]) (h2 := (sh_rep m.T m.I m.J)) rfl rfl rfl ?_
      refine sh_w (i := (.istore_n 3)) (len := 1) (pc2 := 59) (lv2 := [(3, .int (((10 * x3) + (m.I 71 (Int32.toNatClampNeg ((m.I 69 (Int32.toNatClampNeg x1)) + x4)))) - 48)), (0, .ref 67), (1, .int x1), (2, .int x2), (4, .int x4)]) (st2 := []) (h2 := (sh_rep m.T m.I m.J)) rfl rfl rfl ?_
      refine sh_w (i := (.iinc 4 1)) (len := 3) (pc2 := 62) (lv2 := [(4, .int (x4 + 1)), (3, .int (((10 * x3) + (m.I 71 (Int32.toNatClampNeg ((m.I 69 (Int32.toNatClampNeg x1)) + x4)))) - 48)), (0, .ref 67), (1, .int x1), (2, .int x2)]) (st2 := []) (h2 := (sh_rep m.T m.I m.J)) rfl rfl rfl ?_
      refine sh_w (i := (.goto (-37))) (len := 3) (pc2 := 25) (lv2 := [(4, .int (x4 + 1)), (3, .int (((10 * x3) + (m.I 71 (Int32.toNatClampNeg ((m.I 69 (Int32.toNatClampNeg x1)) + x4)))) - 48)), (0, .ref 67), (1, .int x1), (2, .int x2)]) (st2 := []) (h2 := (sh_rep m.T m.I m.J)) rfl rfl rfl ?_
      exact kk
    obtain rfl := Option.some.inj e
    exact sh_Lk_sub (sh_sub_c rfl (sh_sub_c rfl (sh_sub_c rfl (sh_sub_c rfl (sh_sub_c rfl (sh_sub_n)))))) tg
  · refine sh_Lk_lift (T := m.T) (I := m.I) (J := m.J) (s := m.s) (pc2 := 70) (lv2 := [(0, .ref 67), (1, .int x1), (2, .int x2), (3, .int x3), (4, .int x4)]) (st2 := [.int 117, .int x2, .int 64]) (I2 := m.I) (J2 := m.J) (fun hT v kk => ?_) ?_
    · refine sh_jc (c := .ge) (off := (32)) (pc2 := 65) true rfl (sh_Bget c) rfl ?_
      refine sh_w (i := (.bipush 64)) (len := 2) (pc2 := 67) (lv2 := [(0, .ref 67), (1, .int x1), (2, .int x2), (3, .int x3), (4, .int x4)]) (st2 := [.int 64]) (h2 := (sh_rep m.T m.I m.J)) rfl rfl rfl ?_
      refine sh_w (i := (.iload_n 2)) (len := 1) (pc2 := 68) (lv2 := [(0, .ref 67), (1, .int x1), (2, .int x2), (3, .int x3), (4, .int x4)]) (st2 := [.int x2, .int 64]) (h2 := (sh_rep m.T m.I m.J)) rfl rfl rfl ?_
      refine sh_w (i := (.bipush 117)) (len := 2) (pc2 := 70) (lv2 := [(0, .ref 67), (1, .int x1), (2, .int x2), (3, .int x3), (4, .int x4)]) (st2 := [.int 117, .int x2, .int 64]) (h2 := (sh_rep m.T m.I m.J)) rfl rfl rfl ?_
      exact kk
    rcases sh_ite e with ⟨c, e⟩ | ⟨c, e⟩
    · refine sh_Lk_lift (T := m.T) (I := m.I) (J := m.J) (s := m.s) (pc2 := 78) (lv2 := [(0, .ref 67), (1, .int x1), (2, .int x2), (3, .int x3), (4, .int x4)]) (st2 := [.int 1, .int 64]) (I2 := m.I) (J2 := m.J) (fun hT v kk => ?_) ?_
      · refine sh_jc (c := .ne) (off := (7)) (pc2 := 73) false rfl (sh_Bnef c) rfl ?_
        refine sh_w (i := (.iconst 1)) (len := 1) (pc2 := 74) (lv2 := [(0, .ref 67), (1, .int x1), (2, .int x2), (3, .int x3), (4, .int x4)]) (st2 := [.int 1, .int 64]) (h2 := (sh_rep m.T m.I m.J)) rfl rfl rfl ?_
        refine sh_w (i := (.goto 4)) (len := 3) (pc2 := 78) (lv2 := [(0, .ref 67), (1, .int x1), (2, .int x2), (3, .int x3), (4, .int x4)]) (st2 := [.int 1, .int 64]) (h2 := (sh_rep m.T m.I m.J)) rfl rfl rfl ?_
        exact kk
      obtain ⟨_, eu, rfl⟩ := sh_up_e e
      exact sh_Lk_sub (sh_sub_c rfl (sh_sub_n)) (sl_285_78 eu tg)
    · refine sh_Lk_lift (T := m.T) (I := m.I) (J := m.J) (s := m.s) (pc2 := 78) (lv2 := [(0, .ref 67), (1, .int x1), (2, .int x2), (3, .int x3), (4, .int x4)]) (st2 := [.int 2, .int 64]) (I2 := m.I) (J2 := m.J) (fun hT v kk => ?_) ?_
      · refine sh_jc (c := .ne) (off := (7)) (pc2 := 77) true rfl (sh_Bnet c) rfl ?_
        refine sh_w (i := (.iconst 2)) (len := 1) (pc2 := 78) (lv2 := [(0, .ref 67), (1, .int x1), (2, .int x2), (3, .int x3), (4, .int x4)]) (st2 := [.int 2, .int 64]) (h2 := (sh_rep m.T m.I m.J)) rfl rfl rfl ?_
        exact kk
      obtain ⟨_, eu, rfl⟩ := sh_up_e e
      exact sh_Lk_sub (sh_sub_c rfl (sh_sub_n)) (sl_285_78 eu tg)
theorem sl_285_25 {x1 : Int32} {x2 : Int32} {x3 : Int32} {x4 : Int32} {m m2 : sh_X} {o : Outcome} {z : Int32} (e : sf_285_25 x1 x2 x3 x4 m = some z) (tg : (sh_tIc m o m2) z) : sh_Lk 285 25 [(0, .ref 67), (1, .int x1), (2, .int x2), (3, .int x3), (4, .int x4)] [] m o m2 8 200 := by
  unfold sf_285_25 at e
  exact sh_while_lk (P := fun q => sh_Lk 285 25 [(0, .ref 67), (1, .int x1), (2, .int x2), (3, .int q.1), (4, .int q.2)] [] m o m2 8 200) (Q := (sh_tIc m o m2)) (fun q z e tg => sl_285_25s (x1 := x1) (x2 := x2) (x3 := q.1) (x4 := q.2) (m := m) e tg) (s := (x3, x4)) e tg
theorem sl_285 {x1 : Int32} {m m2 : sh_X} {o : Outcome} {z : Int32} (e : sf_285 x1 m = some z) (tg : (sh_tIc m o m2) z) : sh_Lk 285 0 [(0, .ref 67), (1, .int x1)] [] m o m2 8 200 := by
  unfold sf_285 at e
  refine sh_Lk_lift (T := m.T) (I := m.I) (J := m.J) (s := m.s) (pc2 := 9) (lv2 := [(0, .ref 67), (1, .int x1)]) (st2 := [.int x1, .ref 70, .ref 72]) (I2 := m.I) (J2 := m.J) (fun hT v kk => ?_) ?_
  · refine sh_w (i := (.aload_n 0)) (len := 1) (pc2 := 1) (lv2 := [(0, .ref 67), (1, .int x1)]) (st2 := [.ref 67]) (h2 := (sh_rep m.T m.I m.J)) rfl rfl rfl ?_
    refine sh_gR1 (len := 3) (x := .ref 72) (pc2 := 4) rfl rfl (sh_s66 hT.st) rfl rfl ?_
    refine sh_w (i := (.aload_n 0)) (len := 1) (pc2 := 5) (lv2 := [(0, .ref 67), (1, .int x1)]) (st2 := [.ref 67, .ref 72]) (h2 := (sh_rep m.T m.I m.J)) rfl rfl rfl ?_
    refine sh_gR1 (len := 3) (x := .ref 70) (pc2 := 8) rfl rfl (sh_s66 hT.st) rfl rfl ?_
    refine sh_w (i := (.iload_n 1)) (len := 1) (pc2 := 9) (lv2 := [(0, .ref 67), (1, .int x1)]) (st2 := [.int x1, .ref 70, .ref 72]) (h2 := (sh_rep m.T m.I m.J)) rfl rfl rfl ?_
    exact kk
  obtain ⟨c, e⟩ := sh_gd e
  refine sh_Lk_lift (T := m.T) (I := m.I) (J := m.J) (s := m.s) (pc2 := 10) (lv2 := [(0, .ref 67), (1, .int x1)]) (st2 := [.int (m.I 69 (Int32.toNatClampNeg x1)), .ref 72]) (I2 := m.I) (J2 := m.J) (fun hT v kk => ?_) ?_
  · refine sh_ia1 (x := m.I 69 (Int32.toNatClampNeg x1)) (pc2 := 10) rfl (sh_s69 hT.st) (sh_okb1 c) (sh_okb2 c) rfl rfl ?_
    exact kk
  obtain ⟨c, e⟩ := sh_gd e
  refine sh_Lk_lift (T := m.T) (I := m.I) (J := m.J) (s := m.s) (pc2 := 15) (lv2 := [(2, .int (m.I 71 (Int32.toNatClampNeg (m.I 69 (Int32.toNatClampNeg x1))))), (0, .ref 67), (1, .int x1)]) (st2 := [.int 98, .int (m.I 71 (Int32.toNatClampNeg (m.I 69 (Int32.toNatClampNeg x1))))]) (I2 := m.I) (J2 := m.J) (fun hT v kk => ?_) ?_
  · refine sh_ba1 (x := m.I 71 (Int32.toNatClampNeg (m.I 69 (Int32.toNatClampNeg x1)))) (pc2 := 11) rfl (sh_s71 hT.st) (Or.inl rfl) (sh_okb1 c) (sh_okb2 c) rfl rfl ?_
    refine sh_w (i := (.istore_n 2)) (len := 1) (pc2 := 12) (lv2 := [(2, .int (m.I 71 (Int32.toNatClampNeg (m.I 69 (Int32.toNatClampNeg x1))))), (0, .ref 67), (1, .int x1)]) (st2 := []) (h2 := (sh_rep m.T m.I m.J)) rfl rfl rfl ?_
    refine sh_w (i := (.iload_n 2)) (len := 1) (pc2 := 13) (lv2 := [(2, .int (m.I 71 (Int32.toNatClampNeg (m.I 69 (Int32.toNatClampNeg x1))))), (0, .ref 67), (1, .int x1)]) (st2 := [.int (m.I 71 (Int32.toNatClampNeg (m.I 69 (Int32.toNatClampNeg x1))))]) (h2 := (sh_rep m.T m.I m.J)) rfl rfl rfl ?_
    refine sh_w (i := (.bipush 98)) (len := 2) (pc2 := 15) (lv2 := [(2, .int (m.I 71 (Int32.toNatClampNeg (m.I 69 (Int32.toNatClampNeg x1))))), (0, .ref 67), (1, .int x1)]) (st2 := [.int 98, .int (m.I 71 (Int32.toNatClampNeg (m.I 69 (Int32.toNatClampNeg x1))))]) (h2 := (sh_rep m.T m.I m.J)) rfl rfl rfl ?_
    exact kk
  rcases sh_ite e with ⟨c, e⟩ | ⟨c, e⟩
  · refine sh_Lk_lift (T := m.T) (I := m.I) (J := m.J) (s := m.s) (pc2 := 19) (lv2 := [(2, .int (m.I 71 (Int32.toNatClampNeg (m.I 69 (Int32.toNatClampNeg x1))))), (0, .ref 67), (1, .int x1)]) (st2 := [.int 0]) (I2 := m.I) (J2 := m.J) (fun hT v kk => ?_) ?_
    · refine sh_jc (c := .ne) (off := (5)) (pc2 := 18) false rfl (sh_Bnef c) rfl ?_
      refine sh_w (i := (.iconst 0)) (len := 1) (pc2 := 19) (lv2 := [(2, .int (m.I 71 (Int32.toNatClampNeg (m.I 69 (Int32.toNatClampNeg x1))))), (0, .ref 67), (1, .int x1)]) (st2 := [.int 0]) (h2 := (sh_rep m.T m.I m.J)) rfl rfl rfl ?_
      exact kk
    obtain rfl := Option.some.inj e
    obtain ⟨rfl, rfl⟩ := tg
    exact sh_Lk_ret (i := .ireturn) rfl rfl rfl (Nat.le_of_ble_eq_true rfl) (Nat.le_of_ble_eq_true rfl)
  · refine sh_Lk_lift (T := m.T) (I := m.I) (J := m.J) (s := m.s) (pc2 := 25) (lv2 := [(4, .int 1), (3, .int 0), (2, .int (m.I 71 (Int32.toNatClampNeg (m.I 69 (Int32.toNatClampNeg x1))))), (0, .ref 67), (1, .int x1)]) (st2 := []) (I2 := m.I) (J2 := m.J) (fun hT v kk => ?_) ?_
    · refine sh_jc (c := .ne) (off := (5)) (pc2 := 20) true rfl (sh_Bnet c) rfl ?_
      refine sh_w (i := (.iconst 0)) (len := 1) (pc2 := 21) (lv2 := [(2, .int (m.I 71 (Int32.toNatClampNeg (m.I 69 (Int32.toNatClampNeg x1))))), (0, .ref 67), (1, .int x1)]) (st2 := [.int 0]) (h2 := (sh_rep m.T m.I m.J)) rfl rfl rfl ?_
      refine sh_w (i := (.istore_n 3)) (len := 1) (pc2 := 22) (lv2 := [(3, .int 0), (2, .int (m.I 71 (Int32.toNatClampNeg (m.I 69 (Int32.toNatClampNeg x1))))), (0, .ref 67), (1, .int x1)]) (st2 := []) (h2 := (sh_rep m.T m.I m.J)) rfl rfl rfl ?_
      refine sh_w (i := (.iconst 1)) (len := 1) (pc2 := 23) (lv2 := [(3, .int 0), (2, .int (m.I 71 (Int32.toNatClampNeg (m.I 69 (Int32.toNatClampNeg x1))))), (0, .ref 67), (1, .int x1)]) (st2 := [.int 1]) (h2 := (sh_rep m.T m.I m.J)) rfl rfl rfl ?_
      refine sh_w (i := (.istore 4)) (len := 2) (pc2 := 25) (lv2 := [(4, .int 1), (3, .int 0), (2, .int (m.I 71 (Int32.toNatClampNeg (m.I 69 (Int32.toNatClampNeg x1))))), (0, .ref 67), (1, .int x1)]) (st2 := []) (h2 := (sh_rep m.T m.I m.J)) rfl rfl rfl ?_
      exact kk
    exact sh_Lk_sub (sh_sub_c rfl (sh_sub_c rfl (sh_sub_c rfl (sh_sub_c rfl (sh_sub_c rfl (sh_sub_n)))))) (sl_285_25 e tg)
theorem sl_286 {x1 : Int32} {m m2 : sh_X} {o : Outcome} {z : Int32} (e : sf_286 x1 m = some z) (tg : (sh_tIc m o m2) z) : sh_Lk 286 0 [(0, .ref 67), (1, .int x1)] [] m o m2 9 224 := by
  unfold sf_286 at e
  refine sh_Lk_lift (T := m.T) (I := m.I) (J := m.J) (s := m.s) (pc2 := 1) (lv2 := [(0, .ref 67), (1, .int x1)]) (st2 := [.int x1]) (I2 := m.I) (J2 := m.J) (fun hT v kk => ?_) ?_
  · refine sh_w (i := (.iload_n 1)) (len := 1) (pc2 := 1) (lv2 := [(0, .ref 67), (1, .int x1)]) (st2 := [.int x1]) (h2 := (sh_rep m.T m.I m.J)) rfl rfl rfl ?_
    exact kk
  rcases sh_ite e with ⟨c, e⟩ | ⟨c, e⟩
  · refine sh_Lk_lift (T := m.T) (I := m.I) (J := m.J) (s := m.s) (pc2 := 14) (lv2 := [(0, .ref 67), (1, .int x1)]) (st2 := [.int 0]) (I2 := m.I) (J2 := m.J) (fun hT v kk => ?_) ?_
    · refine sh_j0 (c := .ge) (off := (7)) (pc2 := 4) false rfl (sh_Bgef c) rfl ?_
      refine sh_w (i := (.iconst 0)) (len := 1) (pc2 := 5) (lv2 := [(0, .ref 67), (1, .int x1)]) (st2 := [.int 0]) (h2 := (sh_rep m.T m.I m.J)) rfl rfl rfl ?_
      refine sh_w (i := (.goto 9)) (len := 3) (pc2 := 14) (lv2 := [(0, .ref 67), (1, .int x1)]) (st2 := [.int 0]) (h2 := (sh_rep m.T m.I m.J)) rfl rfl rfl ?_
      exact kk
    obtain rfl := Option.some.inj e
    obtain ⟨rfl, rfl⟩ := tg
    exact sh_Lk_ret (i := .ireturn) rfl rfl rfl (Nat.le_of_ble_eq_true rfl) (Nat.le_of_ble_eq_true rfl)
  · refine sh_Lk_lift (T := m.T) (I := m.I) (J := m.J) (s := m.s) (pc2 := 10) (lv2 := [(0, .ref 67), (1, .int x1)]) (st2 := [.int x1, .ref 67]) (I2 := m.I) (J2 := m.J) (fun hT v kk => ?_) ?_
    · refine sh_j0 (c := .ge) (off := (7)) (pc2 := 8) true rfl (sh_Bget c) rfl ?_
      refine sh_w (i := (.aload_n 0)) (len := 1) (pc2 := 9) (lv2 := [(0, .ref 67), (1, .int x1)]) (st2 := [.ref 67]) (h2 := (sh_rep m.T m.I m.J)) rfl rfl rfl ?_
      refine sh_w (i := (.iload_n 1)) (len := 1) (pc2 := 10) (lv2 := [(0, .ref 67), (1, .int x1)]) (st2 := [.int x1, .ref 67]) (h2 := (sh_rep m.T m.I m.J)) rfl rfl rfl ?_
      exact kk
    obtain ⟨r1, e1, e⟩ := sh_bc_e e
    refine sh_Lk_cV (r := (some (.long r1))) (st2 := [.long r1]) (pc2 := 13) (k2 := 281) (a := 66) (as := [.ref 67, .int x1]) (rest := []) rfl rfl rfl (fun hT => (sh_s66 hT.st)) rfl rfl ⟨Nat.le_of_ble_eq_true rfl, Nat.le_of_ble_eq_true rfl⟩ (sl_281 e1 ⟨rfl, rfl⟩) rfl rfl (Nat.le_of_ble_eq_true rfl) (Nat.le_of_ble_eq_true rfl) ?_
    refine sh_Lk_lift (T := m.T) (I := m.I) (J := m.J) (s := m.s) (pc2 := 14) (lv2 := [(0, .ref 67), (1, .int x1)]) (st2 := [.int (Int64.toInt32 r1)]) (I2 := m.I) (J2 := m.J) (fun hT v kk => ?_) ?_
    · refine sh_w (i := .l2i) (len := 1) (pc2 := 14) (lv2 := [(0, .ref 67), (1, .int x1)]) (st2 := [.int (Int64.toInt32 r1)]) (h2 := (sh_rep m.T m.I m.J)) rfl rfl rfl ?_
      exact kk
    obtain rfl := Option.some.inj e
    obtain ⟨rfl, rfl⟩ := tg
    exact sh_Lk_ret (i := .ireturn) rfl rfl rfl (Nat.le_of_ble_eq_true rfl) (Nat.le_of_ble_eq_true rfl)
theorem sl_287_43 {m m2 : sh_X} {o : Outcome} {z : Bool} (e : sf_287_43 m = some z) (tg : (sh_tZc m o m2) z) : sh_Lk 287 43 [] [] m o m2 8 200 := by
  unfold sf_287_43 at e
  refine sh_Lk_lift (T := m.T) (I := m.I) (J := m.J) (s := m.s) (pc2 := 48) (lv2 := []) (st2 := [.int 1]) (I2 := m.I) (J2 := m.J) (fun hT v kk => ?_) ?_
  · refine sh_w (i := (.iconst 1)) (len := 1) (pc2 := 44) (lv2 := []) (st2 := [.int 1]) (h2 := (sh_rep m.T m.I m.J)) rfl rfl rfl ?_
    refine sh_w (i := (.goto 4)) (len := 3) (pc2 := 48) (lv2 := []) (st2 := [.int 1]) (h2 := (sh_rep m.T m.I m.J)) rfl rfl rfl ?_
    exact kk
  obtain rfl := Option.some.inj e
  obtain ⟨rfl, rfl⟩ := tg
  exact sh_Lk_ret (i := .ireturn) rfl rfl rfl (Nat.le_of_ble_eq_true rfl) (Nat.le_of_ble_eq_true rfl)
theorem sl_287_9 {x1 : Int32} {x2 : Int32} {y0 : Int32} {m m2 : sh_X} {o : Outcome} {z : Bool} (e : sf_287_9 x1 x2 y0 m = some z) (tg : (sh_tZc m o m2) z) : sh_Lk 287 9 [(0, .ref 67), (1, .int x1), (2, .int x2)] [.int y0] m o m2 8 200 := by
  unfold sf_287_9 at e
  refine sh_Lk_lift (T := m.T) (I := m.I) (J := m.J) (s := m.s) (pc2 := 16) (lv2 := [(4, .int y0), (0, .ref 67), (1, .int x1), (2, .int x2)]) (st2 := [.int x1, .ref 103]) (I2 := m.I) (J2 := m.J) (fun hT v kk => ?_) ?_
  · refine sh_w (i := (.istore 4)) (len := 2) (pc2 := 11) (lv2 := [(4, .int y0), (0, .ref 67), (1, .int x1), (2, .int x2)]) (st2 := []) (h2 := (sh_rep m.T m.I m.J)) rfl rfl rfl ?_
    refine sh_w (i := (.aload_n 0)) (len := 1) (pc2 := 12) (lv2 := [(4, .int y0), (0, .ref 67), (1, .int x1), (2, .int x2)]) (st2 := [.ref 67]) (h2 := (sh_rep m.T m.I m.J)) rfl rfl rfl ?_
    refine sh_gR1 (len := 3) (x := .ref 103) (pc2 := 15) rfl rfl (sh_s66 hT.st) rfl rfl ?_
    refine sh_w (i := (.iload_n 1)) (len := 1) (pc2 := 16) (lv2 := [(4, .int y0), (0, .ref 67), (1, .int x1), (2, .int x2)]) (st2 := [.int x1, .ref 103]) (h2 := (sh_rep m.T m.I m.J)) rfl rfl rfl ?_
    exact kk
  obtain ⟨c, e⟩ := sh_gd e
  refine sh_Lk_lift (T := m.T) (I := m.I) (J := m.J) (s := m.s) (pc2 := 25) (lv2 := [(4, .int y0), (0, .ref 67), (1, .int x1), (2, .int x2)]) (st2 := [.int 1000, .int ((m.I 102 (Int32.toNatClampNeg x1)) + (y0 * x2))]) (I2 := m.I) (J2 := m.J) (fun hT v kk => ?_) ?_
  · refine sh_ia1 (x := m.I 102 (Int32.toNatClampNeg x1)) (pc2 := 17) rfl (sh_s102 hT.st) (sh_okb1 c) (sh_okb2 c) rfl rfl ?_
    refine sh_w (i := (.iload 4)) (len := 2) (pc2 := 19) (lv2 := [(4, .int y0), (0, .ref 67), (1, .int x1), (2, .int x2)]) (st2 := [.int y0, .int (m.I 102 (Int32.toNatClampNeg x1))]) (h2 := (sh_rep m.T m.I m.J)) rfl rfl rfl ?_
    refine sh_w (i := (.iload_n 2)) (len := 1) (pc2 := 20) (lv2 := [(4, .int y0), (0, .ref 67), (1, .int x1), (2, .int x2)]) (st2 := [.int x2, .int y0, .int (m.I 102 (Int32.toNatClampNeg x1))]) (h2 := (sh_rep m.T m.I m.J)) rfl rfl rfl ?_
    refine sh_w (i := .imul) (len := 1) (pc2 := 21) (lv2 := [(4, .int y0), (0, .ref 67), (1, .int x1), (2, .int x2)]) (st2 := [.int (y0 * x2), .int (m.I 102 (Int32.toNatClampNeg x1))]) (h2 := (sh_rep m.T m.I m.J)) rfl rfl rfl ?_
    refine sh_w (i := .iadd) (len := 1) (pc2 := 22) (lv2 := [(4, .int y0), (0, .ref 67), (1, .int x1), (2, .int x2)]) (st2 := [.int ((m.I 102 (Int32.toNatClampNeg x1)) + (y0 * x2))]) (h2 := (sh_rep m.T m.I m.J)) rfl rfl rfl ?_
    refine sh_w (i := (.sipush 1000)) (len := 3) (pc2 := 25) (lv2 := [(4, .int y0), (0, .ref 67), (1, .int x1), (2, .int x2)]) (st2 := [.int 1000, .int ((m.I 102 (Int32.toNatClampNeg x1)) + (y0 * x2))]) (h2 := (sh_rep m.T m.I m.J)) rfl rfl rfl ?_
    exact kk
  rcases sh_ite e with ⟨c, e⟩ | ⟨c, e⟩
  · refine sh_Lk_lift (T := m.T) (I := m.I) (J := m.J) (s := m.s) (pc2 := 43) (lv2 := [(4, .int y0), (0, .ref 67), (1, .int x1), (2, .int x2)]) (st2 := []) (I2 := m.I) (J2 := m.J) (fun hT v kk => ?_) ?_
    · refine sh_jc (c := .gt) (off := (18)) (pc2 := 43) true rfl (sh_Bgtt c) rfl ?_
      exact kk
    exact sh_Lk_sub (sh_sub_n) (sl_287_43 e tg)
  · refine sh_Lk_lift (T := m.T) (I := m.I) (J := m.J) (s := m.s) (pc2 := 33) (lv2 := [(4, .int y0), (0, .ref 67), (1, .int x1), (2, .int x2)]) (st2 := [.int x1, .ref 100]) (I2 := m.I) (J2 := m.J) (fun hT v kk => ?_) ?_
    · refine sh_jc (c := .gt) (off := (18)) (pc2 := 28) false rfl (sh_Bgtf c) rfl ?_
      refine sh_w (i := (.aload_n 0)) (len := 1) (pc2 := 29) (lv2 := [(4, .int y0), (0, .ref 67), (1, .int x1), (2, .int x2)]) (st2 := [.ref 67]) (h2 := (sh_rep m.T m.I m.J)) rfl rfl rfl ?_
      refine sh_gR1 (len := 3) (x := .ref 100) (pc2 := 32) rfl rfl (sh_s66 hT.st) rfl rfl ?_
      refine sh_w (i := (.iload_n 1)) (len := 1) (pc2 := 33) (lv2 := [(4, .int y0), (0, .ref 67), (1, .int x1), (2, .int x2)]) (st2 := [.int x1, .ref 100]) (h2 := (sh_rep m.T m.I m.J)) rfl rfl rfl ?_
      exact kk
    obtain ⟨c, e⟩ := sh_gd e
    refine sh_Lk_lift (T := m.T) (I := m.I) (J := m.J) (s := m.s) (pc2 := 40) (lv2 := [(4, .int y0), (0, .ref 67), (1, .int x1), (2, .int x2)]) (st2 := [.int 256, .int ((m.I 99 (Int32.toNatClampNeg x1)) + y0)]) (I2 := m.I) (J2 := m.J) (fun hT v kk => ?_) ?_
    · refine sh_ia1 (x := m.I 99 (Int32.toNatClampNeg x1)) (pc2 := 34) rfl (sh_s99 hT.st) (sh_okb1 c) (sh_okb2 c) rfl rfl ?_
      refine sh_w (i := (.iload 4)) (len := 2) (pc2 := 36) (lv2 := [(4, .int y0), (0, .ref 67), (1, .int x1), (2, .int x2)]) (st2 := [.int y0, .int (m.I 99 (Int32.toNatClampNeg x1))]) (h2 := (sh_rep m.T m.I m.J)) rfl rfl rfl ?_
      refine sh_w (i := .iadd) (len := 1) (pc2 := 37) (lv2 := [(4, .int y0), (0, .ref 67), (1, .int x1), (2, .int x2)]) (st2 := [.int ((m.I 99 (Int32.toNatClampNeg x1)) + y0)]) (h2 := (sh_rep m.T m.I m.J)) rfl rfl rfl ?_
      refine sh_w (i := (.sipush 256)) (len := 3) (pc2 := 40) (lv2 := [(4, .int y0), (0, .ref 67), (1, .int x1), (2, .int x2)]) (st2 := [.int 256, .int ((m.I 99 (Int32.toNatClampNeg x1)) + y0)]) (h2 := (sh_rep m.T m.I m.J)) rfl rfl rfl ?_
      exact kk
    rcases sh_ite e with ⟨c, e⟩ | ⟨c, e⟩
    · refine sh_Lk_lift (T := m.T) (I := m.I) (J := m.J) (s := m.s) (pc2 := 43) (lv2 := [(4, .int y0), (0, .ref 67), (1, .int x1), (2, .int x2)]) (st2 := []) (I2 := m.I) (J2 := m.J) (fun hT v kk => ?_) ?_
      · refine sh_jc (c := .le) (off := (7)) (pc2 := 43) false rfl (sh_Blef c) rfl ?_
        exact kk
      exact sh_Lk_sub (sh_sub_n) (sl_287_43 e tg)
    · refine sh_Lk_lift (T := m.T) (I := m.I) (J := m.J) (s := m.s) (pc2 := 48) (lv2 := [(4, .int y0), (0, .ref 67), (1, .int x1), (2, .int x2)]) (st2 := [.int 0]) (I2 := m.I) (J2 := m.J) (fun hT v kk => ?_) ?_
      · refine sh_jc (c := .le) (off := (7)) (pc2 := 47) true rfl (sh_Blet c) rfl ?_
        refine sh_w (i := (.iconst 0)) (len := 1) (pc2 := 48) (lv2 := [(4, .int y0), (0, .ref 67), (1, .int x1), (2, .int x2)]) (st2 := [.int 0]) (h2 := (sh_rep m.T m.I m.J)) rfl rfl rfl ?_
        exact kk
      obtain rfl := Option.some.inj e
      obtain ⟨rfl, rfl⟩ := tg
      exact sh_Lk_ret (i := .ireturn) rfl rfl rfl (Nat.le_of_ble_eq_true rfl) (Nat.le_of_ble_eq_true rfl)
theorem sl_287 {x1 : Int32} {x2 : Int32} {x3 : Int32} {m m2 : sh_X} {o : Outcome} {z : Bool} (e : sf_287 x1 x2 x3 m = some z) (tg : (sh_tZc m o m2) z) : sh_Lk 287 0 [(0, .ref 67), (1, .int x1), (2, .int x2), (3, .int x3)] [] m o m2 8 200 := by
  unfold sf_287 at e
  refine sh_Lk_lift (T := m.T) (I := m.I) (J := m.J) (s := m.s) (pc2 := 1) (lv2 := [(0, .ref 67), (1, .int x1), (2, .int x2), (3, .int x3)]) (st2 := [.int x3]) (I2 := m.I) (J2 := m.J) (fun hT v kk => ?_) ?_
  · refine sh_w (i := (.iload_n 3)) (len := 1) (pc2 := 1) (lv2 := [(0, .ref 67), (1, .int x1), (2, .int x2), (3, .int x3)]) (st2 := [.int x3]) (h2 := (sh_rep m.T m.I m.J)) rfl rfl rfl ?_
    exact kk
  rcases sh_ite e with ⟨c, e⟩ | ⟨c, e⟩
  · refine sh_Lk_lift (T := m.T) (I := m.I) (J := m.J) (s := m.s) (pc2 := 9) (lv2 := [(0, .ref 67), (1, .int x1), (2, .int x2), (3, .int x3)]) (st2 := [.int 1]) (I2 := m.I) (J2 := m.J) (fun hT v kk => ?_) ?_
    · refine sh_j0 (c := .ne) (off := (7)) (pc2 := 4) false rfl (sh_Bnef c) rfl ?_
      refine sh_w (i := (.iconst 1)) (len := 1) (pc2 := 5) (lv2 := [(0, .ref 67), (1, .int x1), (2, .int x2), (3, .int x3)]) (st2 := [.int 1]) (h2 := (sh_rep m.T m.I m.J)) rfl rfl rfl ?_
      refine sh_w (i := (.goto 4)) (len := 3) (pc2 := 9) (lv2 := [(0, .ref 67), (1, .int x1), (2, .int x2), (3, .int x3)]) (st2 := [.int 1]) (h2 := (sh_rep m.T m.I m.J)) rfl rfl rfl ?_
      exact kk
    exact sh_Lk_sub (sh_sub_c rfl (sh_sub_c rfl (sh_sub_c rfl (sh_sub_n)))) (sl_287_9 e tg)
  · refine sh_Lk_lift (T := m.T) (I := m.I) (J := m.J) (s := m.s) (pc2 := 9) (lv2 := [(0, .ref 67), (1, .int x1), (2, .int x2), (3, .int x3)]) (st2 := [.int x3]) (I2 := m.I) (J2 := m.J) (fun hT v kk => ?_) ?_
    · refine sh_j0 (c := .ne) (off := (7)) (pc2 := 8) true rfl (sh_Bnet c) rfl ?_
      refine sh_w (i := (.iload_n 3)) (len := 1) (pc2 := 9) (lv2 := [(0, .ref 67), (1, .int x1), (2, .int x2), (3, .int x3)]) (st2 := [.int x3]) (h2 := (sh_rep m.T m.I m.J)) rfl rfl rfl ?_
      exact kk
    exact sh_Lk_sub (sh_sub_c rfl (sh_sub_c rfl (sh_sub_c rfl (sh_sub_n)))) (sl_287_9 e tg)
theorem sl_288 {x0 : Int32} {x1 : Int32} {x2 : Int64} {m m2 : sh_X} {o : Outcome} {z : Int64} (e : sf_288 x0 x1 x2 = z) (tg : (sh_tJc m o m2) z) : sh_Lk 288 0 [(0, .int x0), (1, .int x1), (2, .long x2)] [] m o m2 8 200 := by
  unfold sf_288 at e
  refine sh_Lk_lift (T := m.T) (I := m.I) (J := m.J) (s := m.s) (pc2 := 3) (lv2 := [(0, .int x0), (1, .int x1), (2, .long x2)]) (st2 := [.int 64, .int x1]) (I2 := m.I) (J2 := m.J) (fun hT v kk => ?_) ?_
  · refine sh_w (i := (.iload_n 1)) (len := 1) (pc2 := 1) (lv2 := [(0, .int x0), (1, .int x1), (2, .long x2)]) (st2 := [.int x1]) (h2 := (sh_rep m.T m.I m.J)) rfl rfl rfl ?_
    refine sh_w (i := (.bipush 64)) (len := 2) (pc2 := 3) (lv2 := [(0, .int x0), (1, .int x1), (2, .long x2)]) (st2 := [.int 64, .int x1]) (h2 := (sh_rep m.T m.I m.J)) rfl rfl rfl ?_
    exact kk
  rcases sh_ite e with ⟨c, e⟩ | ⟨c, e⟩
  · refine sh_Lk_lift (T := m.T) (I := m.I) (J := m.J) (s := m.s) (pc2 := 7) (lv2 := [(0, .int x0), (1, .int x1), (2, .long x2)]) (st2 := [.long x2]) (I2 := m.I) (J2 := m.J) (fun hT v kk => ?_) ?_
    · refine sh_jc (c := .ne) (off := (5)) (pc2 := 6) false rfl (sh_Bnef c) rfl ?_
      refine sh_w (i := (.lload_n 2)) (len := 1) (pc2 := 7) (lv2 := [(0, .int x0), (1, .int x1), (2, .long x2)]) (st2 := [.long x2]) (h2 := (sh_rep m.T m.I m.J)) rfl rfl rfl ?_
      exact kk
    obtain rfl := e
    obtain ⟨rfl, rfl⟩ := tg
    exact sh_Lk_ret (i := .lreturn) rfl rfl rfl (Nat.le_of_ble_eq_true rfl) (Nat.le_of_ble_eq_true rfl)
  · refine sh_Lk_lift (T := m.T) (I := m.I) (J := m.J) (s := m.s) (pc2 := 19) (lv2 := [(4, .long (x2 &&& (((1 : Int64) <<< (Int32.toInt64 x1 &&& 63)) - (1 : Int64)))), (0, .int x0), (1, .int x1), (2, .long x2)]) (st2 := [.int 2, .int x0]) (I2 := m.I) (J2 := m.J) (fun hT v kk => ?_) ?_
    · refine sh_jc (c := .ne) (off := (5)) (pc2 := 8) true rfl (sh_Bnet c) rfl ?_
      refine sh_w (i := (.lload_n 2)) (len := 1) (pc2 := 9) (lv2 := [(0, .int x0), (1, .int x1), (2, .long x2)]) (st2 := [.long x2]) (h2 := (sh_rep m.T m.I m.J)) rfl rfl rfl ?_
      refine sh_w (i := (.lconst 1)) (len := 1) (pc2 := 10) (lv2 := [(0, .int x0), (1, .int x1), (2, .long x2)]) (st2 := [.long 1, .long x2]) (h2 := (sh_rep m.T m.I m.J)) rfl rfl rfl ?_
      refine sh_w (i := (.iload_n 1)) (len := 1) (pc2 := 11) (lv2 := [(0, .int x0), (1, .int x1), (2, .long x2)]) (st2 := [.int x1, .long 1, .long x2]) (h2 := (sh_rep m.T m.I m.J)) rfl rfl rfl ?_
      refine sh_w (i := .lshl) (len := 1) (pc2 := 12) (lv2 := [(0, .int x0), (1, .int x1), (2, .long x2)]) (st2 := [.long ((1 : Int64) <<< (Int32.toInt64 x1 &&& 63)), .long x2]) (h2 := (sh_rep m.T m.I m.J)) rfl rfl rfl ?_
      refine sh_w (i := (.lconst 1)) (len := 1) (pc2 := 13) (lv2 := [(0, .int x0), (1, .int x1), (2, .long x2)]) (st2 := [.long 1, .long ((1 : Int64) <<< (Int32.toInt64 x1 &&& 63)), .long x2]) (h2 := (sh_rep m.T m.I m.J)) rfl rfl rfl ?_
      refine sh_w (i := .lsub) (len := 1) (pc2 := 14) (lv2 := [(0, .int x0), (1, .int x1), (2, .long x2)]) (st2 := [.long (((1 : Int64) <<< (Int32.toInt64 x1 &&& 63)) - (1 : Int64)), .long x2]) (h2 := (sh_rep m.T m.I m.J)) rfl rfl rfl ?_
      refine sh_w (i := .land) (len := 1) (pc2 := 15) (lv2 := [(0, .int x0), (1, .int x1), (2, .long x2)]) (st2 := [.long (x2 &&& (((1 : Int64) <<< (Int32.toInt64 x1 &&& 63)) - (1 : Int64)))]) (h2 := (sh_rep m.T m.I m.J)) rfl rfl rfl ?_
      refine sh_w (i := (.lstore 4)) (len := 2) (pc2 := 17) (lv2 := [(4, .long (x2 &&& (((1 : Int64) <<< (Int32.toInt64 x1 &&& 63)) - (1 : Int64)))), (0, .int x0), (1, .int x1), (2, .long x2)]) (st2 := []) (h2 := (sh_rep m.T m.I m.J)) rfl rfl rfl ?_
      refine sh_w (i := (.iload_n 0)) (len := 1) (pc2 := 18) (lv2 := [(4, .long (x2 &&& (((1 : Int64) <<< (Int32.toInt64 x1 &&& 63)) - (1 : Int64)))), (0, .int x0), (1, .int x1), (2, .long x2)]) (st2 := [.int x0]) (h2 := (sh_rep m.T m.I m.J)) rfl rfl rfl ?_
      refine sh_w (i := (.iconst 2)) (len := 1) (pc2 := 19) (lv2 := [(4, .long (x2 &&& (((1 : Int64) <<< (Int32.toInt64 x1 &&& 63)) - (1 : Int64)))), (0, .int x0), (1, .int x1), (2, .long x2)]) (st2 := [.int 2, .int x0]) (h2 := (sh_rep m.T m.I m.J)) rfl rfl rfl ?_
      exact kk
    rcases sh_ite e with ⟨c, e⟩ | ⟨c, e⟩
    · refine sh_Lk_lift (T := m.T) (I := m.I) (J := m.J) (s := m.s) (pc2 := 32) (lv2 := [(4, .long (x2 &&& (((1 : Int64) <<< (Int32.toInt64 x1 &&& 63)) - (1 : Int64)))), (0, .int x0), (1, .int x1), (2, .long x2)]) (st2 := [.int (lg_cmp (((x2 &&& (((1 : Int64) <<< (Int32.toInt64 x1 &&& 63)) - (1 : Int64))) >>> (Int32.toInt64 (x1 - 1) &&& 63)) &&& (1 : Int64)) 1)]) (I2 := m.I) (J2 := m.J) (fun hT v kk => ?_) ?_
      · refine sh_jc (c := .ne) (off := (25)) (pc2 := 22) false rfl (sh_Bnef c) rfl ?_
        refine sh_w (i := (.lload 4)) (len := 2) (pc2 := 24) (lv2 := [(4, .long (x2 &&& (((1 : Int64) <<< (Int32.toInt64 x1 &&& 63)) - (1 : Int64)))), (0, .int x0), (1, .int x1), (2, .long x2)]) (st2 := [.long (x2 &&& (((1 : Int64) <<< (Int32.toInt64 x1 &&& 63)) - (1 : Int64)))]) (h2 := (sh_rep m.T m.I m.J)) rfl rfl rfl ?_
        refine sh_w (i := (.iload_n 1)) (len := 1) (pc2 := 25) (lv2 := [(4, .long (x2 &&& (((1 : Int64) <<< (Int32.toInt64 x1 &&& 63)) - (1 : Int64)))), (0, .int x0), (1, .int x1), (2, .long x2)]) (st2 := [.int x1, .long (x2 &&& (((1 : Int64) <<< (Int32.toInt64 x1 &&& 63)) - (1 : Int64)))]) (h2 := (sh_rep m.T m.I m.J)) rfl rfl rfl ?_
        refine sh_w (i := (.iconst 1)) (len := 1) (pc2 := 26) (lv2 := [(4, .long (x2 &&& (((1 : Int64) <<< (Int32.toInt64 x1 &&& 63)) - (1 : Int64)))), (0, .int x0), (1, .int x1), (2, .long x2)]) (st2 := [.int 1, .int x1, .long (x2 &&& (((1 : Int64) <<< (Int32.toInt64 x1 &&& 63)) - (1 : Int64)))]) (h2 := (sh_rep m.T m.I m.J)) rfl rfl rfl ?_
        refine sh_w (i := .isub) (len := 1) (pc2 := 27) (lv2 := [(4, .long (x2 &&& (((1 : Int64) <<< (Int32.toInt64 x1 &&& 63)) - (1 : Int64)))), (0, .int x0), (1, .int x1), (2, .long x2)]) (st2 := [.int (x1 - 1), .long (x2 &&& (((1 : Int64) <<< (Int32.toInt64 x1 &&& 63)) - (1 : Int64)))]) (h2 := (sh_rep m.T m.I m.J)) rfl rfl rfl ?_
        refine sh_w (i := .lshr) (len := 1) (pc2 := 28) (lv2 := [(4, .long (x2 &&& (((1 : Int64) <<< (Int32.toInt64 x1 &&& 63)) - (1 : Int64)))), (0, .int x0), (1, .int x1), (2, .long x2)]) (st2 := [.long ((x2 &&& (((1 : Int64) <<< (Int32.toInt64 x1 &&& 63)) - (1 : Int64))) >>> (Int32.toInt64 (x1 - 1) &&& 63))]) (h2 := (sh_rep m.T m.I m.J)) rfl rfl rfl ?_
        refine sh_w (i := (.lconst 1)) (len := 1) (pc2 := 29) (lv2 := [(4, .long (x2 &&& (((1 : Int64) <<< (Int32.toInt64 x1 &&& 63)) - (1 : Int64)))), (0, .int x0), (1, .int x1), (2, .long x2)]) (st2 := [.long 1, .long ((x2 &&& (((1 : Int64) <<< (Int32.toInt64 x1 &&& 63)) - (1 : Int64))) >>> (Int32.toInt64 (x1 - 1) &&& 63))]) (h2 := (sh_rep m.T m.I m.J)) rfl rfl rfl ?_
        refine sh_w (i := .land) (len := 1) (pc2 := 30) (lv2 := [(4, .long (x2 &&& (((1 : Int64) <<< (Int32.toInt64 x1 &&& 63)) - (1 : Int64)))), (0, .int x0), (1, .int x1), (2, .long x2)]) (st2 := [.long (((x2 &&& (((1 : Int64) <<< (Int32.toInt64 x1 &&& 63)) - (1 : Int64))) >>> (Int32.toInt64 (x1 - 1) &&& 63)) &&& (1 : Int64))]) (h2 := (sh_rep m.T m.I m.J)) rfl rfl rfl ?_
        refine sh_w (i := (.lconst 1)) (len := 1) (pc2 := 31) (lv2 := [(4, .long (x2 &&& (((1 : Int64) <<< (Int32.toInt64 x1 &&& 63)) - (1 : Int64)))), (0, .int x0), (1, .int x1), (2, .long x2)]) (st2 := [.long 1, .long (((x2 &&& (((1 : Int64) <<< (Int32.toInt64 x1 &&& 63)) - (1 : Int64))) >>> (Int32.toInt64 (x1 - 1) &&& 63)) &&& (1 : Int64))]) (h2 := (sh_rep m.T m.I m.J)) rfl rfl rfl ?_
        refine sh_w (i := .lcmp) (len := 1) (pc2 := 32) (lv2 := [(4, .long (x2 &&& (((1 : Int64) <<< (Int32.toInt64 x1 &&& 63)) - (1 : Int64)))), (0, .int x0), (1, .int x1), (2, .long x2)]) (st2 := [.int (lg_cmp (((x2 &&& (((1 : Int64) <<< (Int32.toInt64 x1 &&& 63)) - (1 : Int64))) >>> (Int32.toInt64 (x1 - 1) &&& 63)) &&& (1 : Int64)) 1)]) (h2 := (sh_rep m.T m.I m.J)) rfl rfl rfl ?_
        exact kk
      rcases sh_ite e with ⟨c, e⟩ | ⟨c, e⟩
      · refine sh_Lk_lift (T := m.T) (I := m.I) (J := m.J) (s := m.s) (pc2 := 46) (lv2 := [(4, .long (x2 &&& (((1 : Int64) <<< (Int32.toInt64 x1 &&& 63)) - (1 : Int64)))), (0, .int x0), (1, .int x1), (2, .long x2)]) (st2 := [.long ((x2 &&& (((1 : Int64) <<< (Int32.toInt64 x1 &&& 63)) - (1 : Int64))) - ((1 : Int64) <<< (Int32.toInt64 x1 &&& 63)))]) (I2 := m.I) (J2 := m.J) (fun hT v kk => ?_) ?_
        · refine sh_j0 (c := .ne) (off := (12)) (pc2 := 35) false rfl (sh_Cnef c) rfl ?_
          refine sh_w (i := (.lload 4)) (len := 2) (pc2 := 37) (lv2 := [(4, .long (x2 &&& (((1 : Int64) <<< (Int32.toInt64 x1 &&& 63)) - (1 : Int64)))), (0, .int x0), (1, .int x1), (2, .long x2)]) (st2 := [.long (x2 &&& (((1 : Int64) <<< (Int32.toInt64 x1 &&& 63)) - (1 : Int64)))]) (h2 := (sh_rep m.T m.I m.J)) rfl rfl rfl ?_
          refine sh_w (i := (.lconst 1)) (len := 1) (pc2 := 38) (lv2 := [(4, .long (x2 &&& (((1 : Int64) <<< (Int32.toInt64 x1 &&& 63)) - (1 : Int64)))), (0, .int x0), (1, .int x1), (2, .long x2)]) (st2 := [.long 1, .long (x2 &&& (((1 : Int64) <<< (Int32.toInt64 x1 &&& 63)) - (1 : Int64)))]) (h2 := (sh_rep m.T m.I m.J)) rfl rfl rfl ?_
          refine sh_w (i := (.iload_n 1)) (len := 1) (pc2 := 39) (lv2 := [(4, .long (x2 &&& (((1 : Int64) <<< (Int32.toInt64 x1 &&& 63)) - (1 : Int64)))), (0, .int x0), (1, .int x1), (2, .long x2)]) (st2 := [.int x1, .long 1, .long (x2 &&& (((1 : Int64) <<< (Int32.toInt64 x1 &&& 63)) - (1 : Int64)))]) (h2 := (sh_rep m.T m.I m.J)) rfl rfl rfl ?_
          refine sh_w (i := .lshl) (len := 1) (pc2 := 40) (lv2 := [(4, .long (x2 &&& (((1 : Int64) <<< (Int32.toInt64 x1 &&& 63)) - (1 : Int64)))), (0, .int x0), (1, .int x1), (2, .long x2)]) (st2 := [.long ((1 : Int64) <<< (Int32.toInt64 x1 &&& 63)), .long (x2 &&& (((1 : Int64) <<< (Int32.toInt64 x1 &&& 63)) - (1 : Int64)))]) (h2 := (sh_rep m.T m.I m.J)) rfl rfl rfl ?_
          refine sh_w (i := .lsub) (len := 1) (pc2 := 41) (lv2 := [(4, .long (x2 &&& (((1 : Int64) <<< (Int32.toInt64 x1 &&& 63)) - (1 : Int64)))), (0, .int x0), (1, .int x1), (2, .long x2)]) (st2 := [.long ((x2 &&& (((1 : Int64) <<< (Int32.toInt64 x1 &&& 63)) - (1 : Int64))) - ((1 : Int64) <<< (Int32.toInt64 x1 &&& 63)))]) (h2 := (sh_rep m.T m.I m.J)) rfl rfl rfl ?_
          refine sh_w (i := (.goto 5)) (len := 3) (pc2 := 46) (lv2 := [(4, .long (x2 &&& (((1 : Int64) <<< (Int32.toInt64 x1 &&& 63)) - (1 : Int64)))), (0, .int x0), (1, .int x1), (2, .long x2)]) (st2 := [.long ((x2 &&& (((1 : Int64) <<< (Int32.toInt64 x1 &&& 63)) - (1 : Int64))) - ((1 : Int64) <<< (Int32.toInt64 x1 &&& 63)))]) (h2 := (sh_rep m.T m.I m.J)) rfl rfl rfl ?_
          exact kk
        obtain rfl := e
        obtain ⟨rfl, rfl⟩ := tg
        exact sh_Lk_ret (i := .lreturn) rfl rfl rfl (Nat.le_of_ble_eq_true rfl) (Nat.le_of_ble_eq_true rfl)
      · refine sh_Lk_lift (T := m.T) (I := m.I) (J := m.J) (s := m.s) (pc2 := 46) (lv2 := [(4, .long (x2 &&& (((1 : Int64) <<< (Int32.toInt64 x1 &&& 63)) - (1 : Int64)))), (0, .int x0), (1, .int x1), (2, .long x2)]) (st2 := [.long (x2 &&& (((1 : Int64) <<< (Int32.toInt64 x1 &&& 63)) - (1 : Int64)))]) (I2 := m.I) (J2 := m.J) (fun hT v kk => ?_) ?_
        · refine sh_j0 (c := .ne) (off := (12)) (pc2 := 44) true rfl (sh_Cnet c) rfl ?_
          refine sh_w (i := (.lload 4)) (len := 2) (pc2 := 46) (lv2 := [(4, .long (x2 &&& (((1 : Int64) <<< (Int32.toInt64 x1 &&& 63)) - (1 : Int64)))), (0, .int x0), (1, .int x1), (2, .long x2)]) (st2 := [.long (x2 &&& (((1 : Int64) <<< (Int32.toInt64 x1 &&& 63)) - (1 : Int64)))]) (h2 := (sh_rep m.T m.I m.J)) rfl rfl rfl ?_
          exact kk
        obtain rfl := e
        obtain ⟨rfl, rfl⟩ := tg
        exact sh_Lk_ret (i := .lreturn) rfl rfl rfl (Nat.le_of_ble_eq_true rfl) (Nat.le_of_ble_eq_true rfl)
    · refine sh_Lk_lift (T := m.T) (I := m.I) (J := m.J) (s := m.s) (pc2 := 46) (lv2 := [(4, .long (x2 &&& (((1 : Int64) <<< (Int32.toInt64 x1 &&& 63)) - (1 : Int64)))), (0, .int x0), (1, .int x1), (2, .long x2)]) (st2 := [.long (x2 &&& (((1 : Int64) <<< (Int32.toInt64 x1 &&& 63)) - (1 : Int64)))]) (I2 := m.I) (J2 := m.J) (fun hT v kk => ?_) ?_
      · refine sh_jc (c := .ne) (off := (25)) (pc2 := 44) true rfl (sh_Bnet c) rfl ?_
        refine sh_w (i := (.lload 4)) (len := 2) (pc2 := 46) (lv2 := [(4, .long (x2 &&& (((1 : Int64) <<< (Int32.toInt64 x1 &&& 63)) - (1 : Int64)))), (0, .int x0), (1, .int x1), (2, .long x2)]) (st2 := [.long (x2 &&& (((1 : Int64) <<< (Int32.toInt64 x1 &&& 63)) - (1 : Int64)))]) (h2 := (sh_rep m.T m.I m.J)) rfl rfl rfl ?_
        exact kk
      obtain rfl := e
      obtain ⟨rfl, rfl⟩ := tg
      exact sh_Lk_ret (i := .lreturn) rfl rfl rfl (Nat.le_of_ble_eq_true rfl) (Nat.le_of_ble_eq_true rfl)
theorem sl_289 {x1 : Int32} {x2 : Int32} {x3 : Int32} {m m2 : sh_X} {o : Outcome} {z : (Unit × sh_X)} (e : sf_289 x1 x2 x3 m = some z) (tg : (sh_tV o m2) z) : sh_Lk 289 0 [(0, .ref 67), (1, .int x1), (2, .int x2), (3, .int x3)] [] m o m2 8 200 := by
  unfold sf_289 at e
  refine sh_Lk_lift (T := m.T) (I := m.I) (J := m.J) (s := m.s) (pc2 := 14) (lv2 := [(0, .ref 67), (1, .int x1), (2, .int x2), (3, .int x3)]) (st2 := [.int x1, .ref 100, .int (256 * x1), .ref 101]) (I2 := m.I) (J2 := m.J) (fun hT v kk => ?_) ?_
  · refine sh_w (i := (.aload_n 0)) (len := 1) (pc2 := 1) (lv2 := [(0, .ref 67), (1, .int x1), (2, .int x2), (3, .int x3)]) (st2 := [.ref 67]) (h2 := (sh_rep m.T m.I m.J)) rfl rfl rfl ?_
    refine sh_gR1 (len := 3) (x := .ref 101) (pc2 := 4) rfl rfl (sh_s66 hT.st) rfl rfl ?_
    refine sh_w (i := (.sipush 256)) (len := 3) (pc2 := 7) (lv2 := [(0, .ref 67), (1, .int x1), (2, .int x2), (3, .int x3)]) (st2 := [.int 256, .ref 101]) (h2 := (sh_rep m.T m.I m.J)) rfl rfl rfl ?_
    refine sh_w (i := (.iload_n 1)) (len := 1) (pc2 := 8) (lv2 := [(0, .ref 67), (1, .int x1), (2, .int x2), (3, .int x3)]) (st2 := [.int x1, .int 256, .ref 101]) (h2 := (sh_rep m.T m.I m.J)) rfl rfl rfl ?_
    refine sh_w (i := .imul) (len := 1) (pc2 := 9) (lv2 := [(0, .ref 67), (1, .int x1), (2, .int x2), (3, .int x3)]) (st2 := [.int (256 * x1), .ref 101]) (h2 := (sh_rep m.T m.I m.J)) rfl rfl rfl ?_
    refine sh_w (i := (.aload_n 0)) (len := 1) (pc2 := 10) (lv2 := [(0, .ref 67), (1, .int x1), (2, .int x2), (3, .int x3)]) (st2 := [.ref 67, .int (256 * x1), .ref 101]) (h2 := (sh_rep m.T m.I m.J)) rfl rfl rfl ?_
    refine sh_gR1 (len := 3) (x := .ref 100) (pc2 := 13) rfl rfl (sh_s66 hT.st) rfl rfl ?_
    refine sh_w (i := (.iload_n 1)) (len := 1) (pc2 := 14) (lv2 := [(0, .ref 67), (1, .int x1), (2, .int x2), (3, .int x3)]) (st2 := [.int x1, .ref 100, .int (256 * x1), .ref 101]) (h2 := (sh_rep m.T m.I m.J)) rfl rfl rfl ?_
    exact kk
  obtain ⟨c, e⟩ := sh_gd e
  refine sh_Lk_lift (T := m.T) (I := m.I) (J := m.J) (s := m.s) (pc2 := 17) (lv2 := [(0, .ref 67), (1, .int x1), (2, .int x2), (3, .int x3)]) (st2 := [.int x2, .int ((256 * x1) + (m.I 99 (Int32.toNatClampNeg x1))), .ref 101]) (I2 := m.I) (J2 := m.J) (fun hT v kk => ?_) ?_
  · refine sh_ia1 (x := m.I 99 (Int32.toNatClampNeg x1)) (pc2 := 15) rfl (sh_s99 hT.st) (sh_okb1 c) (sh_okb2 c) rfl rfl ?_
    refine sh_w (i := .iadd) (len := 1) (pc2 := 16) (lv2 := [(0, .ref 67), (1, .int x1), (2, .int x2), (3, .int x3)]) (st2 := [.int ((256 * x1) + (m.I 99 (Int32.toNatClampNeg x1))), .ref 101]) (h2 := (sh_rep m.T m.I m.J)) rfl rfl rfl ?_
    refine sh_w (i := (.iload_n 2)) (len := 1) (pc2 := 17) (lv2 := [(0, .ref 67), (1, .int x1), (2, .int x2), (3, .int x3)]) (st2 := [.int x2, .int ((256 * x1) + (m.I 99 (Int32.toNatClampNeg x1))), .ref 101]) (h2 := (sh_rep m.T m.I m.J)) rfl rfl rfl ?_
    exact kk
  obtain ⟨c, e⟩ := sh_gd e
  refine sh_Lk_lift (T := m.T) (I := m.I) (J := m.J) (s := m.s) (pc2 := 32) (lv2 := [(0, .ref 67), (1, .int x1), (2, .int x2), (3, .int x3)]) (st2 := [.int x1, .ref 100, .int (256 * x1), .ref 102]) (I2 := sh_u2 m.I 100 (Int32.toNatClampNeg ((256 * x1) + (m.I 99 (Int32.toNatClampNeg x1)))) x2) (J2 := m.J) (fun hT v kk => ?_) ?_
  · refine sh_is1 (x := x2) (i := (256 * x1) + (m.I 99 (Int32.toNatClampNeg x1))) (pc2 := 18) rfl (sh_s100 hT.st) (sh_okb1 c) (sh_okb2 c) rfl ?_
    refine sh_w (i := (.aload_n 0)) (len := 1) (pc2 := 19) (lv2 := [(0, .ref 67), (1, .int x1), (2, .int x2), (3, .int x3)]) (st2 := [.ref 67]) (h2 := (sh_rep m.T (sh_u2 m.I 100 (Int32.toNatClampNeg ((256 * x1) + (m.I 99 (Int32.toNatClampNeg x1)))) x2) m.J)) rfl rfl rfl ?_
    refine sh_gR1 (len := 3) (x := .ref 102) (pc2 := 22) rfl rfl (sh_s66 hT.st) rfl rfl ?_
    refine sh_w (i := (.sipush 256)) (len := 3) (pc2 := 25) (lv2 := [(0, .ref 67), (1, .int x1), (2, .int x2), (3, .int x3)]) (st2 := [.int 256, .ref 102]) (h2 := (sh_rep m.T (sh_u2 m.I 100 (Int32.toNatClampNeg ((256 * x1) + (m.I 99 (Int32.toNatClampNeg x1)))) x2) m.J)) rfl rfl rfl ?_
    refine sh_w (i := (.iload_n 1)) (len := 1) (pc2 := 26) (lv2 := [(0, .ref 67), (1, .int x1), (2, .int x2), (3, .int x3)]) (st2 := [.int x1, .int 256, .ref 102]) (h2 := (sh_rep m.T (sh_u2 m.I 100 (Int32.toNatClampNeg ((256 * x1) + (m.I 99 (Int32.toNatClampNeg x1)))) x2) m.J)) rfl rfl rfl ?_
    refine sh_w (i := .imul) (len := 1) (pc2 := 27) (lv2 := [(0, .ref 67), (1, .int x1), (2, .int x2), (3, .int x3)]) (st2 := [.int (256 * x1), .ref 102]) (h2 := (sh_rep m.T (sh_u2 m.I 100 (Int32.toNatClampNeg ((256 * x1) + (m.I 99 (Int32.toNatClampNeg x1)))) x2) m.J)) rfl rfl rfl ?_
    refine sh_w (i := (.aload_n 0)) (len := 1) (pc2 := 28) (lv2 := [(0, .ref 67), (1, .int x1), (2, .int x2), (3, .int x3)]) (st2 := [.ref 67, .int (256 * x1), .ref 102]) (h2 := (sh_rep m.T (sh_u2 m.I 100 (Int32.toNatClampNeg ((256 * x1) + (m.I 99 (Int32.toNatClampNeg x1)))) x2) m.J)) rfl rfl rfl ?_
    refine sh_gR1 (len := 3) (x := .ref 100) (pc2 := 31) rfl rfl (sh_s66 hT.st) rfl rfl ?_
    refine sh_w (i := (.iload_n 1)) (len := 1) (pc2 := 32) (lv2 := [(0, .ref 67), (1, .int x1), (2, .int x2), (3, .int x3)]) (st2 := [.int x1, .ref 100, .int (256 * x1), .ref 102]) (h2 := (sh_rep m.T (sh_u2 m.I 100 (Int32.toNatClampNeg ((256 * x1) + (m.I 99 (Int32.toNatClampNeg x1)))) x2) m.J)) rfl rfl rfl ?_
    exact kk
  obtain ⟨c, e⟩ := sh_gd e
  refine sh_Lk_lift (T := m.T) (I := sh_u2 m.I 100 (Int32.toNatClampNeg ((256 * x1) + (m.I 99 (Int32.toNatClampNeg x1)))) x2) (J := m.J) (s := m.s) (pc2 := 35) (lv2 := [(0, .ref 67), (1, .int x1), (2, .int x2), (3, .int x3)]) (st2 := [.int x3, .int ((256 * x1) + (m.I 99 (Int32.toNatClampNeg x1))), .ref 102]) (I2 := sh_u2 m.I 100 (Int32.toNatClampNeg ((256 * x1) + (m.I 99 (Int32.toNatClampNeg x1)))) x2) (J2 := m.J) (fun hT v kk => ?_) ?_
  · refine sh_ia1 (x := m.I 99 (Int32.toNatClampNeg x1)) (pc2 := 33) rfl (sh_s99 hT.st) (sh_okb1 c) (sh_okb2 c) rfl rfl ?_
    refine sh_w (i := .iadd) (len := 1) (pc2 := 34) (lv2 := [(0, .ref 67), (1, .int x1), (2, .int x2), (3, .int x3)]) (st2 := [.int ((256 * x1) + (m.I 99 (Int32.toNatClampNeg x1))), .ref 102]) (h2 := (sh_rep m.T (sh_u2 m.I 100 (Int32.toNatClampNeg ((256 * x1) + (m.I 99 (Int32.toNatClampNeg x1)))) x2) m.J)) rfl rfl rfl ?_
    refine sh_w (i := (.iload_n 3)) (len := 1) (pc2 := 35) (lv2 := [(0, .ref 67), (1, .int x1), (2, .int x2), (3, .int x3)]) (st2 := [.int x3, .int ((256 * x1) + (m.I 99 (Int32.toNatClampNeg x1))), .ref 102]) (h2 := (sh_rep m.T (sh_u2 m.I 100 (Int32.toNatClampNeg ((256 * x1) + (m.I 99 (Int32.toNatClampNeg x1)))) x2) m.J)) rfl rfl rfl ?_
    exact kk
  obtain ⟨c, e⟩ := sh_gd e
  refine sh_Lk_lift (T := m.T) (I := sh_u2 m.I 100 (Int32.toNatClampNeg ((256 * x1) + (m.I 99 (Int32.toNatClampNeg x1)))) x2) (J := m.J) (s := m.s) (pc2 := 42) (lv2 := [(0, .ref 67), (1, .int x1), (2, .int x2), (3, .int x3)]) (st2 := [.int x1, .ref 100, .int x1, .ref 100]) (I2 := sh_u2 (sh_u2 m.I 100 (Int32.toNatClampNeg ((256 * x1) + (m.I 99 (Int32.toNatClampNeg x1)))) x2) 101 (Int32.toNatClampNeg ((256 * x1) + (m.I 99 (Int32.toNatClampNeg x1)))) x3) (J2 := m.J) (fun hT v kk => ?_) ?_
  · refine sh_is1 (x := x3) (i := (256 * x1) + (m.I 99 (Int32.toNatClampNeg x1))) (pc2 := 36) rfl (sh_s101 hT.st) (sh_okb1 c) (sh_okb2 c) rfl ?_
    refine sh_w (i := (.aload_n 0)) (len := 1) (pc2 := 37) (lv2 := [(0, .ref 67), (1, .int x1), (2, .int x2), (3, .int x3)]) (st2 := [.ref 67]) (h2 := (sh_rep m.T (sh_u2 (sh_u2 m.I 100 (Int32.toNatClampNeg ((256 * x1) + (m.I 99 (Int32.toNatClampNeg x1)))) x2) 101 (Int32.toNatClampNeg ((256 * x1) + (m.I 99 (Int32.toNatClampNeg x1)))) x3) m.J)) rfl rfl rfl ?_
    refine sh_gR1 (len := 3) (x := .ref 100) (pc2 := 40) rfl rfl (sh_s66 hT.st) rfl rfl ?_
    refine sh_w (i := (.iload_n 1)) (len := 1) (pc2 := 41) (lv2 := [(0, .ref 67), (1, .int x1), (2, .int x2), (3, .int x3)]) (st2 := [.int x1, .ref 100]) (h2 := (sh_rep m.T (sh_u2 (sh_u2 m.I 100 (Int32.toNatClampNeg ((256 * x1) + (m.I 99 (Int32.toNatClampNeg x1)))) x2) 101 (Int32.toNatClampNeg ((256 * x1) + (m.I 99 (Int32.toNatClampNeg x1)))) x3) m.J)) rfl rfl rfl ?_
    refine sh_w (i := .dup2) (len := 1) (pc2 := 42) (lv2 := [(0, .ref 67), (1, .int x1), (2, .int x2), (3, .int x3)]) (st2 := [.int x1, .ref 100, .int x1, .ref 100]) (h2 := (sh_rep m.T (sh_u2 (sh_u2 m.I 100 (Int32.toNatClampNeg ((256 * x1) + (m.I 99 (Int32.toNatClampNeg x1)))) x2) 101 (Int32.toNatClampNeg ((256 * x1) + (m.I 99 (Int32.toNatClampNeg x1)))) x3) m.J)) rfl rfl rfl ?_
    exact kk
  obtain ⟨c, e⟩ := sh_gd e
  refine sh_Lk_lift (T := m.T) (I := sh_u2 (sh_u2 m.I 100 (Int32.toNatClampNeg ((256 * x1) + (m.I 99 (Int32.toNatClampNeg x1)))) x2) 101 (Int32.toNatClampNeg ((256 * x1) + (m.I 99 (Int32.toNatClampNeg x1)))) x3) (J := m.J) (s := m.s) (pc2 := 45) (lv2 := [(0, .ref 67), (1, .int x1), (2, .int x2), (3, .int x3)]) (st2 := [.int ((m.I 99 (Int32.toNatClampNeg x1)) + 1), .int x1, .ref 100]) (I2 := sh_u2 (sh_u2 m.I 100 (Int32.toNatClampNeg ((256 * x1) + (m.I 99 (Int32.toNatClampNeg x1)))) x2) 101 (Int32.toNatClampNeg ((256 * x1) + (m.I 99 (Int32.toNatClampNeg x1)))) x3) (J2 := m.J) (fun hT v kk => ?_) ?_
  · refine sh_ia1 (x := m.I 99 (Int32.toNatClampNeg x1)) (pc2 := 43) rfl (sh_s99 hT.st) (sh_okb1 c) (sh_okb2 c) rfl rfl ?_
    refine sh_w (i := (.iconst 1)) (len := 1) (pc2 := 44) (lv2 := [(0, .ref 67), (1, .int x1), (2, .int x2), (3, .int x3)]) (st2 := [.int 1, .int (m.I 99 (Int32.toNatClampNeg x1)), .int x1, .ref 100]) (h2 := (sh_rep m.T (sh_u2 (sh_u2 m.I 100 (Int32.toNatClampNeg ((256 * x1) + (m.I 99 (Int32.toNatClampNeg x1)))) x2) 101 (Int32.toNatClampNeg ((256 * x1) + (m.I 99 (Int32.toNatClampNeg x1)))) x3) m.J)) rfl rfl rfl ?_
    refine sh_w (i := .iadd) (len := 1) (pc2 := 45) (lv2 := [(0, .ref 67), (1, .int x1), (2, .int x2), (3, .int x3)]) (st2 := [.int ((m.I 99 (Int32.toNatClampNeg x1)) + 1), .int x1, .ref 100]) (h2 := (sh_rep m.T (sh_u2 (sh_u2 m.I 100 (Int32.toNatClampNeg ((256 * x1) + (m.I 99 (Int32.toNatClampNeg x1)))) x2) 101 (Int32.toNatClampNeg ((256 * x1) + (m.I 99 (Int32.toNatClampNeg x1)))) x3) m.J)) rfl rfl rfl ?_
    exact kk
  obtain ⟨c, e⟩ := sh_gd e
  refine sh_Lk_lift (T := m.T) (I := sh_u2 (sh_u2 m.I 100 (Int32.toNatClampNeg ((256 * x1) + (m.I 99 (Int32.toNatClampNeg x1)))) x2) 101 (Int32.toNatClampNeg ((256 * x1) + (m.I 99 (Int32.toNatClampNeg x1)))) x3) (J := m.J) (s := m.s) (pc2 := 52) (lv2 := [(0, .ref 67), (1, .int x1), (2, .int x2), (3, .int x3)]) (st2 := [.int x1, .ref 103, .int x1, .ref 103]) (I2 := sh_u2 (sh_u2 (sh_u2 m.I 100 (Int32.toNatClampNeg ((256 * x1) + (m.I 99 (Int32.toNatClampNeg x1)))) x2) 101 (Int32.toNatClampNeg ((256 * x1) + (m.I 99 (Int32.toNatClampNeg x1)))) x3) 99 (Int32.toNatClampNeg x1) ((m.I 99 (Int32.toNatClampNeg x1)) + 1)) (J2 := m.J) (fun hT v kk => ?_) ?_
  · refine sh_is1 (x := (m.I 99 (Int32.toNatClampNeg x1)) + 1) (i := x1) (pc2 := 46) rfl (sh_s99 hT.st) (sh_okb1 c) (sh_okb2 c) rfl ?_
    refine sh_w (i := (.aload_n 0)) (len := 1) (pc2 := 47) (lv2 := [(0, .ref 67), (1, .int x1), (2, .int x2), (3, .int x3)]) (st2 := [.ref 67]) (h2 := (sh_rep m.T (sh_u2 (sh_u2 (sh_u2 m.I 100 (Int32.toNatClampNeg ((256 * x1) + (m.I 99 (Int32.toNatClampNeg x1)))) x2) 101 (Int32.toNatClampNeg ((256 * x1) + (m.I 99 (Int32.toNatClampNeg x1)))) x3) 99 (Int32.toNatClampNeg x1) ((m.I 99 (Int32.toNatClampNeg x1)) + 1)) m.J)) rfl rfl rfl ?_
    refine sh_gR1 (len := 3) (x := .ref 103) (pc2 := 50) rfl rfl (sh_s66 hT.st) rfl rfl ?_
    refine sh_w (i := (.iload_n 1)) (len := 1) (pc2 := 51) (lv2 := [(0, .ref 67), (1, .int x1), (2, .int x2), (3, .int x3)]) (st2 := [.int x1, .ref 103]) (h2 := (sh_rep m.T (sh_u2 (sh_u2 (sh_u2 m.I 100 (Int32.toNatClampNeg ((256 * x1) + (m.I 99 (Int32.toNatClampNeg x1)))) x2) 101 (Int32.toNatClampNeg ((256 * x1) + (m.I 99 (Int32.toNatClampNeg x1)))) x3) 99 (Int32.toNatClampNeg x1) ((m.I 99 (Int32.toNatClampNeg x1)) + 1)) m.J)) rfl rfl rfl ?_
    refine sh_w (i := .dup2) (len := 1) (pc2 := 52) (lv2 := [(0, .ref 67), (1, .int x1), (2, .int x2), (3, .int x3)]) (st2 := [.int x1, .ref 103, .int x1, .ref 103]) (h2 := (sh_rep m.T (sh_u2 (sh_u2 (sh_u2 m.I 100 (Int32.toNatClampNeg ((256 * x1) + (m.I 99 (Int32.toNatClampNeg x1)))) x2) 101 (Int32.toNatClampNeg ((256 * x1) + (m.I 99 (Int32.toNatClampNeg x1)))) x3) 99 (Int32.toNatClampNeg x1) ((m.I 99 (Int32.toNatClampNeg x1)) + 1)) m.J)) rfl rfl rfl ?_
    exact kk
  obtain ⟨c, e⟩ := sh_gd e
  refine sh_Lk_lift (T := m.T) (I := sh_u2 (sh_u2 (sh_u2 m.I 100 (Int32.toNatClampNeg ((256 * x1) + (m.I 99 (Int32.toNatClampNeg x1)))) x2) 101 (Int32.toNatClampNeg ((256 * x1) + (m.I 99 (Int32.toNatClampNeg x1)))) x3) 99 (Int32.toNatClampNeg x1) ((m.I 99 (Int32.toNatClampNeg x1)) + 1)) (J := m.J) (s := m.s) (pc2 := 55) (lv2 := [(0, .ref 67), (1, .int x1), (2, .int x2), (3, .int x3)]) (st2 := [.int ((m.I 102 (Int32.toNatClampNeg x1)) + x3), .int x1, .ref 103]) (I2 := sh_u2 (sh_u2 (sh_u2 m.I 100 (Int32.toNatClampNeg ((256 * x1) + (m.I 99 (Int32.toNatClampNeg x1)))) x2) 101 (Int32.toNatClampNeg ((256 * x1) + (m.I 99 (Int32.toNatClampNeg x1)))) x3) 99 (Int32.toNatClampNeg x1) ((m.I 99 (Int32.toNatClampNeg x1)) + 1)) (J2 := m.J) (fun hT v kk => ?_) ?_
  · refine sh_ia1 (x := m.I 102 (Int32.toNatClampNeg x1)) (pc2 := 53) rfl (sh_s102 hT.st) (sh_okb1 c) (sh_okb2 c) rfl rfl ?_
    refine sh_w (i := (.iload_n 3)) (len := 1) (pc2 := 54) (lv2 := [(0, .ref 67), (1, .int x1), (2, .int x2), (3, .int x3)]) (st2 := [.int x3, .int (m.I 102 (Int32.toNatClampNeg x1)), .int x1, .ref 103]) (h2 := (sh_rep m.T (sh_u2 (sh_u2 (sh_u2 m.I 100 (Int32.toNatClampNeg ((256 * x1) + (m.I 99 (Int32.toNatClampNeg x1)))) x2) 101 (Int32.toNatClampNeg ((256 * x1) + (m.I 99 (Int32.toNatClampNeg x1)))) x3) 99 (Int32.toNatClampNeg x1) ((m.I 99 (Int32.toNatClampNeg x1)) + 1)) m.J)) rfl rfl rfl ?_
    refine sh_w (i := .iadd) (len := 1) (pc2 := 55) (lv2 := [(0, .ref 67), (1, .int x1), (2, .int x2), (3, .int x3)]) (st2 := [.int ((m.I 102 (Int32.toNatClampNeg x1)) + x3), .int x1, .ref 103]) (h2 := (sh_rep m.T (sh_u2 (sh_u2 (sh_u2 m.I 100 (Int32.toNatClampNeg ((256 * x1) + (m.I 99 (Int32.toNatClampNeg x1)))) x2) 101 (Int32.toNatClampNeg ((256 * x1) + (m.I 99 (Int32.toNatClampNeg x1)))) x3) 99 (Int32.toNatClampNeg x1) ((m.I 99 (Int32.toNatClampNeg x1)) + 1)) m.J)) rfl rfl rfl ?_
    exact kk
  obtain ⟨c, e⟩ := sh_gd e
  refine sh_Lk_lift (T := m.T) (I := sh_u2 (sh_u2 (sh_u2 m.I 100 (Int32.toNatClampNeg ((256 * x1) + (m.I 99 (Int32.toNatClampNeg x1)))) x2) 101 (Int32.toNatClampNeg ((256 * x1) + (m.I 99 (Int32.toNatClampNeg x1)))) x3) 99 (Int32.toNatClampNeg x1) ((m.I 99 (Int32.toNatClampNeg x1)) + 1)) (J := m.J) (s := m.s) (pc2 := 56) (lv2 := [(0, .ref 67), (1, .int x1), (2, .int x2), (3, .int x3)]) (st2 := []) (I2 := sh_u2 (sh_u2 (sh_u2 (sh_u2 m.I 100 (Int32.toNatClampNeg ((256 * x1) + (m.I 99 (Int32.toNatClampNeg x1)))) x2) 101 (Int32.toNatClampNeg ((256 * x1) + (m.I 99 (Int32.toNatClampNeg x1)))) x3) 99 (Int32.toNatClampNeg x1) ((m.I 99 (Int32.toNatClampNeg x1)) + 1)) 102 (Int32.toNatClampNeg x1) ((m.I 102 (Int32.toNatClampNeg x1)) + x3)) (J2 := m.J) (fun hT v kk => ?_) ?_
  · refine sh_is1 (x := (m.I 102 (Int32.toNatClampNeg x1)) + x3) (i := x1) (pc2 := 56) rfl (sh_s102 hT.st) (sh_okb1 c) (sh_okb2 c) rfl ?_
    exact kk
  obtain rfl := Option.some.inj e
  obtain ⟨rfl, rfl⟩ := tg
  exact sh_Lk_ret (i := .return_) rfl rfl rfl (Nat.le_of_ble_eq_true rfl) (Nat.le_of_ble_eq_true rfl)
theorem sl_283_169 {x2 : Int32} {x4 : Int32} {x5 : Int32} {x6 : Int32} {y1 : Int32} {y2 : Int32} {m m2 : sh_X} {o : Outcome} {z : ((Int32 × sh_X) ⊕ (Bool × sh_X))} (e : sf_283_169 x2 x4 x5 x6 y1 y2 m = some z) (tg : (sh_el (fun q => sh_Lk 283 132 [(0, .ref 67), (2, .int x2), (4, .int x4), (5, .int x5), (6, .int q.1)] [] q.2 o m2 10 245) (sh_tZ o m2)) z) : sh_Lk 283 169 [(0, .ref 67), (2, .int x2), (4, .int x4), (5, .int x5), (6, .int x6)] [.int y2, .int y1, .ref 93] m o m2 10 245 := by
  unfold sf_283_169 at e
  refine sh_Lk_lift (T := m.T) (I := m.I) (J := m.J) (s := m.s) (pc2 := 189) (lv2 := [(0, .ref 67), (2, .int x2), (4, .int x4), (5, .int x5), (6, .int x6)]) (st2 := [.int x4, .ref 100, .int (256 * x4), .ref 104, .int (m.I 66 44), .int y2, .int y1, .ref 93]) (I2 := m.I) (J2 := m.J) (fun hT v kk => ?_) ?_
  · refine sh_w (i := (.aload_n 0)) (len := 1) (pc2 := 170) (lv2 := [(0, .ref 67), (2, .int x2), (4, .int x4), (5, .int x5), (6, .int x6)]) (st2 := [.ref 67, .int y2, .int y1, .ref 93]) (h2 := (sh_rep m.T m.I m.J)) rfl rfl rfl ?_
    refine sh_gI1 (len := 3) (x := m.I 66 44) (pc2 := 173) rfl rfl (sh_s66 hT.st) rfl rfl rfl ?_
    refine sh_w (i := (.aload_n 0)) (len := 1) (pc2 := 174) (lv2 := [(0, .ref 67), (2, .int x2), (4, .int x4), (5, .int x5), (6, .int x6)]) (st2 := [.ref 67, .int (m.I 66 44), .int y2, .int y1, .ref 93]) (h2 := (sh_rep m.T m.I m.J)) rfl rfl rfl ?_
    refine sh_gR1 (len := 3) (x := .ref 104) (pc2 := 177) rfl rfl (sh_s66 hT.st) rfl rfl ?_
    refine sh_w (i := (.sipush 256)) (len := 3) (pc2 := 180) (lv2 := [(0, .ref 67), (2, .int x2), (4, .int x4), (5, .int x5), (6, .int x6)]) (st2 := [.int 256, .ref 104, .int (m.I 66 44), .int y2, .int y1, .ref 93]) (h2 := (sh_rep m.T m.I m.J)) rfl rfl rfl ?_
    refine sh_w (i := (.iload 4)) (len := 2) (pc2 := 182) (lv2 := [(0, .ref 67), (2, .int x2), (4, .int x4), (5, .int x5), (6, .int x6)]) (st2 := [.int x4, .int 256, .ref 104, .int (m.I 66 44), .int y2, .int y1, .ref 93]) (h2 := (sh_rep m.T m.I m.J)) rfl rfl rfl ?_
    refine sh_w (i := .imul) (len := 1) (pc2 := 183) (lv2 := [(0, .ref 67), (2, .int x2), (4, .int x4), (5, .int x5), (6, .int x6)]) (st2 := [.int (256 * x4), .ref 104, .int (m.I 66 44), .int y2, .int y1, .ref 93]) (h2 := (sh_rep m.T m.I m.J)) rfl rfl rfl ?_
    refine sh_w (i := (.aload_n 0)) (len := 1) (pc2 := 184) (lv2 := [(0, .ref 67), (2, .int x2), (4, .int x4), (5, .int x5), (6, .int x6)]) (st2 := [.ref 67, .int (256 * x4), .ref 104, .int (m.I 66 44), .int y2, .int y1, .ref 93]) (h2 := (sh_rep m.T m.I m.J)) rfl rfl rfl ?_
    refine sh_gR1 (len := 3) (x := .ref 100) (pc2 := 187) rfl rfl (sh_s66 hT.st) rfl rfl ?_
    refine sh_w (i := (.iload 4)) (len := 2) (pc2 := 189) (lv2 := [(0, .ref 67), (2, .int x2), (4, .int x4), (5, .int x5), (6, .int x6)]) (st2 := [.int x4, .ref 100, .int (256 * x4), .ref 104, .int (m.I 66 44), .int y2, .int y1, .ref 93]) (h2 := (sh_rep m.T m.I m.J)) rfl rfl rfl ?_
    exact kk
  obtain ⟨c, e⟩ := sh_gd e
  refine sh_Lk_lift (T := m.T) (I := m.I) (J := m.J) (s := m.s) (pc2 := 191) (lv2 := [(0, .ref 67), (2, .int x2), (4, .int x4), (5, .int x5), (6, .int x6)]) (st2 := [.int ((256 * x4) + (m.I 99 (Int32.toNatClampNeg x4))), .ref 104, .int (m.I 66 44), .int y2, .int y1, .ref 93]) (I2 := m.I) (J2 := m.J) (fun hT v kk => ?_) ?_
  · refine sh_ia1 (x := m.I 99 (Int32.toNatClampNeg x4)) (pc2 := 190) rfl (sh_s99 hT.st) (sh_okb1 c) (sh_okb2 c) rfl rfl ?_
    refine sh_w (i := .iadd) (len := 1) (pc2 := 191) (lv2 := [(0, .ref 67), (2, .int x2), (4, .int x4), (5, .int x5), (6, .int x6)]) (st2 := [.int ((256 * x4) + (m.I 99 (Int32.toNatClampNeg x4))), .ref 104, .int (m.I 66 44), .int y2, .int y1, .ref 93]) (h2 := (sh_rep m.T m.I m.J)) rfl rfl rfl ?_
    exact kk
  obtain ⟨c, e⟩ := sh_gd e
  refine sh_Lk_lift (T := m.T) (I := m.I) (J := m.J) (s := m.s) (pc2 := 192) (lv2 := [(0, .ref 67), (2, .int x2), (4, .int x4), (5, .int x5), (6, .int x6)]) (st2 := [.long (m.J 103 (Int32.toNatClampNeg ((256 * x4) + (m.I 99 (Int32.toNatClampNeg x4))))), .int (m.I 66 44), .int y2, .int y1, .ref 93]) (I2 := m.I) (J2 := m.J) (fun hT v kk => ?_) ?_
  · refine sh_la1 (x := m.J 103 (Int32.toNatClampNeg ((256 * x4) + (m.I 99 (Int32.toNatClampNeg x4))))) (pc2 := 192) rfl (sh_s103 hT.st) (sh_okb1 c) (sh_okb2 c) rfl rfl ?_
    exact kk
  refine sh_Lk_cS (r := (some (.long (sf_288 y2 (m.I 66 44) (m.J 103 (Int32.toNatClampNeg ((256 * x4) + (m.I 99 (Int32.toNatClampNeg x4))))))))) (st2 := [.long (sf_288 y2 (m.I 66 44) (m.J 103 (Int32.toNatClampNeg ((256 * x4) + (m.I 99 (Int32.toNatClampNeg x4)))))), .int y1, .ref 93]) (pc2 := 195) (k2 := 288) (as := [.int y2, .int (m.I 66 44), .long (m.J 103 (Int32.toNatClampNeg ((256 * x4) + (m.I 99 (Int32.toNatClampNeg x4)))))]) (rest := [.int y1, .ref 93]) rfl rfl (by decide) (Nat.le_of_ble_eq_true rfl) rfl rfl ⟨Nat.le_of_ble_eq_true rfl, Nat.le_of_ble_eq_true rfl⟩ (sl_288 (m := m) rfl ⟨rfl, rfl⟩) rfl rfl (Nat.le_of_ble_eq_true rfl) (Nat.le_of_ble_eq_true rfl) ?_
  obtain ⟨c, e⟩ := sh_gd e
  refine sh_Lk_lift (T := m.T) (I := m.I) (J := m.J) (s := m.s) (pc2 := 217) (lv2 := [(0, .ref 67), (2, .int x2), (4, .int x4), (5, .int x5), (6, .int x6)]) (st2 := [.int (m.I 66 44), .int (m.I 66 43), .int x4, .ref 67]) (I2 := sh_u2 m.I 66 41 ((m.I 66 41) + 1)) (J2 := sh_u2 m.J 92 (Int32.toNatClampNeg y1) (sf_288 y2 (m.I 66 44) (m.J 103 (Int32.toNatClampNeg ((256 * x4) + (m.I 99 (Int32.toNatClampNeg x4))))))) (fun hT v kk => ?_) ?_
  · refine sh_ls1 (x := sf_288 y2 (m.I 66 44) (m.J 103 (Int32.toNatClampNeg ((256 * x4) + (m.I 99 (Int32.toNatClampNeg x4)))))) (i := y1) (pc2 := 196) rfl (sh_s92 hT.st) (sh_okb1 c) (sh_okb2 c) rfl ?_
    refine sh_w (i := (.aload_n 0)) (len := 1) (pc2 := 197) (lv2 := [(0, .ref 67), (2, .int x2), (4, .int x4), (5, .int x5), (6, .int x6)]) (st2 := [.ref 67]) (h2 := (sh_rep m.T m.I (sh_u2 m.J 92 (Int32.toNatClampNeg y1) (sf_288 y2 (m.I 66 44) (m.J 103 (Int32.toNatClampNeg ((256 * x4) + (m.I 99 (Int32.toNatClampNeg x4))))))))) rfl rfl rfl ?_
    refine sh_w (i := .dup) (len := 1) (pc2 := 198) (lv2 := [(0, .ref 67), (2, .int x2), (4, .int x4), (5, .int x5), (6, .int x6)]) (st2 := [.ref 67, .ref 67]) (h2 := (sh_rep m.T m.I (sh_u2 m.J 92 (Int32.toNatClampNeg y1) (sf_288 y2 (m.I 66 44) (m.J 103 (Int32.toNatClampNeg ((256 * x4) + (m.I 99 (Int32.toNatClampNeg x4))))))))) rfl rfl rfl ?_
    refine sh_gI1 (len := 3) (x := m.I 66 41) (pc2 := 201) rfl rfl (sh_s66 hT.st) rfl rfl rfl ?_
    refine sh_w (i := (.iconst 1)) (len := 1) (pc2 := 202) (lv2 := [(0, .ref 67), (2, .int x2), (4, .int x4), (5, .int x5), (6, .int x6)]) (st2 := [.int 1, .int (m.I 66 41), .ref 67]) (h2 := (sh_rep m.T m.I (sh_u2 m.J 92 (Int32.toNatClampNeg y1) (sf_288 y2 (m.I 66 44) (m.J 103 (Int32.toNatClampNeg ((256 * x4) + (m.I 99 (Int32.toNatClampNeg x4))))))))) rfl rfl rfl ?_
    refine sh_w (i := .iadd) (len := 1) (pc2 := 203) (lv2 := [(0, .ref 67), (2, .int x2), (4, .int x4), (5, .int x5), (6, .int x6)]) (st2 := [.int ((m.I 66 41) + 1), .ref 67]) (h2 := (sh_rep m.T m.I (sh_u2 m.J 92 (Int32.toNatClampNeg y1) (sf_288 y2 (m.I 66 44) (m.J 103 (Int32.toNatClampNeg ((256 * x4) + (m.I 99 (Int32.toNatClampNeg x4))))))))) rfl rfl rfl ?_
    refine sh_pI1 (x := (m.I 66 41) + 1) (pc2 := 206) rfl rfl (sh_s66 hT.st) rfl rfl rfl rfl ?_
    refine sh_w (i := (.aload_n 0)) (len := 1) (pc2 := 207) (lv2 := [(0, .ref 67), (2, .int x2), (4, .int x4), (5, .int x5), (6, .int x6)]) (st2 := [.ref 67]) (h2 := (sh_rep m.T (sh_u2 m.I 66 41 ((m.I 66 41) + 1)) (sh_u2 m.J 92 (Int32.toNatClampNeg y1) (sf_288 y2 (m.I 66 44) (m.J 103 (Int32.toNatClampNeg ((256 * x4) + (m.I 99 (Int32.toNatClampNeg x4))))))))) rfl rfl rfl ?_
    refine sh_w (i := (.iload 4)) (len := 2) (pc2 := 209) (lv2 := [(0, .ref 67), (2, .int x2), (4, .int x4), (5, .int x5), (6, .int x6)]) (st2 := [.int x4, .ref 67]) (h2 := (sh_rep m.T (sh_u2 m.I 66 41 ((m.I 66 41) + 1)) (sh_u2 m.J 92 (Int32.toNatClampNeg y1) (sf_288 y2 (m.I 66 44) (m.J 103 (Int32.toNatClampNeg ((256 * x4) + (m.I 99 (Int32.toNatClampNeg x4))))))))) rfl rfl rfl ?_
    refine sh_w (i := (.aload_n 0)) (len := 1) (pc2 := 210) (lv2 := [(0, .ref 67), (2, .int x2), (4, .int x4), (5, .int x5), (6, .int x6)]) (st2 := [.ref 67, .int x4, .ref 67]) (h2 := (sh_rep m.T (sh_u2 m.I 66 41 ((m.I 66 41) + 1)) (sh_u2 m.J 92 (Int32.toNatClampNeg y1) (sf_288 y2 (m.I 66 44) (m.J 103 (Int32.toNatClampNeg ((256 * x4) + (m.I 99 (Int32.toNatClampNeg x4))))))))) rfl rfl rfl ?_
    refine sh_gI1 (len := 3) (x := m.I 66 43) (pc2 := 213) rfl rfl (sh_s66 hT.st) rfl rfl rfl ?_
    refine sh_w (i := (.aload_n 0)) (len := 1) (pc2 := 214) (lv2 := [(0, .ref 67), (2, .int x2), (4, .int x4), (5, .int x5), (6, .int x6)]) (st2 := [.ref 67, .int (m.I 66 43), .int x4, .ref 67]) (h2 := (sh_rep m.T (sh_u2 m.I 66 41 ((m.I 66 41) + 1)) (sh_u2 m.J 92 (Int32.toNatClampNeg y1) (sf_288 y2 (m.I 66 44) (m.J 103 (Int32.toNatClampNeg ((256 * x4) + (m.I 99 (Int32.toNatClampNeg x4))))))))) rfl rfl rfl ?_
    refine sh_gI1 (len := 3) (x := m.I 66 44) (pc2 := 217) rfl rfl (sh_s66 hT.st) rfl rfl rfl ?_
    exact kk
  obtain ⟨r2, m12, e2, e⟩ := sh_bn_e e
  refine sh_Lk_cV (r := none) (st2 := []) (pc2 := 220) (k2 := 289) (a := 66) (as := [.ref 67, .int x4, .int (m.I 66 43), .int (m.I 66 44)]) (rest := []) rfl rfl rfl (fun hT => (sh_s66 hT.st)) rfl rfl ⟨Nat.le_of_ble_eq_true rfl, Nat.le_of_ble_eq_true rfl⟩ (sl_289 e2 ⟨rfl, rfl⟩) rfl rfl (Nat.le_of_ble_eq_true rfl) (Nat.le_of_ble_eq_true rfl) ?_
  refine sh_Lk_lift (T := m12.T) (I := m12.I) (J := m12.J) (s := m12.s) (pc2 := 132) (lv2 := [(6, .int (x6 + 1)), (0, .ref 67), (2, .int x2), (4, .int x4), (5, .int x5)]) (st2 := []) (I2 := m12.I) (J2 := m12.J) (fun hT v kk => ?_) ?_
  · refine sh_w (i := (.iinc 6 1)) (len := 3) (pc2 := 223) (lv2 := [(6, .int (x6 + 1)), (0, .ref 67), (2, .int x2), (4, .int x4), (5, .int x5)]) (st2 := []) (h2 := (sh_rep m12.T m12.I m12.J)) rfl rfl rfl ?_
    refine sh_w (i := (.goto (-91))) (len := 3) (pc2 := 132) (lv2 := [(6, .int (x6 + 1)), (0, .ref 67), (2, .int x2), (4, .int x4), (5, .int x5)]) (st2 := []) (h2 := (sh_rep m12.T m12.I m12.J)) rfl rfl rfl ?_
    exact kk
  obtain rfl := Option.some.inj e
  exact sh_Lk_sub (sh_sub_c rfl (sh_sub_c rfl (sh_sub_c rfl (sh_sub_c rfl (sh_sub_c rfl (sh_sub_n)))))) tg
theorem sl_283_146 {x2 : Int32} {x4 : Int32} {x5 : Int32} {x6 : Int32} {m m2 : sh_X} {o : Outcome} {z : ((Int32 × sh_X) ⊕ (Bool × sh_X))} (e : sf_283_146 x2 x4 x5 x6 m = some z) (tg : (sh_el (fun q => sh_Lk 283 132 [(0, .ref 67), (2, .int x2), (4, .int x4), (5, .int x5), (6, .int q.1)] [] q.2 o m2 10 245) (sh_tZ o m2)) z) : sh_Lk 283 146 [(0, .ref 67), (2, .int x2), (4, .int x4), (5, .int x5), (6, .int x6)] [] m o m2 10 245 := by
  unfold sf_283_146 at e
  refine sh_Lk_lift (T := m.T) (I := m.I) (J := m.J) (s := m.s) (pc2 := 158) (lv2 := [(0, .ref 67), (2, .int x2), (4, .int x4), (5, .int x5), (6, .int x6)]) (st2 := [.int (m.I 66 43), .int (m.I 66 41), .ref 93]) (I2 := m.I) (J2 := m.J) (fun hT v kk => ?_) ?_
  · refine sh_w (i := (.aload_n 0)) (len := 1) (pc2 := 147) (lv2 := [(0, .ref 67), (2, .int x2), (4, .int x4), (5, .int x5), (6, .int x6)]) (st2 := [.ref 67]) (h2 := (sh_rep m.T m.I m.J)) rfl rfl rfl ?_
    refine sh_gR1 (len := 3) (x := .ref 93) (pc2 := 150) rfl rfl (sh_s66 hT.st) rfl rfl ?_
    refine sh_w (i := (.aload_n 0)) (len := 1) (pc2 := 151) (lv2 := [(0, .ref 67), (2, .int x2), (4, .int x4), (5, .int x5), (6, .int x6)]) (st2 := [.ref 67, .ref 93]) (h2 := (sh_rep m.T m.I m.J)) rfl rfl rfl ?_
    refine sh_gI1 (len := 3) (x := m.I 66 41) (pc2 := 154) rfl rfl (sh_s66 hT.st) rfl rfl rfl ?_
    refine sh_w (i := (.aload_n 0)) (len := 1) (pc2 := 155) (lv2 := [(0, .ref 67), (2, .int x2), (4, .int x4), (5, .int x5), (6, .int x6)]) (st2 := [.ref 67, .int (m.I 66 41), .ref 93]) (h2 := (sh_rep m.T m.I m.J)) rfl rfl rfl ?_
    refine sh_gI1 (len := 3) (x := m.I 66 43) (pc2 := 158) rfl rfl (sh_s66 hT.st) rfl rfl rfl ?_
    exact kk
  rcases sh_ite e with ⟨c, e⟩ | ⟨c, e⟩
  · refine sh_Lk_lift (T := m.T) (I := m.I) (J := m.J) (s := m.s) (pc2 := 169) (lv2 := [(0, .ref 67), (2, .int x2), (4, .int x4), (5, .int x5), (6, .int x6)]) (st2 := [.int 1, .int (m.I 66 41), .ref 93]) (I2 := m.I) (J2 := m.J) (fun hT v kk => ?_) ?_
    · refine sh_j0 (c := .ne) (off := (7)) (pc2 := 161) false rfl (sh_Bnef c) rfl ?_
      refine sh_w (i := (.iconst 1)) (len := 1) (pc2 := 162) (lv2 := [(0, .ref 67), (2, .int x2), (4, .int x4), (5, .int x5), (6, .int x6)]) (st2 := [.int 1, .int (m.I 66 41), .ref 93]) (h2 := (sh_rep m.T m.I m.J)) rfl rfl rfl ?_
      refine sh_w (i := (.goto 7)) (len := 3) (pc2 := 169) (lv2 := [(0, .ref 67), (2, .int x2), (4, .int x4), (5, .int x5), (6, .int x6)]) (st2 := [.int 1, .int (m.I 66 41), .ref 93]) (h2 := (sh_rep m.T m.I m.J)) rfl rfl rfl ?_
      exact kk
    exact sh_Lk_sub (sh_sub_c rfl (sh_sub_c rfl (sh_sub_c rfl (sh_sub_c rfl (sh_sub_c rfl (sh_sub_n)))))) (sl_283_169 e tg)
  · refine sh_Lk_lift (T := m.T) (I := m.I) (J := m.J) (s := m.s) (pc2 := 169) (lv2 := [(0, .ref 67), (2, .int x2), (4, .int x4), (5, .int x5), (6, .int x6)]) (st2 := [.int (m.I 66 43), .int (m.I 66 41), .ref 93]) (I2 := m.I) (J2 := m.J) (fun hT v kk => ?_) ?_
    · refine sh_j0 (c := .ne) (off := (7)) (pc2 := 165) true rfl (sh_Bnet c) rfl ?_
      refine sh_w (i := (.aload_n 0)) (len := 1) (pc2 := 166) (lv2 := [(0, .ref 67), (2, .int x2), (4, .int x4), (5, .int x5), (6, .int x6)]) (st2 := [.ref 67, .int (m.I 66 41), .ref 93]) (h2 := (sh_rep m.T m.I m.J)) rfl rfl rfl ?_
      refine sh_gI1 (len := 3) (x := m.I 66 43) (pc2 := 169) rfl rfl (sh_s66 hT.st) rfl rfl rfl ?_
      exact kk
    exact sh_Lk_sub (sh_sub_c rfl (sh_sub_c rfl (sh_sub_c rfl (sh_sub_c rfl (sh_sub_c rfl (sh_sub_n)))))) (sl_283_169 e tg)
theorem sl_283_132s {x2 : Int32} {x4 : Int32} {x5 : Int32} {x6 : Int32} {m m2 : sh_X} {o : Outcome} {z : ((Int32 × sh_X) ⊕ (Bool × sh_X))} (e : sf_283_132s x2 x4 x5 x6 m = some z) (tg : (sh_el (fun q => sh_Lk 283 132 [(0, .ref 67), (2, .int x2), (4, .int x4), (5, .int x5), (6, .int q.1)] [] q.2 o m2 10 245) (sh_tZ o m2)) z) : sh_Lk 283 132 [(0, .ref 67), (2, .int x2), (4, .int x4), (5, .int x5), (6, .int x6)] [] m o m2 10 245 := by
  unfold sf_283_132s at e
  refine sh_Lk_lift (T := m.T) (I := m.I) (J := m.J) (s := m.s) (pc2 := 134) (lv2 := [(0, .ref 67), (2, .int x2), (4, .int x4), (5, .int x5), (6, .int x6)]) (st2 := [.int x6]) (I2 := m.I) (J2 := m.J) (fun hT v kk => ?_) ?_
  · refine sh_w (i := (.iload 6)) (len := 2) (pc2 := 134) (lv2 := [(0, .ref 67), (2, .int x2), (4, .int x4), (5, .int x5), (6, .int x6)]) (st2 := [.int x6]) (h2 := (sh_rep m.T m.I m.J)) rfl rfl rfl ?_
    exact kk
  rcases sh_ite e with ⟨c, e⟩ | ⟨c, e⟩
  · refine sh_Lk_lift (T := m.T) (I := m.I) (J := m.J) (s := m.s) (pc2 := 146) (lv2 := [(0, .ref 67), (2, .int x2), (4, .int x4), (5, .int x5), (6, .int x6)]) (st2 := []) (I2 := m.I) (J2 := m.J) (fun hT v kk => ?_) ?_
    · refine sh_j0 (c := .eq) (off := (12)) (pc2 := 146) true rfl (sh_Beqt c) rfl ?_
      exact kk
    exact sh_Lk_sub (sh_sub_c rfl (sh_sub_c rfl (sh_sub_c rfl (sh_sub_c rfl (sh_sub_c rfl (sh_sub_n)))))) (sl_283_146 e tg)
  · refine sh_Lk_lift (T := m.T) (I := m.I) (J := m.J) (s := m.s) (pc2 := 143) (lv2 := [(0, .ref 67), (2, .int x2), (4, .int x4), (5, .int x5), (6, .int x6)]) (st2 := [.int (m.I 66 45), .int x6]) (I2 := m.I) (J2 := m.J) (fun hT v kk => ?_) ?_
    · refine sh_j0 (c := .eq) (off := (12)) (pc2 := 137) false rfl (sh_Beqf c) rfl ?_
      refine sh_w (i := (.iload 6)) (len := 2) (pc2 := 139) (lv2 := [(0, .ref 67), (2, .int x2), (4, .int x4), (5, .int x5), (6, .int x6)]) (st2 := [.int x6]) (h2 := (sh_rep m.T m.I m.J)) rfl rfl rfl ?_
      refine sh_w (i := (.aload_n 0)) (len := 1) (pc2 := 140) (lv2 := [(0, .ref 67), (2, .int x2), (4, .int x4), (5, .int x5), (6, .int x6)]) (st2 := [.ref 67, .int x6]) (h2 := (sh_rep m.T m.I m.J)) rfl rfl rfl ?_
      refine sh_gI1 (len := 3) (x := m.I 66 45) (pc2 := 143) rfl rfl (sh_s66 hT.st) rfl rfl rfl ?_
      exact kk
    rcases sh_ite e with ⟨c, e⟩ | ⟨c, e⟩
    · refine sh_Lk_lift (T := m.T) (I := m.I) (J := m.J) (s := m.s) (pc2 := 146) (lv2 := [(0, .ref 67), (2, .int x2), (4, .int x4), (5, .int x5), (6, .int x6)]) (st2 := []) (I2 := m.I) (J2 := m.J) (fun hT v kk => ?_) ?_
      · refine sh_jc (c := .ge) (off := (83)) (pc2 := 146) false rfl (sh_Bgef c) rfl ?_
        exact kk
      exact sh_Lk_sub (sh_sub_c rfl (sh_sub_c rfl (sh_sub_c rfl (sh_sub_c rfl (sh_sub_c rfl (sh_sub_n)))))) (sl_283_146 e tg)
    · refine sh_Lk_lift (T := m.T) (I := m.I) (J := m.J) (s := m.s) (pc2 := 235) (lv2 := [(0, .ref 67), (2, .int x2), (4, .int x4), (5, .int x5), (6, .int x6)]) (st2 := [.int x2, .int (m.I 66 53), .ref 94]) (I2 := m.I) (J2 := m.J) (fun hT v kk => ?_) ?_
      · refine sh_jc (c := .ge) (off := (83)) (pc2 := 226) true rfl (sh_Bget c) rfl ?_
        refine sh_w (i := (.aload_n 0)) (len := 1) (pc2 := 227) (lv2 := [(0, .ref 67), (2, .int x2), (4, .int x4), (5, .int x5), (6, .int x6)]) (st2 := [.ref 67]) (h2 := (sh_rep m.T m.I m.J)) rfl rfl rfl ?_
        refine sh_gR1 (len := 3) (x := .ref 94) (pc2 := 230) rfl rfl (sh_s66 hT.st) rfl rfl ?_
        refine sh_w (i := (.aload_n 0)) (len := 1) (pc2 := 231) (lv2 := [(0, .ref 67), (2, .int x2), (4, .int x4), (5, .int x5), (6, .int x6)]) (st2 := [.ref 67, .ref 94]) (h2 := (sh_rep m.T m.I m.J)) rfl rfl rfl ?_
        refine sh_gI1 (len := 3) (x := m.I 66 53) (pc2 := 234) rfl rfl (sh_s66 hT.st) rfl rfl rfl ?_
        refine sh_w (i := (.iload_n 2)) (len := 1) (pc2 := 235) (lv2 := [(0, .ref 67), (2, .int x2), (4, .int x4), (5, .int x5), (6, .int x6)]) (st2 := [.int x2, .int (m.I 66 53), .ref 94]) (h2 := (sh_rep m.T m.I m.J)) rfl rfl rfl ?_
        exact kk
      obtain ⟨c, e⟩ := sh_gd e
      refine sh_Lk_lift (T := m.T) (I := m.I) (J := m.J) (s := m.s) (pc2 := 248) (lv2 := [(0, .ref 67), (2, .int x2), (4, .int x4), (5, .int x5), (6, .int x6)]) (st2 := [.int (m.I 66 43), .int (m.I 66 53), .ref 95]) (I2 := sh_u2 m.I 93 (Int32.toNatClampNeg (m.I 66 53)) x2) (J2 := m.J) (fun hT v kk => ?_) ?_
      · refine sh_is1 (x := x2) (i := m.I 66 53) (pc2 := 236) rfl (sh_s93 hT.st) (sh_okb1 c) (sh_okb2 c) rfl ?_
        refine sh_w (i := (.aload_n 0)) (len := 1) (pc2 := 237) (lv2 := [(0, .ref 67), (2, .int x2), (4, .int x4), (5, .int x5), (6, .int x6)]) (st2 := [.ref 67]) (h2 := (sh_rep m.T (sh_u2 m.I 93 (Int32.toNatClampNeg (m.I 66 53)) x2) m.J)) rfl rfl rfl ?_
        refine sh_gR1 (len := 3) (x := .ref 95) (pc2 := 240) rfl rfl (sh_s66 hT.st) rfl rfl ?_
        refine sh_w (i := (.aload_n 0)) (len := 1) (pc2 := 241) (lv2 := [(0, .ref 67), (2, .int x2), (4, .int x4), (5, .int x5), (6, .int x6)]) (st2 := [.ref 67, .ref 95]) (h2 := (sh_rep m.T (sh_u2 m.I 93 (Int32.toNatClampNeg (m.I 66 53)) x2) m.J)) rfl rfl rfl ?_
        refine sh_gI1 (len := 3) (x := m.I 66 53) (pc2 := 244) rfl rfl (sh_s66 hT.st) rfl rfl rfl ?_
        refine sh_w (i := (.aload_n 0)) (len := 1) (pc2 := 245) (lv2 := [(0, .ref 67), (2, .int x2), (4, .int x4), (5, .int x5), (6, .int x6)]) (st2 := [.ref 67, .int (m.I 66 53), .ref 95]) (h2 := (sh_rep m.T (sh_u2 m.I 93 (Int32.toNatClampNeg (m.I 66 53)) x2) m.J)) rfl rfl rfl ?_
        refine sh_gI1 (len := 3) (x := m.I 66 43) (pc2 := 248) rfl rfl (sh_s66 hT.st) rfl rfl rfl ?_
        exact kk
      obtain ⟨c, e⟩ := sh_gd e
      refine sh_Lk_lift (T := m.T) (I := sh_u2 m.I 93 (Int32.toNatClampNeg (m.I 66 53)) x2) (J := m.J) (s := m.s) (pc2 := 261) (lv2 := [(0, .ref 67), (2, .int x2), (4, .int x4), (5, .int x5), (6, .int x6)]) (st2 := [.int (m.I 66 44), .int (m.I 66 53), .ref 96]) (I2 := sh_u2 (sh_u2 m.I 93 (Int32.toNatClampNeg (m.I 66 53)) x2) 94 (Int32.toNatClampNeg (m.I 66 53)) (m.I 66 43)) (J2 := m.J) (fun hT v kk => ?_) ?_
      · refine sh_is1 (x := m.I 66 43) (i := m.I 66 53) (pc2 := 249) rfl (sh_s94 hT.st) (sh_okb1 c) (sh_okb2 c) rfl ?_
        refine sh_w (i := (.aload_n 0)) (len := 1) (pc2 := 250) (lv2 := [(0, .ref 67), (2, .int x2), (4, .int x4), (5, .int x5), (6, .int x6)]) (st2 := [.ref 67]) (h2 := (sh_rep m.T (sh_u2 (sh_u2 m.I 93 (Int32.toNatClampNeg (m.I 66 53)) x2) 94 (Int32.toNatClampNeg (m.I 66 53)) (m.I 66 43)) m.J)) rfl rfl rfl ?_
        refine sh_gR1 (len := 3) (x := .ref 96) (pc2 := 253) rfl rfl (sh_s66 hT.st) rfl rfl ?_
        refine sh_w (i := (.aload_n 0)) (len := 1) (pc2 := 254) (lv2 := [(0, .ref 67), (2, .int x2), (4, .int x4), (5, .int x5), (6, .int x6)]) (st2 := [.ref 67, .ref 96]) (h2 := (sh_rep m.T (sh_u2 (sh_u2 m.I 93 (Int32.toNatClampNeg (m.I 66 53)) x2) 94 (Int32.toNatClampNeg (m.I 66 53)) (m.I 66 43)) m.J)) rfl rfl rfl ?_
        refine sh_gI1 (len := 3) (x := m.I 66 53) (pc2 := 257) rfl rfl (sh_s66 hT.st) rfl rfl rfl ?_
        refine sh_w (i := (.aload_n 0)) (len := 1) (pc2 := 258) (lv2 := [(0, .ref 67), (2, .int x2), (4, .int x4), (5, .int x5), (6, .int x6)]) (st2 := [.ref 67, .int (m.I 66 53), .ref 96]) (h2 := (sh_rep m.T (sh_u2 (sh_u2 m.I 93 (Int32.toNatClampNeg (m.I 66 53)) x2) 94 (Int32.toNatClampNeg (m.I 66 53)) (m.I 66 43)) m.J)) rfl rfl rfl ?_
        refine sh_gI1 (len := 3) (x := m.I 66 44) (pc2 := 261) rfl rfl (sh_s66 hT.st) rfl rfl rfl ?_
        exact kk
      obtain ⟨c, e⟩ := sh_gd e
      refine sh_Lk_lift (T := m.T) (I := sh_u2 (sh_u2 m.I 93 (Int32.toNatClampNeg (m.I 66 53)) x2) 94 (Int32.toNatClampNeg (m.I 66 53)) (m.I 66 43)) (J := m.J) (s := m.s) (pc2 := 274) (lv2 := [(0, .ref 67), (2, .int x2), (4, .int x4), (5, .int x5), (6, .int x6)]) (st2 := [.int (m.I 66 45), .int (m.I 66 53), .ref 97]) (I2 := sh_u2 (sh_u2 (sh_u2 m.I 93 (Int32.toNatClampNeg (m.I 66 53)) x2) 94 (Int32.toNatClampNeg (m.I 66 53)) (m.I 66 43)) 95 (Int32.toNatClampNeg (m.I 66 53)) (m.I 66 44)) (J2 := m.J) (fun hT v kk => ?_) ?_
      · refine sh_is1 (x := m.I 66 44) (i := m.I 66 53) (pc2 := 262) rfl (sh_s95 hT.st) (sh_okb1 c) (sh_okb2 c) rfl ?_
        refine sh_w (i := (.aload_n 0)) (len := 1) (pc2 := 263) (lv2 := [(0, .ref 67), (2, .int x2), (4, .int x4), (5, .int x5), (6, .int x6)]) (st2 := [.ref 67]) (h2 := (sh_rep m.T (sh_u2 (sh_u2 (sh_u2 m.I 93 (Int32.toNatClampNeg (m.I 66 53)) x2) 94 (Int32.toNatClampNeg (m.I 66 53)) (m.I 66 43)) 95 (Int32.toNatClampNeg (m.I 66 53)) (m.I 66 44)) m.J)) rfl rfl rfl ?_
        refine sh_gR1 (len := 3) (x := .ref 97) (pc2 := 266) rfl rfl (sh_s66 hT.st) rfl rfl ?_
        refine sh_w (i := (.aload_n 0)) (len := 1) (pc2 := 267) (lv2 := [(0, .ref 67), (2, .int x2), (4, .int x4), (5, .int x5), (6, .int x6)]) (st2 := [.ref 67, .ref 97]) (h2 := (sh_rep m.T (sh_u2 (sh_u2 (sh_u2 m.I 93 (Int32.toNatClampNeg (m.I 66 53)) x2) 94 (Int32.toNatClampNeg (m.I 66 53)) (m.I 66 43)) 95 (Int32.toNatClampNeg (m.I 66 53)) (m.I 66 44)) m.J)) rfl rfl rfl ?_
        refine sh_gI1 (len := 3) (x := m.I 66 53) (pc2 := 270) rfl rfl (sh_s66 hT.st) rfl rfl rfl ?_
        refine sh_w (i := (.aload_n 0)) (len := 1) (pc2 := 271) (lv2 := [(0, .ref 67), (2, .int x2), (4, .int x4), (5, .int x5), (6, .int x6)]) (st2 := [.ref 67, .int (m.I 66 53), .ref 97]) (h2 := (sh_rep m.T (sh_u2 (sh_u2 (sh_u2 m.I 93 (Int32.toNatClampNeg (m.I 66 53)) x2) 94 (Int32.toNatClampNeg (m.I 66 53)) (m.I 66 43)) 95 (Int32.toNatClampNeg (m.I 66 53)) (m.I 66 44)) m.J)) rfl rfl rfl ?_
        refine sh_gI1 (len := 3) (x := m.I 66 45) (pc2 := 274) rfl rfl (sh_s66 hT.st) rfl rfl rfl ?_
        exact kk
      obtain ⟨c, e⟩ := sh_gd e
      refine sh_Lk_lift (T := m.T) (I := sh_u2 (sh_u2 (sh_u2 m.I 93 (Int32.toNatClampNeg (m.I 66 53)) x2) 94 (Int32.toNatClampNeg (m.I 66 53)) (m.I 66 43)) 95 (Int32.toNatClampNeg (m.I 66 53)) (m.I 66 44)) (J := m.J) (s := m.s) (pc2 := 285) (lv2 := [(0, .ref 67), (2, .int x2), (4, .int x4), (5, .int x5), (6, .int x6)]) (st2 := [.int x5, .int (m.I 66 53), .ref 98]) (I2 := sh_u2 (sh_u2 (sh_u2 (sh_u2 m.I 93 (Int32.toNatClampNeg (m.I 66 53)) x2) 94 (Int32.toNatClampNeg (m.I 66 53)) (m.I 66 43)) 95 (Int32.toNatClampNeg (m.I 66 53)) (m.I 66 44)) 96 (Int32.toNatClampNeg (m.I 66 53)) (m.I 66 45)) (J2 := m.J) (fun hT v kk => ?_) ?_
      · refine sh_is1 (x := m.I 66 45) (i := m.I 66 53) (pc2 := 275) rfl (sh_s96 hT.st) (sh_okb1 c) (sh_okb2 c) rfl ?_
        refine sh_w (i := (.aload_n 0)) (len := 1) (pc2 := 276) (lv2 := [(0, .ref 67), (2, .int x2), (4, .int x4), (5, .int x5), (6, .int x6)]) (st2 := [.ref 67]) (h2 := (sh_rep m.T (sh_u2 (sh_u2 (sh_u2 (sh_u2 m.I 93 (Int32.toNatClampNeg (m.I 66 53)) x2) 94 (Int32.toNatClampNeg (m.I 66 53)) (m.I 66 43)) 95 (Int32.toNatClampNeg (m.I 66 53)) (m.I 66 44)) 96 (Int32.toNatClampNeg (m.I 66 53)) (m.I 66 45)) m.J)) rfl rfl rfl ?_
        refine sh_gR1 (len := 3) (x := .ref 98) (pc2 := 279) rfl rfl (sh_s66 hT.st) rfl rfl ?_
        refine sh_w (i := (.aload_n 0)) (len := 1) (pc2 := 280) (lv2 := [(0, .ref 67), (2, .int x2), (4, .int x4), (5, .int x5), (6, .int x6)]) (st2 := [.ref 67, .ref 98]) (h2 := (sh_rep m.T (sh_u2 (sh_u2 (sh_u2 (sh_u2 m.I 93 (Int32.toNatClampNeg (m.I 66 53)) x2) 94 (Int32.toNatClampNeg (m.I 66 53)) (m.I 66 43)) 95 (Int32.toNatClampNeg (m.I 66 53)) (m.I 66 44)) 96 (Int32.toNatClampNeg (m.I 66 53)) (m.I 66 45)) m.J)) rfl rfl rfl ?_
        refine sh_gI1 (len := 3) (x := m.I 66 53) (pc2 := 283) rfl rfl (sh_s66 hT.st) rfl rfl rfl ?_
        refine sh_w (i := (.iload 5)) (len := 2) (pc2 := 285) (lv2 := [(0, .ref 67), (2, .int x2), (4, .int x4), (5, .int x5), (6, .int x6)]) (st2 := [.int x5, .int (m.I 66 53), .ref 98]) (h2 := (sh_rep m.T (sh_u2 (sh_u2 (sh_u2 (sh_u2 m.I 93 (Int32.toNatClampNeg (m.I 66 53)) x2) 94 (Int32.toNatClampNeg (m.I 66 53)) (m.I 66 43)) 95 (Int32.toNatClampNeg (m.I 66 53)) (m.I 66 44)) 96 (Int32.toNatClampNeg (m.I 66 53)) (m.I 66 45)) m.J)) rfl rfl rfl ?_
        exact kk
      obtain ⟨c, e⟩ := sh_gd e
      refine sh_Lk_lift (T := m.T) (I := sh_u2 (sh_u2 (sh_u2 (sh_u2 m.I 93 (Int32.toNatClampNeg (m.I 66 53)) x2) 94 (Int32.toNatClampNeg (m.I 66 53)) (m.I 66 43)) 95 (Int32.toNatClampNeg (m.I 66 53)) (m.I 66 44)) 96 (Int32.toNatClampNeg (m.I 66 53)) (m.I 66 45)) (J := m.J) (s := m.s) (pc2 := 297) (lv2 := [(0, .ref 67), (2, .int x2), (4, .int x4), (5, .int x5), (6, .int x6)]) (st2 := [.int 1]) (I2 := sh_u2 (sh_u2 (sh_u2 (sh_u2 (sh_u2 (sh_u2 m.I 93 (Int32.toNatClampNeg (m.I 66 53)) x2) 94 (Int32.toNatClampNeg (m.I 66 53)) (m.I 66 43)) 95 (Int32.toNatClampNeg (m.I 66 53)) (m.I 66 44)) 96 (Int32.toNatClampNeg (m.I 66 53)) (m.I 66 45)) 97 (Int32.toNatClampNeg (m.I 66 53)) x5) 66 53 ((m.I 66 53) + 1)) (J2 := m.J) (fun hT v kk => ?_) ?_
      · refine sh_is1 (x := x5) (i := m.I 66 53) (pc2 := 286) rfl (sh_s97 hT.st) (sh_okb1 c) (sh_okb2 c) rfl ?_
        refine sh_w (i := (.aload_n 0)) (len := 1) (pc2 := 287) (lv2 := [(0, .ref 67), (2, .int x2), (4, .int x4), (5, .int x5), (6, .int x6)]) (st2 := [.ref 67]) (h2 := (sh_rep m.T (sh_u2 (sh_u2 (sh_u2 (sh_u2 (sh_u2 m.I 93 (Int32.toNatClampNeg (m.I 66 53)) x2) 94 (Int32.toNatClampNeg (m.I 66 53)) (m.I 66 43)) 95 (Int32.toNatClampNeg (m.I 66 53)) (m.I 66 44)) 96 (Int32.toNatClampNeg (m.I 66 53)) (m.I 66 45)) 97 (Int32.toNatClampNeg (m.I 66 53)) x5) m.J)) rfl rfl rfl ?_
        refine sh_w (i := .dup) (len := 1) (pc2 := 288) (lv2 := [(0, .ref 67), (2, .int x2), (4, .int x4), (5, .int x5), (6, .int x6)]) (st2 := [.ref 67, .ref 67]) (h2 := (sh_rep m.T (sh_u2 (sh_u2 (sh_u2 (sh_u2 (sh_u2 m.I 93 (Int32.toNatClampNeg (m.I 66 53)) x2) 94 (Int32.toNatClampNeg (m.I 66 53)) (m.I 66 43)) 95 (Int32.toNatClampNeg (m.I 66 53)) (m.I 66 44)) 96 (Int32.toNatClampNeg (m.I 66 53)) (m.I 66 45)) 97 (Int32.toNatClampNeg (m.I 66 53)) x5) m.J)) rfl rfl rfl ?_
        refine sh_gI1 (len := 3) (x := m.I 66 53) (pc2 := 291) rfl rfl (sh_s66 hT.st) rfl rfl rfl ?_
        refine sh_w (i := (.iconst 1)) (len := 1) (pc2 := 292) (lv2 := [(0, .ref 67), (2, .int x2), (4, .int x4), (5, .int x5), (6, .int x6)]) (st2 := [.int 1, .int (m.I 66 53), .ref 67]) (h2 := (sh_rep m.T (sh_u2 (sh_u2 (sh_u2 (sh_u2 (sh_u2 m.I 93 (Int32.toNatClampNeg (m.I 66 53)) x2) 94 (Int32.toNatClampNeg (m.I 66 53)) (m.I 66 43)) 95 (Int32.toNatClampNeg (m.I 66 53)) (m.I 66 44)) 96 (Int32.toNatClampNeg (m.I 66 53)) (m.I 66 45)) 97 (Int32.toNatClampNeg (m.I 66 53)) x5) m.J)) rfl rfl rfl ?_
        refine sh_w (i := .iadd) (len := 1) (pc2 := 293) (lv2 := [(0, .ref 67), (2, .int x2), (4, .int x4), (5, .int x5), (6, .int x6)]) (st2 := [.int ((m.I 66 53) + 1), .ref 67]) (h2 := (sh_rep m.T (sh_u2 (sh_u2 (sh_u2 (sh_u2 (sh_u2 m.I 93 (Int32.toNatClampNeg (m.I 66 53)) x2) 94 (Int32.toNatClampNeg (m.I 66 53)) (m.I 66 43)) 95 (Int32.toNatClampNeg (m.I 66 53)) (m.I 66 44)) 96 (Int32.toNatClampNeg (m.I 66 53)) (m.I 66 45)) 97 (Int32.toNatClampNeg (m.I 66 53)) x5) m.J)) rfl rfl rfl ?_
        refine sh_pI1 (x := (m.I 66 53) + 1) (pc2 := 296) rfl rfl (sh_s66 hT.st) rfl rfl rfl rfl ?_
        refine sh_w (i := (.iconst 1)) (len := 1) (pc2 := 297) (lv2 := [(0, .ref 67), (2, .int x2), (4, .int x4), (5, .int x5), (6, .int x6)]) (st2 := [.int 1]) (h2 := (sh_rep m.T (sh_u2 (sh_u2 (sh_u2 (sh_u2 (sh_u2 (sh_u2 m.I 93 (Int32.toNatClampNeg (m.I 66 53)) x2) 94 (Int32.toNatClampNeg (m.I 66 53)) (m.I 66 43)) 95 (Int32.toNatClampNeg (m.I 66 53)) (m.I 66 44)) 96 (Int32.toNatClampNeg (m.I 66 53)) (m.I 66 45)) 97 (Int32.toNatClampNeg (m.I 66 53)) x5) 66 53 ((m.I 66 53) + 1)) m.J)) rfl rfl rfl ?_
        exact kk
      obtain rfl := Option.some.inj e
      obtain ⟨rfl, rfl⟩ := tg
      exact sh_Lk_ret (i := .ireturn) rfl rfl rfl (Nat.le_of_ble_eq_true rfl) (Nat.le_of_ble_eq_true rfl)
theorem sl_283_132 {x2 : Int32} {x4 : Int32} {x5 : Int32} {x6 : Int32} {m m2 : sh_X} {o : Outcome} {z : (Bool × sh_X)} (e : sf_283_132 x2 x4 x5 x6 m = some z) (tg : (sh_tZ o m2) z) : sh_Lk 283 132 [(0, .ref 67), (2, .int x2), (4, .int x4), (5, .int x5), (6, .int x6)] [] m o m2 10 245 := by
  unfold sf_283_132 at e
  exact sh_while_lk (P := fun q => sh_Lk 283 132 [(0, .ref 67), (2, .int x2), (4, .int x4), (5, .int x5), (6, .int q.1)] [] q.2 o m2 10 245) (Q := (sh_tZ o m2)) (fun q z e tg => sl_283_132s (x2 := x2) (x4 := x4) (x5 := x5) (x6 := q.1) (m := q.2) e tg) (s := (x6, m)) e tg
theorem sl_283 {x1 : Int32} {m m2 : sh_X} {o : Outcome} {z : (Bool × sh_X)} (e : sf_283 x1 m = some z) (tg : (sh_tZ o m2) z) : sh_Lk 283 0 [(0, .ref 67), (1, .int x1)] [] m o m2 10 245 := by
  unfold sf_283 at e
  refine sh_Lk_lift (T := m.T) (I := m.I) (J := m.J) (s := m.s) (pc2 := 5) (lv2 := [(0, .ref 67), (1, .int x1)]) (st2 := [.int x1, .ref 90]) (I2 := m.I) (J2 := m.J) (fun hT v kk => ?_) ?_
  · refine sh_w (i := (.aload_n 0)) (len := 1) (pc2 := 1) (lv2 := [(0, .ref 67), (1, .int x1)]) (st2 := [.ref 67]) (h2 := (sh_rep m.T m.I m.J)) rfl rfl rfl ?_
    refine sh_gR1 (len := 3) (x := .ref 90) (pc2 := 4) rfl rfl (sh_s66 hT.st) rfl rfl ?_
    refine sh_w (i := (.iload_n 1)) (len := 1) (pc2 := 5) (lv2 := [(0, .ref 67), (1, .int x1)]) (st2 := [.int x1, .ref 90]) (h2 := (sh_rep m.T m.I m.J)) rfl rfl rfl ?_
    exact kk
  obtain ⟨c, e⟩ := sh_gd e
  refine sh_Lk_lift (T := m.T) (I := m.I) (J := m.J) (s := m.s) (pc2 := 13) (lv2 := [(2, .int (m.I 89 (Int32.toNatClampNeg x1))), (0, .ref 67), (1, .int x1)]) (st2 := [.int x1, .ref 92, .ref 67]) (I2 := m.I) (J2 := m.J) (fun hT v kk => ?_) ?_
  · refine sh_ia1 (x := m.I 89 (Int32.toNatClampNeg x1)) (pc2 := 6) rfl (sh_s89 hT.st) (sh_okb1 c) (sh_okb2 c) rfl rfl ?_
    refine sh_w (i := (.istore_n 2)) (len := 1) (pc2 := 7) (lv2 := [(2, .int (m.I 89 (Int32.toNatClampNeg x1))), (0, .ref 67), (1, .int x1)]) (st2 := []) (h2 := (sh_rep m.T m.I m.J)) rfl rfl rfl ?_
    refine sh_w (i := (.aload_n 0)) (len := 1) (pc2 := 8) (lv2 := [(2, .int (m.I 89 (Int32.toNatClampNeg x1))), (0, .ref 67), (1, .int x1)]) (st2 := [.ref 67]) (h2 := (sh_rep m.T m.I m.J)) rfl rfl rfl ?_
    refine sh_w (i := (.aload_n 0)) (len := 1) (pc2 := 9) (lv2 := [(2, .int (m.I 89 (Int32.toNatClampNeg x1))), (0, .ref 67), (1, .int x1)]) (st2 := [.ref 67, .ref 67]) (h2 := (sh_rep m.T m.I m.J)) rfl rfl rfl ?_
    refine sh_gR1 (len := 3) (x := .ref 92) (pc2 := 12) rfl rfl (sh_s66 hT.st) rfl rfl ?_
    refine sh_w (i := (.iload_n 1)) (len := 1) (pc2 := 13) (lv2 := [(2, .int (m.I 89 (Int32.toNatClampNeg x1))), (0, .ref 67), (1, .int x1)]) (st2 := [.int x1, .ref 92, .ref 67]) (h2 := (sh_rep m.T m.I m.J)) rfl rfl rfl ?_
    exact kk
  obtain ⟨c, e⟩ := sh_gd e
  refine sh_Lk_lift (T := m.T) (I := m.I) (J := m.J) (s := m.s) (pc2 := 14) (lv2 := [(2, .int (m.I 89 (Int32.toNatClampNeg x1))), (0, .ref 67), (1, .int x1)]) (st2 := [.int (m.I 91 (Int32.toNatClampNeg x1)), .ref 67]) (I2 := m.I) (J2 := m.J) (fun hT v kk => ?_) ?_
  · refine sh_ia1 (x := m.I 91 (Int32.toNatClampNeg x1)) (pc2 := 14) rfl (sh_s91 hT.st) (sh_okb1 c) (sh_okb2 c) rfl rfl ?_
    exact kk
  obtain ⟨r1, m11, e1, e⟩ := sh_bn_e e
  refine sh_Lk_cV (r := (some (.int (sh_b2 r1)))) (st2 := [.int (sh_b2 r1)]) (pc2 := 17) (k2 := 280) (a := 66) (as := [.ref 67, .int (m.I 91 (Int32.toNatClampNeg x1))]) (rest := []) rfl rfl rfl (fun hT => (sh_s66 hT.st)) rfl rfl ⟨Nat.le_of_ble_eq_true rfl, Nat.le_of_ble_eq_true rfl⟩ (sl_280 e1 ⟨rfl, rfl⟩) rfl rfl (Nat.le_of_ble_eq_true rfl) (Nat.le_of_ble_eq_true rfl) ?_
  rcases sh_ite e with ⟨c, e⟩ | ⟨c, e⟩
  · refine sh_Lk_lift (T := m11.T) (I := m11.I) (J := m11.J) (s := m11.s) (pc2 := 24) (lv2 := [(2, .int (m.I 89 (Int32.toNatClampNeg x1))), (0, .ref 67), (1, .int x1)]) (st2 := [.int (m.I 89 (Int32.toNatClampNeg x1)), .ref 67]) (I2 := m11.I) (J2 := m11.J) (fun hT v kk => ?_) ?_
    · refine sh_j0 (c := .ne) (off := (5)) (pc2 := 22) true rfl (sh_Znet c) rfl ?_
      refine sh_w (i := (.aload_n 0)) (len := 1) (pc2 := 23) (lv2 := [(2, .int (m.I 89 (Int32.toNatClampNeg x1))), (0, .ref 67), (1, .int x1)]) (st2 := [.ref 67]) (h2 := (sh_rep m11.T m11.I m11.J)) rfl rfl rfl ?_
      refine sh_w (i := (.iload_n 2)) (len := 1) (pc2 := 24) (lv2 := [(2, .int (m.I 89 (Int32.toNatClampNeg x1))), (0, .ref 67), (1, .int x1)]) (st2 := [.int (m.I 89 (Int32.toNatClampNeg x1)), .ref 67]) (h2 := (sh_rep m11.T m11.I m11.J)) rfl rfl rfl ?_
      exact kk
    obtain ⟨r2, e2, e⟩ := sh_bc_e e
    refine sh_Lk_cV (r := (some (.int r2))) (st2 := [.int r2]) (pc2 := 27) (k2 := 284) (a := 66) (as := [.ref 67, .int (m.I 89 (Int32.toNatClampNeg x1))]) (rest := []) rfl rfl rfl (fun hT => (sh_s66 hT.st)) rfl rfl ⟨Nat.le_of_ble_eq_true rfl, Nat.le_of_ble_eq_true rfl⟩ (sl_284 e2 ⟨rfl, rfl⟩) rfl rfl (Nat.le_of_ble_eq_true rfl) (Nat.le_of_ble_eq_true rfl) ?_
    rcases sh_ite e with ⟨c, e⟩ | ⟨c, e⟩
    · refine sh_Lk_lift (T := m11.T) (I := m11.I) (J := m11.J) (s := m11.s) (pc2 := 48) (lv2 := [(2, .int (m.I 89 (Int32.toNatClampNeg x1))), (0, .ref 67), (1, .int x1)]) (st2 := [.int x1, .ref 91, .ref 67]) (I2 := m11.I) (J2 := m11.J) (fun hT v kk => ?_) ?_
      · refine sh_j0 (c := .lt) (off := (15)) (pc2 := 42) true rfl (sh_Bltt c) rfl ?_
        refine sh_w (i := (.aload_n 0)) (len := 1) (pc2 := 43) (lv2 := [(2, .int (m.I 89 (Int32.toNatClampNeg x1))), (0, .ref 67), (1, .int x1)]) (st2 := [.ref 67]) (h2 := (sh_rep m11.T m11.I m11.J)) rfl rfl rfl ?_
        refine sh_w (i := (.aload_n 0)) (len := 1) (pc2 := 44) (lv2 := [(2, .int (m.I 89 (Int32.toNatClampNeg x1))), (0, .ref 67), (1, .int x1)]) (st2 := [.ref 67, .ref 67]) (h2 := (sh_rep m11.T m11.I m11.J)) rfl rfl rfl ?_
        refine sh_gR1 (len := 3) (x := .ref 91) (pc2 := 47) rfl rfl (sh_s66 hT.st) rfl rfl ?_
        refine sh_w (i := (.iload_n 1)) (len := 1) (pc2 := 48) (lv2 := [(2, .int (m.I 89 (Int32.toNatClampNeg x1))), (0, .ref 67), (1, .int x1)]) (st2 := [.int x1, .ref 91, .ref 67]) (h2 := (sh_rep m11.T m11.I m11.J)) rfl rfl rfl ?_
        exact kk
      obtain ⟨c, e⟩ := sh_gd e
      refine sh_Lk_lift (T := m11.T) (I := m11.I) (J := m11.J) (s := m11.s) (pc2 := 49) (lv2 := [(2, .int (m.I 89 (Int32.toNatClampNeg x1))), (0, .ref 67), (1, .int x1)]) (st2 := [.int (m11.I 90 (Int32.toNatClampNeg x1)), .ref 67]) (I2 := m11.I) (J2 := m11.J) (fun hT v kk => ?_) ?_
      · refine sh_ia1 (x := m11.I 90 (Int32.toNatClampNeg x1)) (pc2 := 49) rfl (sh_s90 hT.st) (sh_okb1 c) (sh_okb2 c) rfl rfl ?_
        exact kk
      obtain ⟨r3, e3, e⟩ := sh_bc_e e
      refine sh_Lk_cV (r := (some (.int r3))) (st2 := [.int r3]) (pc2 := 52) (k2 := 285) (a := 66) (as := [.ref 67, .int (m11.I 90 (Int32.toNatClampNeg x1))]) (rest := []) rfl rfl rfl (fun hT => (sh_s66 hT.st)) rfl rfl ⟨Nat.le_of_ble_eq_true rfl, Nat.le_of_ble_eq_true rfl⟩ (sl_285 e3 ⟨rfl, rfl⟩) rfl rfl (Nat.le_of_ble_eq_true rfl) (Nat.le_of_ble_eq_true rfl) ?_
      refine sh_Lk_lift (T := m11.T) (I := m11.I) (J := m11.J) (s := m11.s) (pc2 := 58) (lv2 := [(3, .int r3), (2, .int (m.I 89 (Int32.toNatClampNeg x1))), (0, .ref 67), (1, .int x1)]) (st2 := [.int x1, .ref 89]) (I2 := m11.I) (J2 := m11.J) (fun hT v kk => ?_) ?_
      · refine sh_w (i := (.istore_n 3)) (len := 1) (pc2 := 53) (lv2 := [(3, .int r3), (2, .int (m.I 89 (Int32.toNatClampNeg x1))), (0, .ref 67), (1, .int x1)]) (st2 := []) (h2 := (sh_rep m11.T m11.I m11.J)) rfl rfl rfl ?_
        refine sh_w (i := (.aload_n 0)) (len := 1) (pc2 := 54) (lv2 := [(3, .int r3), (2, .int (m.I 89 (Int32.toNatClampNeg x1))), (0, .ref 67), (1, .int x1)]) (st2 := [.ref 67]) (h2 := (sh_rep m11.T m11.I m11.J)) rfl rfl rfl ?_
        refine sh_gR1 (len := 3) (x := .ref 89) (pc2 := 57) rfl rfl (sh_s66 hT.st) rfl rfl ?_
        refine sh_w (i := (.iload_n 1)) (len := 1) (pc2 := 58) (lv2 := [(3, .int r3), (2, .int (m.I 89 (Int32.toNatClampNeg x1))), (0, .ref 67), (1, .int x1)]) (st2 := [.int x1, .ref 89]) (h2 := (sh_rep m11.T m11.I m11.J)) rfl rfl rfl ?_
        exact kk
      obtain ⟨c, e⟩ := sh_gd e
      refine sh_Lk_lift (T := m11.T) (I := m11.I) (J := m11.J) (s := m11.s) (pc2 := 86) (lv2 := [(4, .int (m11.I 88 (Int32.toNatClampNeg x1))), (3, .int r3), (2, .int (m.I 89 (Int32.toNatClampNeg x1))), (0, .ref 67), (1, .int x1)]) (st2 := [.int x1, .ref 92, .ref 67, .ref 67]) (I2 := sh_u2 (sh_u2 m11.I 66 43 (r3 / 64)) 66 44 ((r3 - r3 / 64 * 64) + 1)) (J2 := m11.J) (fun hT v kk => ?_) ?_
      · refine sh_ia1 (x := m11.I 88 (Int32.toNatClampNeg x1)) (pc2 := 59) rfl (sh_s88 hT.st) (sh_okb1 c) (sh_okb2 c) rfl rfl ?_
        refine sh_w (i := (.istore 4)) (len := 2) (pc2 := 61) (lv2 := [(4, .int (m11.I 88 (Int32.toNatClampNeg x1))), (3, .int r3), (2, .int (m.I 89 (Int32.toNatClampNeg x1))), (0, .ref 67), (1, .int x1)]) (st2 := []) (h2 := (sh_rep m11.T m11.I m11.J)) rfl rfl rfl ?_
        refine sh_w (i := (.aload_n 0)) (len := 1) (pc2 := 62) (lv2 := [(4, .int (m11.I 88 (Int32.toNatClampNeg x1))), (3, .int r3), (2, .int (m.I 89 (Int32.toNatClampNeg x1))), (0, .ref 67), (1, .int x1)]) (st2 := [.ref 67]) (h2 := (sh_rep m11.T m11.I m11.J)) rfl rfl rfl ?_
        refine sh_w (i := (.iload_n 3)) (len := 1) (pc2 := 63) (lv2 := [(4, .int (m11.I 88 (Int32.toNatClampNeg x1))), (3, .int r3), (2, .int (m.I 89 (Int32.toNatClampNeg x1))), (0, .ref 67), (1, .int x1)]) (st2 := [.int r3, .ref 67]) (h2 := (sh_rep m11.T m11.I m11.J)) rfl rfl rfl ?_
        refine sh_w (i := (.bipush 64)) (len := 2) (pc2 := 65) (lv2 := [(4, .int (m11.I 88 (Int32.toNatClampNeg x1))), (3, .int r3), (2, .int (m.I 89 (Int32.toNatClampNeg x1))), (0, .ref 67), (1, .int x1)]) (st2 := [.int 64, .int r3, .ref 67]) (h2 := (sh_rep m11.T m11.I m11.J)) rfl rfl rfl ?_
        refine sh_w (i := .idiv) (len := 1) (pc2 := 66) (lv2 := [(4, .int (m11.I 88 (Int32.toNatClampNeg x1))), (3, .int r3), (2, .int (m.I 89 (Int32.toNatClampNeg x1))), (0, .ref 67), (1, .int x1)]) (st2 := [.int (r3 / 64), .ref 67]) (h2 := (sh_rep m11.T m11.I m11.J)) rfl rfl rfl ?_
        refine sh_pI1 (x := r3 / 64) (pc2 := 69) rfl rfl (sh_s66 hT.st) rfl rfl rfl rfl ?_
        refine sh_w (i := (.aload_n 0)) (len := 1) (pc2 := 70) (lv2 := [(4, .int (m11.I 88 (Int32.toNatClampNeg x1))), (3, .int r3), (2, .int (m.I 89 (Int32.toNatClampNeg x1))), (0, .ref 67), (1, .int x1)]) (st2 := [.ref 67]) (h2 := (sh_rep m11.T (sh_u2 m11.I 66 43 (r3 / 64)) m11.J)) rfl rfl rfl ?_
        refine sh_w (i := (.iload_n 3)) (len := 1) (pc2 := 71) (lv2 := [(4, .int (m11.I 88 (Int32.toNatClampNeg x1))), (3, .int r3), (2, .int (m.I 89 (Int32.toNatClampNeg x1))), (0, .ref 67), (1, .int x1)]) (st2 := [.int r3, .ref 67]) (h2 := (sh_rep m11.T (sh_u2 m11.I 66 43 (r3 / 64)) m11.J)) rfl rfl rfl ?_
        refine sh_w (i := (.bipush 64)) (len := 2) (pc2 := 73) (lv2 := [(4, .int (m11.I 88 (Int32.toNatClampNeg x1))), (3, .int r3), (2, .int (m.I 89 (Int32.toNatClampNeg x1))), (0, .ref 67), (1, .int x1)]) (st2 := [.int 64, .int r3, .ref 67]) (h2 := (sh_rep m11.T (sh_u2 m11.I 66 43 (r3 / 64)) m11.J)) rfl rfl rfl ?_
        refine sh_w (i := .irem) (len := 1) (pc2 := 74) (lv2 := [(4, .int (m11.I 88 (Int32.toNatClampNeg x1))), (3, .int r3), (2, .int (m.I 89 (Int32.toNatClampNeg x1))), (0, .ref 67), (1, .int x1)]) (st2 := [.int (r3 - r3 / 64 * 64), .ref 67]) (h2 := (sh_rep m11.T (sh_u2 m11.I 66 43 (r3 / 64)) m11.J)) rfl rfl rfl ?_
        refine sh_w (i := (.iconst 1)) (len := 1) (pc2 := 75) (lv2 := [(4, .int (m11.I 88 (Int32.toNatClampNeg x1))), (3, .int r3), (2, .int (m.I 89 (Int32.toNatClampNeg x1))), (0, .ref 67), (1, .int x1)]) (st2 := [.int 1, .int (r3 - r3 / 64 * 64), .ref 67]) (h2 := (sh_rep m11.T (sh_u2 m11.I 66 43 (r3 / 64)) m11.J)) rfl rfl rfl ?_
        refine sh_w (i := .iadd) (len := 1) (pc2 := 76) (lv2 := [(4, .int (m11.I 88 (Int32.toNatClampNeg x1))), (3, .int r3), (2, .int (m.I 89 (Int32.toNatClampNeg x1))), (0, .ref 67), (1, .int x1)]) (st2 := [.int ((r3 - r3 / 64 * 64) + 1), .ref 67]) (h2 := (sh_rep m11.T (sh_u2 m11.I 66 43 (r3 / 64)) m11.J)) rfl rfl rfl ?_
        refine sh_pI1 (x := (r3 - r3 / 64 * 64) + 1) (pc2 := 79) rfl rfl (sh_s66 hT.st) rfl rfl rfl rfl ?_
        refine sh_w (i := (.aload_n 0)) (len := 1) (pc2 := 80) (lv2 := [(4, .int (m11.I 88 (Int32.toNatClampNeg x1))), (3, .int r3), (2, .int (m.I 89 (Int32.toNatClampNeg x1))), (0, .ref 67), (1, .int x1)]) (st2 := [.ref 67]) (h2 := (sh_rep m11.T (sh_u2 (sh_u2 m11.I 66 43 (r3 / 64)) 66 44 ((r3 - r3 / 64 * 64) + 1)) m11.J)) rfl rfl rfl ?_
        refine sh_w (i := (.aload_n 0)) (len := 1) (pc2 := 81) (lv2 := [(4, .int (m11.I 88 (Int32.toNatClampNeg x1))), (3, .int r3), (2, .int (m.I 89 (Int32.toNatClampNeg x1))), (0, .ref 67), (1, .int x1)]) (st2 := [.ref 67, .ref 67]) (h2 := (sh_rep m11.T (sh_u2 (sh_u2 m11.I 66 43 (r3 / 64)) 66 44 ((r3 - r3 / 64 * 64) + 1)) m11.J)) rfl rfl rfl ?_
        refine sh_w (i := (.aload_n 0)) (len := 1) (pc2 := 82) (lv2 := [(4, .int (m11.I 88 (Int32.toNatClampNeg x1))), (3, .int r3), (2, .int (m.I 89 (Int32.toNatClampNeg x1))), (0, .ref 67), (1, .int x1)]) (st2 := [.ref 67, .ref 67, .ref 67]) (h2 := (sh_rep m11.T (sh_u2 (sh_u2 m11.I 66 43 (r3 / 64)) 66 44 ((r3 - r3 / 64 * 64) + 1)) m11.J)) rfl rfl rfl ?_
        refine sh_gR1 (len := 3) (x := .ref 92) (pc2 := 85) rfl rfl (sh_s66 hT.st) rfl rfl ?_
        refine sh_w (i := (.iload_n 1)) (len := 1) (pc2 := 86) (lv2 := [(4, .int (m11.I 88 (Int32.toNatClampNeg x1))), (3, .int r3), (2, .int (m.I 89 (Int32.toNatClampNeg x1))), (0, .ref 67), (1, .int x1)]) (st2 := [.int x1, .ref 92, .ref 67, .ref 67]) (h2 := (sh_rep m11.T (sh_u2 (sh_u2 m11.I 66 43 (r3 / 64)) 66 44 ((r3 - r3 / 64 * 64) + 1)) m11.J)) rfl rfl rfl ?_
        exact kk
      obtain ⟨c, e⟩ := sh_gd e
      refine sh_Lk_lift (T := m11.T) (I := sh_u2 (sh_u2 m11.I 66 43 (r3 / 64)) 66 44 ((r3 - r3 / 64 * 64) + 1)) (J := m11.J) (s := m11.s) (pc2 := 87) (lv2 := [(4, .int (m11.I 88 (Int32.toNatClampNeg x1))), (3, .int r3), (2, .int (m.I 89 (Int32.toNatClampNeg x1))), (0, .ref 67), (1, .int x1)]) (st2 := [.int (m11.I 91 (Int32.toNatClampNeg x1)), .ref 67, .ref 67]) (I2 := sh_u2 (sh_u2 m11.I 66 43 (r3 / 64)) 66 44 ((r3 - r3 / 64 * 64) + 1)) (J2 := m11.J) (fun hT v kk => ?_) ?_
      · refine sh_ia1 (x := m11.I 91 (Int32.toNatClampNeg x1)) (pc2 := 87) rfl (sh_s91 hT.st) (sh_okb1 c) (sh_okb2 c) rfl rfl ?_
        exact kk
      obtain ⟨r4, e4, e⟩ := sh_bc_e e
      refine sh_Lk_cV (r := (some (.int r4))) (st2 := [.int r4, .ref 67]) (pc2 := 90) (k2 := 286) (a := 66) (as := [.ref 67, .int (m11.I 91 (Int32.toNatClampNeg x1))]) (rest := [.ref 67]) rfl rfl rfl (fun hT => (sh_s66 hT.st)) rfl rfl ⟨Nat.le_of_ble_eq_true rfl, Nat.le_of_ble_eq_true rfl⟩ (sl_286 e4 ⟨rfl, rfl⟩) rfl rfl (Nat.le_of_ble_eq_true rfl) (Nat.le_of_ble_eq_true rfl) ?_
      refine sh_Lk_lift (T := m11.T) (I := sh_u2 (sh_u2 m11.I 66 43 (r3 / 64)) 66 44 ((r3 - r3 / 64 * 64) + 1)) (J := m11.J) (s := m11.s) (pc2 := 104) (lv2 := [(4, .int (m11.I 88 (Int32.toNatClampNeg x1))), (3, .int r3), (2, .int (m.I 89 (Int32.toNatClampNeg x1))), (0, .ref 67), (1, .int x1)]) (st2 := [.int r4, .int ((r3 - r3 / 64 * 64) + 1), .int (m11.I 88 (Int32.toNatClampNeg x1)), .ref 67]) (I2 := sh_u2 (sh_u2 (sh_u2 m11.I 66 43 (r3 / 64)) 66 44 ((r3 - r3 / 64 * 64) + 1)) 66 45 r4) (J2 := m11.J) (fun hT v kk => ?_) ?_
      · refine sh_pI1 (x := r4) (pc2 := 93) rfl rfl (sh_s66 hT.st) rfl rfl rfl rfl ?_
        refine sh_w (i := (.aload_n 0)) (len := 1) (pc2 := 94) (lv2 := [(4, .int (m11.I 88 (Int32.toNatClampNeg x1))), (3, .int r3), (2, .int (m.I 89 (Int32.toNatClampNeg x1))), (0, .ref 67), (1, .int x1)]) (st2 := [.ref 67]) (h2 := (sh_rep m11.T (sh_u2 (sh_u2 (sh_u2 m11.I 66 43 (r3 / 64)) 66 44 ((r3 - r3 / 64 * 64) + 1)) 66 45 r4) m11.J)) rfl rfl rfl ?_
        refine sh_w (i := (.iload 4)) (len := 2) (pc2 := 96) (lv2 := [(4, .int (m11.I 88 (Int32.toNatClampNeg x1))), (3, .int r3), (2, .int (m.I 89 (Int32.toNatClampNeg x1))), (0, .ref 67), (1, .int x1)]) (st2 := [.int (m11.I 88 (Int32.toNatClampNeg x1)), .ref 67]) (h2 := (sh_rep m11.T (sh_u2 (sh_u2 (sh_u2 m11.I 66 43 (r3 / 64)) 66 44 ((r3 - r3 / 64 * 64) + 1)) 66 45 r4) m11.J)) rfl rfl rfl ?_
        refine sh_w (i := (.aload_n 0)) (len := 1) (pc2 := 97) (lv2 := [(4, .int (m11.I 88 (Int32.toNatClampNeg x1))), (3, .int r3), (2, .int (m.I 89 (Int32.toNatClampNeg x1))), (0, .ref 67), (1, .int x1)]) (st2 := [.ref 67, .int (m11.I 88 (Int32.toNatClampNeg x1)), .ref 67]) (h2 := (sh_rep m11.T (sh_u2 (sh_u2 (sh_u2 m11.I 66 43 (r3 / 64)) 66 44 ((r3 - r3 / 64 * 64) + 1)) 66 45 r4) m11.J)) rfl rfl rfl ?_
        refine sh_gI1 (len := 3) (x := (r3 - r3 / 64 * 64) + 1) (pc2 := 100) rfl rfl (sh_s66 hT.st) rfl rfl rfl ?_
        refine sh_w (i := (.aload_n 0)) (len := 1) (pc2 := 101) (lv2 := [(4, .int (m11.I 88 (Int32.toNatClampNeg x1))), (3, .int r3), (2, .int (m.I 89 (Int32.toNatClampNeg x1))), (0, .ref 67), (1, .int x1)]) (st2 := [.ref 67, .int ((r3 - r3 / 64 * 64) + 1), .int (m11.I 88 (Int32.toNatClampNeg x1)), .ref 67]) (h2 := (sh_rep m11.T (sh_u2 (sh_u2 (sh_u2 m11.I 66 43 (r3 / 64)) 66 44 ((r3 - r3 / 64 * 64) + 1)) 66 45 r4) m11.J)) rfl rfl rfl ?_
        refine sh_gI1 (len := 3) (x := r4) (pc2 := 104) rfl rfl (sh_s66 hT.st) rfl rfl rfl ?_
        exact kk
      obtain ⟨r5, e5, e⟩ := sh_bc_e e
      refine sh_Lk_cV (r := (some (.int (sh_b2 r5)))) (st2 := [.int (sh_b2 r5)]) (pc2 := 107) (k2 := 287) (a := 66) (as := [.ref 67, .int (m11.I 88 (Int32.toNatClampNeg x1)), .int ((r3 - r3 / 64 * 64) + 1), .int r4]) (rest := []) rfl rfl rfl (fun hT => (sh_s66 hT.st)) rfl rfl ⟨Nat.le_of_ble_eq_true rfl, Nat.le_of_ble_eq_true rfl⟩ (sl_287 e5 ⟨rfl, rfl⟩) rfl rfl (Nat.le_of_ble_eq_true rfl) (Nat.le_of_ble_eq_true rfl) ?_
      rcases sh_ite e with ⟨c, e⟩ | ⟨c, e⟩
      · refine sh_Lk_lift (T := m11.T) (I := sh_u2 (sh_u2 (sh_u2 m11.I 66 43 (r3 / 64)) 66 44 ((r3 - r3 / 64 * 64) + 1)) 66 45 r4) (J := m11.J) (s := m11.s) (pc2 := 118) (lv2 := [(4, .int (m11.I 88 (Int32.toNatClampNeg x1))), (3, .int r3), (2, .int (m.I 89 (Int32.toNatClampNeg x1))), (0, .ref 67), (1, .int x1)]) (st2 := [.int (m.I 89 (Int32.toNatClampNeg x1)), .ref 70, .int 6, .ref 67]) (I2 := sh_u2 (sh_u2 (sh_u2 m11.I 66 43 (r3 / 64)) 66 44 ((r3 - r3 / 64 * 64) + 1)) 66 45 r4) (J2 := m11.J) (fun hT v kk => ?_) ?_
        · refine sh_j0 (c := .eq) (off := (16)) (pc2 := 110) false rfl (sh_Zeqf c) rfl ?_
          refine sh_w (i := (.aload_n 0)) (len := 1) (pc2 := 111) (lv2 := [(4, .int (m11.I 88 (Int32.toNatClampNeg x1))), (3, .int r3), (2, .int (m.I 89 (Int32.toNatClampNeg x1))), (0, .ref 67), (1, .int x1)]) (st2 := [.ref 67]) (h2 := (sh_rep m11.T (sh_u2 (sh_u2 (sh_u2 m11.I 66 43 (r3 / 64)) 66 44 ((r3 - r3 / 64 * 64) + 1)) 66 45 r4) m11.J)) rfl rfl rfl ?_
          refine sh_w (i := (.bipush 6)) (len := 2) (pc2 := 113) (lv2 := [(4, .int (m11.I 88 (Int32.toNatClampNeg x1))), (3, .int r3), (2, .int (m.I 89 (Int32.toNatClampNeg x1))), (0, .ref 67), (1, .int x1)]) (st2 := [.int 6, .ref 67]) (h2 := (sh_rep m11.T (sh_u2 (sh_u2 (sh_u2 m11.I 66 43 (r3 / 64)) 66 44 ((r3 - r3 / 64 * 64) + 1)) 66 45 r4) m11.J)) rfl rfl rfl ?_
          refine sh_w (i := (.aload_n 0)) (len := 1) (pc2 := 114) (lv2 := [(4, .int (m11.I 88 (Int32.toNatClampNeg x1))), (3, .int r3), (2, .int (m.I 89 (Int32.toNatClampNeg x1))), (0, .ref 67), (1, .int x1)]) (st2 := [.ref 67, .int 6, .ref 67]) (h2 := (sh_rep m11.T (sh_u2 (sh_u2 (sh_u2 m11.I 66 43 (r3 / 64)) 66 44 ((r3 - r3 / 64 * 64) + 1)) 66 45 r4) m11.J)) rfl rfl rfl ?_
          refine sh_gR1 (len := 3) (x := .ref 70) (pc2 := 117) rfl rfl (sh_s66 hT.st) rfl rfl ?_
          refine sh_w (i := (.iload_n 2)) (len := 1) (pc2 := 118) (lv2 := [(4, .int (m11.I 88 (Int32.toNatClampNeg x1))), (3, .int r3), (2, .int (m.I 89 (Int32.toNatClampNeg x1))), (0, .ref 67), (1, .int x1)]) (st2 := [.int (m.I 89 (Int32.toNatClampNeg x1)), .ref 70, .int 6, .ref 67]) (h2 := (sh_rep m11.T (sh_u2 (sh_u2 (sh_u2 m11.I 66 43 (r3 / 64)) 66 44 ((r3 - r3 / 64 * 64) + 1)) 66 45 r4) m11.J)) rfl rfl rfl ?_
          exact kk
        obtain ⟨c, e⟩ := sh_gd e
        refine sh_Lk_lift (T := m11.T) (I := sh_u2 (sh_u2 (sh_u2 m11.I 66 43 (r3 / 64)) 66 44 ((r3 - r3 / 64 * 64) + 1)) 66 45 r4) (J := m11.J) (s := m11.s) (pc2 := 119) (lv2 := [(4, .int (m11.I 88 (Int32.toNatClampNeg x1))), (3, .int r3), (2, .int (m.I 89 (Int32.toNatClampNeg x1))), (0, .ref 67), (1, .int x1)]) (st2 := [.int (m11.I 69 (Int32.toNatClampNeg (m.I 89 (Int32.toNatClampNeg x1)))), .int 6, .ref 67]) (I2 := sh_u2 (sh_u2 (sh_u2 m11.I 66 43 (r3 / 64)) 66 44 ((r3 - r3 / 64 * 64) + 1)) 66 45 r4) (J2 := m11.J) (fun hT v kk => ?_) ?_
        · refine sh_ia1 (x := m11.I 69 (Int32.toNatClampNeg (m.I 89 (Int32.toNatClampNeg x1)))) (pc2 := 119) rfl (sh_s69 hT.st) (sh_okb1 c) (sh_okb2 c) rfl rfl ?_
          exact kk
        obtain ⟨r6, m16, e6, e⟩ := sh_bn_e e
        refine sh_Lk_cV (r := (some (.int (sh_b2 r6)))) (st2 := [.int (sh_b2 r6)]) (pc2 := 122) (k2 := 252) (a := 66) (as := [.ref 67, .int 6, .int (m11.I 69 (Int32.toNatClampNeg (m.I 89 (Int32.toNatClampNeg x1))))]) (rest := []) rfl rfl rfl (fun hT => (sh_s66 hT.st)) rfl rfl ⟨Nat.le_of_ble_eq_true rfl, Nat.le_of_ble_eq_true rfl⟩ (sl_252 e6 ⟨rfl, rfl⟩) rfl rfl (Nat.le_of_ble_eq_true rfl) (Nat.le_of_ble_eq_true rfl) ?_
        obtain rfl := Option.some.inj e
        obtain ⟨rfl, rfl⟩ := tg
        exact sh_Lk_ret (i := .ireturn) rfl rfl (sh_rb rfl _) (Nat.le_of_ble_eq_true rfl) (Nat.le_of_ble_eq_true rfl)
      · refine sh_Lk_lift (T := m11.T) (I := sh_u2 (sh_u2 (sh_u2 m11.I 66 43 (r3 / 64)) 66 44 ((r3 - r3 / 64 * 64) + 1)) 66 45 r4) (J := m11.J) (s := m11.s) (pc2 := 132) (lv2 := [(6, .int 0), (5, .int (m11.I 66 41)), (4, .int (m11.I 88 (Int32.toNatClampNeg x1))), (3, .int r3), (2, .int (m.I 89 (Int32.toNatClampNeg x1))), (0, .ref 67), (1, .int x1)]) (st2 := []) (I2 := sh_u2 (sh_u2 (sh_u2 m11.I 66 43 (r3 / 64)) 66 44 ((r3 - r3 / 64 * 64) + 1)) 66 45 r4) (J2 := m11.J) (fun hT v kk => ?_) ?_
        · refine sh_j0 (c := .eq) (off := (16)) (pc2 := 123) true rfl (sh_Zeqt c) rfl ?_
          refine sh_w (i := (.aload_n 0)) (len := 1) (pc2 := 124) (lv2 := [(4, .int (m11.I 88 (Int32.toNatClampNeg x1))), (3, .int r3), (2, .int (m.I 89 (Int32.toNatClampNeg x1))), (0, .ref 67), (1, .int x1)]) (st2 := [.ref 67]) (h2 := (sh_rep m11.T (sh_u2 (sh_u2 (sh_u2 m11.I 66 43 (r3 / 64)) 66 44 ((r3 - r3 / 64 * 64) + 1)) 66 45 r4) m11.J)) rfl rfl rfl ?_
          refine sh_gI1 (len := 3) (x := m11.I 66 41) (pc2 := 127) rfl rfl (sh_s66 hT.st) rfl rfl rfl ?_
          refine sh_w (i := (.istore 5)) (len := 2) (pc2 := 129) (lv2 := [(5, .int (m11.I 66 41)), (4, .int (m11.I 88 (Int32.toNatClampNeg x1))), (3, .int r3), (2, .int (m.I 89 (Int32.toNatClampNeg x1))), (0, .ref 67), (1, .int x1)]) (st2 := []) (h2 := (sh_rep m11.T (sh_u2 (sh_u2 (sh_u2 m11.I 66 43 (r3 / 64)) 66 44 ((r3 - r3 / 64 * 64) + 1)) 66 45 r4) m11.J)) rfl rfl rfl ?_
          refine sh_w (i := (.iconst 0)) (len := 1) (pc2 := 130) (lv2 := [(5, .int (m11.I 66 41)), (4, .int (m11.I 88 (Int32.toNatClampNeg x1))), (3, .int r3), (2, .int (m.I 89 (Int32.toNatClampNeg x1))), (0, .ref 67), (1, .int x1)]) (st2 := [.int 0]) (h2 := (sh_rep m11.T (sh_u2 (sh_u2 (sh_u2 m11.I 66 43 (r3 / 64)) 66 44 ((r3 - r3 / 64 * 64) + 1)) 66 45 r4) m11.J)) rfl rfl rfl ?_
          refine sh_w (i := (.istore 6)) (len := 2) (pc2 := 132) (lv2 := [(6, .int 0), (5, .int (m11.I 66 41)), (4, .int (m11.I 88 (Int32.toNatClampNeg x1))), (3, .int r3), (2, .int (m.I 89 (Int32.toNatClampNeg x1))), (0, .ref 67), (1, .int x1)]) (st2 := []) (h2 := (sh_rep m11.T (sh_u2 (sh_u2 (sh_u2 m11.I 66 43 (r3 / 64)) 66 44 ((r3 - r3 / 64 * 64) + 1)) 66 45 r4) m11.J)) rfl rfl rfl ?_
          exact kk
        exact sh_Lk_sub (sh_sub_c rfl (sh_sub_c rfl (sh_sub_c rfl (sh_sub_c rfl (sh_sub_c rfl (sh_sub_n)))))) (sl_283_132 e tg)
    · refine sh_Lk_lift (T := m11.T) (I := m11.I) (J := m11.J) (s := m11.s) (pc2 := 37) (lv2 := [(2, .int (m.I 89 (Int32.toNatClampNeg x1))), (0, .ref 67), (1, .int x1)]) (st2 := [.int (m.I 89 (Int32.toNatClampNeg x1)), .ref 70, .int 3, .ref 67]) (I2 := m11.I) (J2 := m11.J) (fun hT v kk => ?_) ?_
      · refine sh_j0 (c := .lt) (off := (15)) (pc2 := 30) false rfl (sh_Bltf c) rfl ?_
        refine sh_w (i := (.aload_n 0)) (len := 1) (pc2 := 31) (lv2 := [(2, .int (m.I 89 (Int32.toNatClampNeg x1))), (0, .ref 67), (1, .int x1)]) (st2 := [.ref 67]) (h2 := (sh_rep m11.T m11.I m11.J)) rfl rfl rfl ?_
        refine sh_w (i := (.iconst 3)) (len := 1) (pc2 := 32) (lv2 := [(2, .int (m.I 89 (Int32.toNatClampNeg x1))), (0, .ref 67), (1, .int x1)]) (st2 := [.int 3, .ref 67]) (h2 := (sh_rep m11.T m11.I m11.J)) rfl rfl rfl ?_
        refine sh_w (i := (.aload_n 0)) (len := 1) (pc2 := 33) (lv2 := [(2, .int (m.I 89 (Int32.toNatClampNeg x1))), (0, .ref 67), (1, .int x1)]) (st2 := [.ref 67, .int 3, .ref 67]) (h2 := (sh_rep m11.T m11.I m11.J)) rfl rfl rfl ?_
        refine sh_gR1 (len := 3) (x := .ref 70) (pc2 := 36) rfl rfl (sh_s66 hT.st) rfl rfl ?_
        refine sh_w (i := (.iload_n 2)) (len := 1) (pc2 := 37) (lv2 := [(2, .int (m.I 89 (Int32.toNatClampNeg x1))), (0, .ref 67), (1, .int x1)]) (st2 := [.int (m.I 89 (Int32.toNatClampNeg x1)), .ref 70, .int 3, .ref 67]) (h2 := (sh_rep m11.T m11.I m11.J)) rfl rfl rfl ?_
        exact kk
      obtain ⟨c, e⟩ := sh_gd e
      refine sh_Lk_lift (T := m11.T) (I := m11.I) (J := m11.J) (s := m11.s) (pc2 := 38) (lv2 := [(2, .int (m.I 89 (Int32.toNatClampNeg x1))), (0, .ref 67), (1, .int x1)]) (st2 := [.int (m11.I 69 (Int32.toNatClampNeg (m.I 89 (Int32.toNatClampNeg x1)))), .int 3, .ref 67]) (I2 := m11.I) (J2 := m11.J) (fun hT v kk => ?_) ?_
      · refine sh_ia1 (x := m11.I 69 (Int32.toNatClampNeg (m.I 89 (Int32.toNatClampNeg x1)))) (pc2 := 38) rfl (sh_s69 hT.st) (sh_okb1 c) (sh_okb2 c) rfl rfl ?_
        exact kk
      obtain ⟨r7, m17, e7, e⟩ := sh_bn_e e
      refine sh_Lk_cV (r := (some (.int (sh_b2 r7)))) (st2 := [.int (sh_b2 r7)]) (pc2 := 41) (k2 := 252) (a := 66) (as := [.ref 67, .int 3, .int (m11.I 69 (Int32.toNatClampNeg (m.I 89 (Int32.toNatClampNeg x1))))]) (rest := []) rfl rfl rfl (fun hT => (sh_s66 hT.st)) rfl rfl ⟨Nat.le_of_ble_eq_true rfl, Nat.le_of_ble_eq_true rfl⟩ (sl_252 e7 ⟨rfl, rfl⟩) rfl rfl (Nat.le_of_ble_eq_true rfl) (Nat.le_of_ble_eq_true rfl) ?_
      obtain rfl := Option.some.inj e
      obtain ⟨rfl, rfl⟩ := tg
      exact sh_Lk_ret (i := .ireturn) rfl rfl (sh_rb rfl _) (Nat.le_of_ble_eq_true rfl) (Nat.le_of_ble_eq_true rfl)
  · refine sh_Lk_lift (T := m11.T) (I := m11.I) (J := m11.J) (s := m11.s) (pc2 := 21) (lv2 := [(2, .int (m.I 89 (Int32.toNatClampNeg x1))), (0, .ref 67), (1, .int x1)]) (st2 := [.int 0]) (I2 := m11.I) (J2 := m11.J) (fun hT v kk => ?_) ?_
    · refine sh_j0 (c := .ne) (off := (5)) (pc2 := 20) false rfl (sh_Znef c) rfl ?_
      refine sh_w (i := (.iconst 0)) (len := 1) (pc2 := 21) (lv2 := [(2, .int (m.I 89 (Int32.toNatClampNeg x1))), (0, .ref 67), (1, .int x1)]) (st2 := [.int 0]) (h2 := (sh_rep m11.T m11.I m11.J)) rfl rfl rfl ?_
      exact kk
    obtain rfl := Option.some.inj e
    obtain ⟨rfl, rfl⟩ := tg
    exact sh_Lk_ret (i := .ireturn) rfl rfl rfl (Nat.le_of_ble_eq_true rfl) (Nat.le_of_ble_eq_true rfl)
theorem sl_292_35 {m m2 : sh_X} {o : Outcome} {z : (Bool × sh_X)} (e : sf_292_35 m = some z) (tg : (sh_tZ o m2) z) : sh_Lk 292 35 [] [] m o m2 9 222 := by
  unfold sf_292_35 at e
  refine sh_Lk_lift (T := m.T) (I := m.I) (J := m.J) (s := m.s) (pc2 := 40) (lv2 := []) (st2 := [.int 1]) (I2 := m.I) (J2 := m.J) (fun hT v kk => ?_) ?_
  · refine sh_w (i := (.iconst 1)) (len := 1) (pc2 := 36) (lv2 := []) (st2 := [.int 1]) (h2 := (sh_rep m.T m.I m.J)) rfl rfl rfl ?_
    refine sh_w (i := (.goto 4)) (len := 3) (pc2 := 40) (lv2 := []) (st2 := [.int 1]) (h2 := (sh_rep m.T m.I m.J)) rfl rfl rfl ?_
    exact kk
  obtain rfl := Option.some.inj e
  obtain ⟨rfl, rfl⟩ := tg
  exact sh_Lk_ret (i := .ireturn) rfl rfl rfl (Nat.le_of_ble_eq_true rfl) (Nat.le_of_ble_eq_true rfl)
theorem sl_292 {x1 : Int32} {x2 : Int32} {m m2 : sh_X} {o : Outcome} {z : (Bool × sh_X)} (e : sf_292 x1 x2 m = some z) (tg : (sh_tZ o m2) z) : sh_Lk 292 0 [(0, .ref 67), (1, .int x1), (2, .int x2)] [] m o m2 9 222 := by
  unfold sf_292 at e
  refine sh_Lk_lift (T := m.T) (I := m.I) (J := m.J) (s := m.s) (pc2 := 17) (lv2 := [(0, .ref 67), (1, .int x1), (2, .int x2)]) (st2 := [.int 3000, .int ((m.I 66 42) + x1)]) (I2 := sh_u2 m.I 66 42 ((m.I 66 42) + x1)) (J2 := m.J) (fun hT v kk => ?_) ?_
  · refine sh_w (i := (.aload_n 0)) (len := 1) (pc2 := 1) (lv2 := [(0, .ref 67), (1, .int x1), (2, .int x2)]) (st2 := [.ref 67]) (h2 := (sh_rep m.T m.I m.J)) rfl rfl rfl ?_
    refine sh_w (i := .dup) (len := 1) (pc2 := 2) (lv2 := [(0, .ref 67), (1, .int x1), (2, .int x2)]) (st2 := [.ref 67, .ref 67]) (h2 := (sh_rep m.T m.I m.J)) rfl rfl rfl ?_
    refine sh_gI1 (len := 3) (x := m.I 66 42) (pc2 := 5) rfl rfl (sh_s66 hT.st) rfl rfl rfl ?_
    refine sh_w (i := (.iload_n 1)) (len := 1) (pc2 := 6) (lv2 := [(0, .ref 67), (1, .int x1), (2, .int x2)]) (st2 := [.int x1, .int (m.I 66 42), .ref 67]) (h2 := (sh_rep m.T m.I m.J)) rfl rfl rfl ?_
    refine sh_w (i := .iadd) (len := 1) (pc2 := 7) (lv2 := [(0, .ref 67), (1, .int x1), (2, .int x2)]) (st2 := [.int ((m.I 66 42) + x1), .ref 67]) (h2 := (sh_rep m.T m.I m.J)) rfl rfl rfl ?_
    refine sh_pI1 (x := (m.I 66 42) + x1) (pc2 := 10) rfl rfl (sh_s66 hT.st) rfl rfl rfl rfl ?_
    refine sh_w (i := (.aload_n 0)) (len := 1) (pc2 := 11) (lv2 := [(0, .ref 67), (1, .int x1), (2, .int x2)]) (st2 := [.ref 67]) (h2 := (sh_rep m.T (sh_u2 m.I 66 42 ((m.I 66 42) + x1)) m.J)) rfl rfl rfl ?_
    refine sh_gI1 (len := 3) (x := (m.I 66 42) + x1) (pc2 := 14) rfl rfl (sh_s66 hT.st) rfl rfl rfl ?_
    refine sh_w (i := (.sipush 3000)) (len := 3) (pc2 := 17) (lv2 := [(0, .ref 67), (1, .int x1), (2, .int x2)]) (st2 := [.int 3000, .int ((m.I 66 42) + x1)]) (h2 := (sh_rep m.T (sh_u2 m.I 66 42 ((m.I 66 42) + x1)) m.J)) rfl rfl rfl ?_
    exact kk
  rcases sh_ite e with ⟨c, e⟩ | ⟨c, e⟩
  · refine sh_Lk_lift (T := m.T) (I := sh_u2 m.I 66 42 ((m.I 66 42) + x1)) (J := m.J) (s := m.s) (pc2 := 28) (lv2 := [(0, .ref 67), (1, .int x1), (2, .int x2)]) (st2 := [.int x2, .ref 70, .int 6, .ref 67]) (I2 := sh_u2 m.I 66 42 ((m.I 66 42) + x1)) (J2 := m.J) (fun hT v kk => ?_) ?_
    · refine sh_jc (c := .le) (off := (18)) (pc2 := 20) false rfl (sh_Blef c) rfl ?_
      refine sh_w (i := (.aload_n 0)) (len := 1) (pc2 := 21) (lv2 := [(0, .ref 67), (1, .int x1), (2, .int x2)]) (st2 := [.ref 67]) (h2 := (sh_rep m.T (sh_u2 m.I 66 42 ((m.I 66 42) + x1)) m.J)) rfl rfl rfl ?_
      refine sh_w (i := (.bipush 6)) (len := 2) (pc2 := 23) (lv2 := [(0, .ref 67), (1, .int x1), (2, .int x2)]) (st2 := [.int 6, .ref 67]) (h2 := (sh_rep m.T (sh_u2 m.I 66 42 ((m.I 66 42) + x1)) m.J)) rfl rfl rfl ?_
      refine sh_w (i := (.aload_n 0)) (len := 1) (pc2 := 24) (lv2 := [(0, .ref 67), (1, .int x1), (2, .int x2)]) (st2 := [.ref 67, .int 6, .ref 67]) (h2 := (sh_rep m.T (sh_u2 m.I 66 42 ((m.I 66 42) + x1)) m.J)) rfl rfl rfl ?_
      refine sh_gR1 (len := 3) (x := .ref 70) (pc2 := 27) rfl rfl (sh_s66 hT.st) rfl rfl ?_
      refine sh_w (i := (.iload_n 2)) (len := 1) (pc2 := 28) (lv2 := [(0, .ref 67), (1, .int x1), (2, .int x2)]) (st2 := [.int x2, .ref 70, .int 6, .ref 67]) (h2 := (sh_rep m.T (sh_u2 m.I 66 42 ((m.I 66 42) + x1)) m.J)) rfl rfl rfl ?_
      exact kk
    obtain ⟨c, e⟩ := sh_gd e
    refine sh_Lk_lift (T := m.T) (I := sh_u2 m.I 66 42 ((m.I 66 42) + x1)) (J := m.J) (s := m.s) (pc2 := 29) (lv2 := [(0, .ref 67), (1, .int x1), (2, .int x2)]) (st2 := [.int (m.I 69 (Int32.toNatClampNeg x2)), .int 6, .ref 67]) (I2 := sh_u2 m.I 66 42 ((m.I 66 42) + x1)) (J2 := m.J) (fun hT v kk => ?_) ?_
    · refine sh_ia1 (x := m.I 69 (Int32.toNatClampNeg x2)) (pc2 := 29) rfl (sh_s69 hT.st) (sh_okb1 c) (sh_okb2 c) rfl rfl ?_
      exact kk
    obtain ⟨r1, m11, e1, e⟩ := sh_bn_e e
    refine sh_Lk_cV (r := (some (.int (sh_b2 r1)))) (st2 := [.int (sh_b2 r1)]) (pc2 := 32) (k2 := 252) (a := 66) (as := [.ref 67, .int 6, .int (m.I 69 (Int32.toNatClampNeg x2))]) (rest := []) rfl rfl rfl (fun hT => (sh_s66 hT.st)) rfl rfl ⟨Nat.le_of_ble_eq_true rfl, Nat.le_of_ble_eq_true rfl⟩ (sl_252 e1 ⟨rfl, rfl⟩) rfl rfl (Nat.le_of_ble_eq_true rfl) (Nat.le_of_ble_eq_true rfl) ?_
    rcases sh_ite e with ⟨c, e⟩ | ⟨c, e⟩
    · refine sh_Lk_lift (T := m11.T) (I := m11.I) (J := m11.J) (s := m11.s) (pc2 := 35) (lv2 := [(0, .ref 67), (1, .int x1), (2, .int x2)]) (st2 := []) (I2 := m11.I) (J2 := m11.J) (fun hT v kk => ?_) ?_
      · refine sh_j0 (c := .eq) (off := (7)) (pc2 := 35) false rfl (sh_Zeqf c) rfl ?_
        exact kk
      exact sh_Lk_sub (sh_sub_n) (sl_292_35 e tg)
    · refine sh_Lk_lift (T := m11.T) (I := m11.I) (J := m11.J) (s := m11.s) (pc2 := 40) (lv2 := [(0, .ref 67), (1, .int x1), (2, .int x2)]) (st2 := [.int 0]) (I2 := m11.I) (J2 := m11.J) (fun hT v kk => ?_) ?_
      · refine sh_j0 (c := .eq) (off := (7)) (pc2 := 39) true rfl (sh_Zeqt c) rfl ?_
        refine sh_w (i := (.iconst 0)) (len := 1) (pc2 := 40) (lv2 := [(0, .ref 67), (1, .int x1), (2, .int x2)]) (st2 := [.int 0]) (h2 := (sh_rep m11.T m11.I m11.J)) rfl rfl rfl ?_
        exact kk
      obtain rfl := Option.some.inj e
      obtain ⟨rfl, rfl⟩ := tg
      exact sh_Lk_ret (i := .ireturn) rfl rfl rfl (Nat.le_of_ble_eq_true rfl) (Nat.le_of_ble_eq_true rfl)
  · refine sh_Lk_lift (T := m.T) (I := sh_u2 m.I 66 42 ((m.I 66 42) + x1)) (J := m.J) (s := m.s) (pc2 := 35) (lv2 := [(0, .ref 67), (1, .int x1), (2, .int x2)]) (st2 := []) (I2 := sh_u2 m.I 66 42 ((m.I 66 42) + x1)) (J2 := m.J) (fun hT v kk => ?_) ?_
    · refine sh_jc (c := .le) (off := (18)) (pc2 := 35) true rfl (sh_Blet c) rfl ?_
      exact kk
    exact sh_Lk_sub (sh_sub_n) (sl_292_35 e tg)
theorem sl_295 {x1 : Int32} {m m2 : sh_X} {o : Outcome} {z : (Unit × sh_X)} (e : sf_295 x1 m = some z) (tg : (sh_tV o m2) z) : sh_Lk 295 0 [(0, .ref 67), (1, .int x1)] [] m o m2 8 200 := by
  unfold sf_295 at e
  refine sh_Lk_lift (T := m.T) (I := m.I) (J := m.J) (s := m.s) (pc2 := 9) (lv2 := [(0, .ref 67), (1, .int x1)]) (st2 := [.int x1, .int (m.I 66 73), .ref 106]) (I2 := m.I) (J2 := m.J) (fun hT v kk => ?_) ?_
  · refine sh_w (i := (.aload_n 0)) (len := 1) (pc2 := 1) (lv2 := [(0, .ref 67), (1, .int x1)]) (st2 := [.ref 67]) (h2 := (sh_rep m.T m.I m.J)) rfl rfl rfl ?_
    refine sh_gR1 (len := 3) (x := .ref 106) (pc2 := 4) rfl rfl (sh_s66 hT.st) rfl rfl ?_
    refine sh_w (i := (.aload_n 0)) (len := 1) (pc2 := 5) (lv2 := [(0, .ref 67), (1, .int x1)]) (st2 := [.ref 67, .ref 106]) (h2 := (sh_rep m.T m.I m.J)) rfl rfl rfl ?_
    refine sh_gI1 (len := 3) (x := m.I 66 73) (pc2 := 8) rfl rfl (sh_s66 hT.st) rfl rfl rfl ?_
    refine sh_w (i := (.iload_n 1)) (len := 1) (pc2 := 9) (lv2 := [(0, .ref 67), (1, .int x1)]) (st2 := [.int x1, .int (m.I 66 73), .ref 106]) (h2 := (sh_rep m.T m.I m.J)) rfl rfl rfl ?_
    exact kk
  obtain ⟨c, e⟩ := sh_gd e
  refine sh_Lk_lift (T := m.T) (I := m.I) (J := m.J) (s := m.s) (pc2 := 19) (lv2 := [(0, .ref 67), (1, .int x1)]) (st2 := [.int 0, .int (m.I 66 73), .ref 107]) (I2 := sh_u2 m.I 105 (Int32.toNatClampNeg (m.I 66 73)) x1) (J2 := m.J) (fun hT v kk => ?_) ?_
  · refine sh_is1 (x := x1) (i := m.I 66 73) (pc2 := 10) rfl (sh_s105 hT.st) (sh_okb1 c) (sh_okb2 c) rfl ?_
    refine sh_w (i := (.aload_n 0)) (len := 1) (pc2 := 11) (lv2 := [(0, .ref 67), (1, .int x1)]) (st2 := [.ref 67]) (h2 := (sh_rep m.T (sh_u2 m.I 105 (Int32.toNatClampNeg (m.I 66 73)) x1) m.J)) rfl rfl rfl ?_
    refine sh_gR1 (len := 3) (x := .ref 107) (pc2 := 14) rfl rfl (sh_s66 hT.st) rfl rfl ?_
    refine sh_w (i := (.aload_n 0)) (len := 1) (pc2 := 15) (lv2 := [(0, .ref 67), (1, .int x1)]) (st2 := [.ref 67, .ref 107]) (h2 := (sh_rep m.T (sh_u2 m.I 105 (Int32.toNatClampNeg (m.I 66 73)) x1) m.J)) rfl rfl rfl ?_
    refine sh_gI1 (len := 3) (x := m.I 66 73) (pc2 := 18) rfl rfl (sh_s66 hT.st) rfl rfl rfl ?_
    refine sh_w (i := (.iconst 0)) (len := 1) (pc2 := 19) (lv2 := [(0, .ref 67), (1, .int x1)]) (st2 := [.int 0, .int (m.I 66 73), .ref 107]) (h2 := (sh_rep m.T (sh_u2 m.I 105 (Int32.toNatClampNeg (m.I 66 73)) x1) m.J)) rfl rfl rfl ?_
    exact kk
  obtain ⟨c, e⟩ := sh_gd e
  refine sh_Lk_lift (T := m.T) (I := sh_u2 m.I 105 (Int32.toNatClampNeg (m.I 66 73)) x1) (J := m.J) (s := m.s) (pc2 := 30) (lv2 := [(0, .ref 67), (1, .int x1)]) (st2 := []) (I2 := sh_u2 (sh_u2 (sh_u2 m.I 105 (Int32.toNatClampNeg (m.I 66 73)) x1) 106 (Int32.toNatClampNeg (m.I 66 73)) 0) 66 73 ((m.I 66 73) + 1)) (J2 := m.J) (fun hT v kk => ?_) ?_
  · refine sh_is1 (x := 0) (i := m.I 66 73) (pc2 := 20) rfl (sh_s106 hT.st) (sh_okb1 c) (sh_okb2 c) rfl ?_
    refine sh_w (i := (.aload_n 0)) (len := 1) (pc2 := 21) (lv2 := [(0, .ref 67), (1, .int x1)]) (st2 := [.ref 67]) (h2 := (sh_rep m.T (sh_u2 (sh_u2 m.I 105 (Int32.toNatClampNeg (m.I 66 73)) x1) 106 (Int32.toNatClampNeg (m.I 66 73)) 0) m.J)) rfl rfl rfl ?_
    refine sh_w (i := .dup) (len := 1) (pc2 := 22) (lv2 := [(0, .ref 67), (1, .int x1)]) (st2 := [.ref 67, .ref 67]) (h2 := (sh_rep m.T (sh_u2 (sh_u2 m.I 105 (Int32.toNatClampNeg (m.I 66 73)) x1) 106 (Int32.toNatClampNeg (m.I 66 73)) 0) m.J)) rfl rfl rfl ?_
    refine sh_gI1 (len := 3) (x := m.I 66 73) (pc2 := 25) rfl rfl (sh_s66 hT.st) rfl rfl rfl ?_
    refine sh_w (i := (.iconst 1)) (len := 1) (pc2 := 26) (lv2 := [(0, .ref 67), (1, .int x1)]) (st2 := [.int 1, .int (m.I 66 73), .ref 67]) (h2 := (sh_rep m.T (sh_u2 (sh_u2 m.I 105 (Int32.toNatClampNeg (m.I 66 73)) x1) 106 (Int32.toNatClampNeg (m.I 66 73)) 0) m.J)) rfl rfl rfl ?_
    refine sh_w (i := .iadd) (len := 1) (pc2 := 27) (lv2 := [(0, .ref 67), (1, .int x1)]) (st2 := [.int ((m.I 66 73) + 1), .ref 67]) (h2 := (sh_rep m.T (sh_u2 (sh_u2 m.I 105 (Int32.toNatClampNeg (m.I 66 73)) x1) 106 (Int32.toNatClampNeg (m.I 66 73)) 0) m.J)) rfl rfl rfl ?_
    refine sh_pI1 (x := (m.I 66 73) + 1) (pc2 := 30) rfl rfl (sh_s66 hT.st) rfl rfl rfl rfl ?_
    exact kk
  obtain rfl := Option.some.inj e
  obtain ⟨rfl, rfl⟩ := tg
  exact sh_Lk_ret (i := .return_) rfl rfl rfl (Nat.le_of_ble_eq_true rfl) (Nat.le_of_ble_eq_true rfl)
theorem sl_300_25 {m m2 : sh_X} {o : Outcome} {z : Bool} (e : sf_300_25 = z) (tg : (sh_tZc m o m2) z) : sh_Lk 300 25 [] [] m o m2 8 200 := by
  unfold sf_300_25 at e
  refine sh_Lk_lift (T := m.T) (I := m.I) (J := m.J) (s := m.s) (pc2 := 30) (lv2 := []) (st2 := [.int 1]) (I2 := m.I) (J2 := m.J) (fun hT v kk => ?_) ?_
  · refine sh_w (i := (.iconst 1)) (len := 1) (pc2 := 26) (lv2 := []) (st2 := [.int 1]) (h2 := (sh_rep m.T m.I m.J)) rfl rfl rfl ?_
    refine sh_w (i := (.goto 4)) (len := 3) (pc2 := 30) (lv2 := []) (st2 := [.int 1]) (h2 := (sh_rep m.T m.I m.J)) rfl rfl rfl ?_
    exact kk
  obtain rfl := e
  obtain ⟨rfl, rfl⟩ := tg
  exact sh_Lk_ret (i := .ireturn) rfl rfl rfl (Nat.le_of_ble_eq_true rfl) (Nat.le_of_ble_eq_true rfl)
theorem sl_300_58 {m m2 : sh_X} {o : Outcome} {z : Bool} (e : sf_300_58 = z) (tg : (sh_tZc m o m2) z) : sh_Lk 300 58 [] [] m o m2 8 200 := by
  unfold sf_300_58 at e
  refine sh_Lk_lift (T := m.T) (I := m.I) (J := m.J) (s := m.s) (pc2 := 63) (lv2 := []) (st2 := [.int 1]) (I2 := m.I) (J2 := m.J) (fun hT v kk => ?_) ?_
  · refine sh_w (i := (.iconst 1)) (len := 1) (pc2 := 59) (lv2 := []) (st2 := [.int 1]) (h2 := (sh_rep m.T m.I m.J)) rfl rfl rfl ?_
    refine sh_w (i := (.goto 4)) (len := 3) (pc2 := 63) (lv2 := []) (st2 := [.int 1]) (h2 := (sh_rep m.T m.I m.J)) rfl rfl rfl ?_
    exact kk
  obtain rfl := e
  obtain ⟨rfl, rfl⟩ := tg
  exact sh_Lk_ret (i := .ireturn) rfl rfl rfl (Nat.le_of_ble_eq_true rfl) (Nat.le_of_ble_eq_true rfl)
theorem sl_300 {x0 : Int32} {x1 : Int32} {x2 : Int64} {m m2 : sh_X} {o : Outcome} {z : Bool} (e : sf_300 x0 x1 x2 = z) (tg : (sh_tZc m o m2) z) : sh_Lk 300 0 [(0, .int x0), (1, .int x1), (2, .long x2)] [] m o m2 8 200 := by
  unfold sf_300 at e
  refine sh_Lk_lift (T := m.T) (I := m.I) (J := m.J) (s := m.s) (pc2 := 2) (lv2 := [(0, .int x0), (1, .int x1), (2, .long x2)]) (st2 := [.int 1, .int x0]) (I2 := m.I) (J2 := m.J) (fun hT v kk => ?_) ?_
  · refine sh_w (i := (.iload_n 0)) (len := 1) (pc2 := 1) (lv2 := [(0, .int x0), (1, .int x1), (2, .long x2)]) (st2 := [.int x0]) (h2 := (sh_rep m.T m.I m.J)) rfl rfl rfl ?_
    refine sh_w (i := (.iconst 1)) (len := 1) (pc2 := 2) (lv2 := [(0, .int x0), (1, .int x1), (2, .long x2)]) (st2 := [.int 1, .int x0]) (h2 := (sh_rep m.T m.I m.J)) rfl rfl rfl ?_
    exact kk
  rcases sh_ite e with ⟨c, e⟩ | ⟨c, e⟩
  · refine sh_Lk_lift (T := m.T) (I := m.I) (J := m.J) (s := m.s) (pc2 := 8) (lv2 := [(0, .int x0), (1, .int x1), (2, .long x2)]) (st2 := [.int (lg_cmp x2 0)]) (I2 := m.I) (J2 := m.J) (fun hT v kk => ?_) ?_
    · refine sh_jc (c := .ne) (off := (29)) (pc2 := 5) false rfl (sh_Bnef c) rfl ?_
      refine sh_w (i := (.lload_n 2)) (len := 1) (pc2 := 6) (lv2 := [(0, .int x0), (1, .int x1), (2, .long x2)]) (st2 := [.long x2]) (h2 := (sh_rep m.T m.I m.J)) rfl rfl rfl ?_
      refine sh_w (i := (.lconst 0)) (len := 1) (pc2 := 7) (lv2 := [(0, .int x0), (1, .int x1), (2, .long x2)]) (st2 := [.long 0, .long x2]) (h2 := (sh_rep m.T m.I m.J)) rfl rfl rfl ?_
      refine sh_w (i := .lcmp) (len := 1) (pc2 := 8) (lv2 := [(0, .int x0), (1, .int x1), (2, .long x2)]) (st2 := [.int (lg_cmp x2 0)]) (h2 := (sh_rep m.T m.I m.J)) rfl rfl rfl ?_
      exact kk
    rcases sh_ite e with ⟨c, e⟩ | ⟨c, e⟩
    · refine sh_Lk_lift (T := m.T) (I := m.I) (J := m.J) (s := m.s) (pc2 := 30) (lv2 := [(0, .int x0), (1, .int x1), (2, .long x2)]) (st2 := [.int 0]) (I2 := m.I) (J2 := m.J) (fun hT v kk => ?_) ?_
      · refine sh_j0 (c := .lt) (off := (21)) (pc2 := 29) true rfl (sh_Cltt c) rfl ?_
        refine sh_w (i := (.iconst 0)) (len := 1) (pc2 := 30) (lv2 := [(0, .int x0), (1, .int x1), (2, .long x2)]) (st2 := [.int 0]) (h2 := (sh_rep m.T m.I m.J)) rfl rfl rfl ?_
        exact kk
      obtain rfl := e
      obtain ⟨rfl, rfl⟩ := tg
      exact sh_Lk_ret (i := .ireturn) rfl rfl rfl (Nat.le_of_ble_eq_true rfl) (Nat.le_of_ble_eq_true rfl)
    · refine sh_Lk_lift (T := m.T) (I := m.I) (J := m.J) (s := m.s) (pc2 := 14) (lv2 := [(0, .int x0), (1, .int x1), (2, .long x2)]) (st2 := [.int 60, .int x1]) (I2 := m.I) (J2 := m.J) (fun hT v kk => ?_) ?_
      · refine sh_j0 (c := .lt) (off := (21)) (pc2 := 11) false rfl (sh_Cltf c) rfl ?_
        refine sh_w (i := (.iload_n 1)) (len := 1) (pc2 := 12) (lv2 := [(0, .int x0), (1, .int x1), (2, .long x2)]) (st2 := [.int x1]) (h2 := (sh_rep m.T m.I m.J)) rfl rfl rfl ?_
        refine sh_w (i := (.bipush 60)) (len := 2) (pc2 := 14) (lv2 := [(0, .int x0), (1, .int x1), (2, .long x2)]) (st2 := [.int 60, .int x1]) (h2 := (sh_rep m.T m.I m.J)) rfl rfl rfl ?_
        exact kk
      rcases sh_ite e with ⟨c, e⟩ | ⟨c, e⟩
      · refine sh_Lk_lift (T := m.T) (I := m.I) (J := m.J) (s := m.s) (pc2 := 22) (lv2 := [(0, .int x0), (1, .int x1), (2, .long x2)]) (st2 := [.int (lg_cmp x2 ((1 : Int64) <<< (Int32.toInt64 x1 &&& 63)))]) (I2 := m.I) (J2 := m.J) (fun hT v kk => ?_) ?_
        · refine sh_jc (c := .ge) (off := (11)) (pc2 := 17) false rfl (sh_Bgef c) rfl ?_
          refine sh_w (i := (.lload_n 2)) (len := 1) (pc2 := 18) (lv2 := [(0, .int x0), (1, .int x1), (2, .long x2)]) (st2 := [.long x2]) (h2 := (sh_rep m.T m.I m.J)) rfl rfl rfl ?_
          refine sh_w (i := (.lconst 1)) (len := 1) (pc2 := 19) (lv2 := [(0, .int x0), (1, .int x1), (2, .long x2)]) (st2 := [.long 1, .long x2]) (h2 := (sh_rep m.T m.I m.J)) rfl rfl rfl ?_
          refine sh_w (i := (.iload_n 1)) (len := 1) (pc2 := 20) (lv2 := [(0, .int x0), (1, .int x1), (2, .long x2)]) (st2 := [.int x1, .long 1, .long x2]) (h2 := (sh_rep m.T m.I m.J)) rfl rfl rfl ?_
          refine sh_w (i := .lshl) (len := 1) (pc2 := 21) (lv2 := [(0, .int x0), (1, .int x1), (2, .long x2)]) (st2 := [.long ((1 : Int64) <<< (Int32.toInt64 x1 &&& 63)), .long x2]) (h2 := (sh_rep m.T m.I m.J)) rfl rfl rfl ?_
          refine sh_w (i := .lcmp) (len := 1) (pc2 := 22) (lv2 := [(0, .int x0), (1, .int x1), (2, .long x2)]) (st2 := [.int (lg_cmp x2 ((1 : Int64) <<< (Int32.toInt64 x1 &&& 63)))]) (h2 := (sh_rep m.T m.I m.J)) rfl rfl rfl ?_
          exact kk
        rcases sh_ite e with ⟨c, e⟩ | ⟨c, e⟩
        · refine sh_Lk_lift (T := m.T) (I := m.I) (J := m.J) (s := m.s) (pc2 := 25) (lv2 := [(0, .int x0), (1, .int x1), (2, .long x2)]) (st2 := []) (I2 := m.I) (J2 := m.J) (fun hT v kk => ?_) ?_
          · refine sh_j0 (c := .ge) (off := (7)) (pc2 := 25) false rfl (sh_Cgef c) rfl ?_
            exact kk
          exact sh_Lk_sub (sh_sub_n) (sl_300_25 e tg)
        · refine sh_Lk_lift (T := m.T) (I := m.I) (J := m.J) (s := m.s) (pc2 := 30) (lv2 := [(0, .int x0), (1, .int x1), (2, .long x2)]) (st2 := [.int 0]) (I2 := m.I) (J2 := m.J) (fun hT v kk => ?_) ?_
          · refine sh_j0 (c := .ge) (off := (7)) (pc2 := 29) true rfl (sh_Cget c) rfl ?_
            refine sh_w (i := (.iconst 0)) (len := 1) (pc2 := 30) (lv2 := [(0, .int x0), (1, .int x1), (2, .long x2)]) (st2 := [.int 0]) (h2 := (sh_rep m.T m.I m.J)) rfl rfl rfl ?_
            exact kk
          obtain rfl := e
          obtain ⟨rfl, rfl⟩ := tg
          exact sh_Lk_ret (i := .ireturn) rfl rfl rfl (Nat.le_of_ble_eq_true rfl) (Nat.le_of_ble_eq_true rfl)
      · refine sh_Lk_lift (T := m.T) (I := m.I) (J := m.J) (s := m.s) (pc2 := 25) (lv2 := [(0, .int x0), (1, .int x1), (2, .long x2)]) (st2 := []) (I2 := m.I) (J2 := m.J) (fun hT v kk => ?_) ?_
        · refine sh_jc (c := .ge) (off := (11)) (pc2 := 25) true rfl (sh_Bget c) rfl ?_
          exact kk
        exact sh_Lk_sub (sh_sub_n) (sl_300_25 e tg)
  · refine sh_Lk_lift (T := m.T) (I := m.I) (J := m.J) (s := m.s) (pc2 := 34) (lv2 := [(0, .int x0), (1, .int x1), (2, .long x2)]) (st2 := [.int 60, .int x1]) (I2 := m.I) (J2 := m.J) (fun hT v kk => ?_) ?_
    · refine sh_jc (c := .ne) (off := (29)) (pc2 := 31) true rfl (sh_Bnet c) rfl ?_
      refine sh_w (i := (.iload_n 1)) (len := 1) (pc2 := 32) (lv2 := [(0, .int x0), (1, .int x1), (2, .long x2)]) (st2 := [.int x1]) (h2 := (sh_rep m.T m.I m.J)) rfl rfl rfl ?_
      refine sh_w (i := (.bipush 60)) (len := 2) (pc2 := 34) (lv2 := [(0, .int x0), (1, .int x1), (2, .long x2)]) (st2 := [.int 60, .int x1]) (h2 := (sh_rep m.T m.I m.J)) rfl rfl rfl ?_
      exact kk
    rcases sh_ite e with ⟨c, e⟩ | ⟨c, e⟩
    · refine sh_Lk_lift (T := m.T) (I := m.I) (J := m.J) (s := m.s) (pc2 := 58) (lv2 := [(0, .int x0), (1, .int x1), (2, .long x2)]) (st2 := []) (I2 := m.I) (J2 := m.J) (fun hT v kk => ?_) ?_
      · refine sh_jc (c := .gt) (off := (24)) (pc2 := 58) true rfl (sh_Bgtt c) rfl ?_
        exact kk
      exact sh_Lk_sub (sh_sub_n) (sl_300_58 e tg)
    · refine sh_Lk_lift (T := m.T) (I := m.I) (J := m.J) (s := m.s) (pc2 := 45) (lv2 := [(0, .int x0), (1, .int x1), (2, .long x2)]) (st2 := [.int (lg_cmp x2 (-((1 : Int64) <<< (Int32.toInt64 (x1 - 1) &&& 63))))]) (I2 := m.I) (J2 := m.J) (fun hT v kk => ?_) ?_
      · refine sh_jc (c := .gt) (off := (24)) (pc2 := 37) false rfl (sh_Bgtf c) rfl ?_
        refine sh_w (i := (.lload_n 2)) (len := 1) (pc2 := 38) (lv2 := [(0, .int x0), (1, .int x1), (2, .long x2)]) (st2 := [.long x2]) (h2 := (sh_rep m.T m.I m.J)) rfl rfl rfl ?_
        refine sh_w (i := (.lconst 1)) (len := 1) (pc2 := 39) (lv2 := [(0, .int x0), (1, .int x1), (2, .long x2)]) (st2 := [.long 1, .long x2]) (h2 := (sh_rep m.T m.I m.J)) rfl rfl rfl ?_
        refine sh_w (i := (.iload_n 1)) (len := 1) (pc2 := 40) (lv2 := [(0, .int x0), (1, .int x1), (2, .long x2)]) (st2 := [.int x1, .long 1, .long x2]) (h2 := (sh_rep m.T m.I m.J)) rfl rfl rfl ?_
        refine sh_w (i := (.iconst 1)) (len := 1) (pc2 := 41) (lv2 := [(0, .int x0), (1, .int x1), (2, .long x2)]) (st2 := [.int 1, .int x1, .long 1, .long x2]) (h2 := (sh_rep m.T m.I m.J)) rfl rfl rfl ?_
        refine sh_w (i := .isub) (len := 1) (pc2 := 42) (lv2 := [(0, .int x0), (1, .int x1), (2, .long x2)]) (st2 := [.int (x1 - 1), .long 1, .long x2]) (h2 := (sh_rep m.T m.I m.J)) rfl rfl rfl ?_
        refine sh_w (i := .lshl) (len := 1) (pc2 := 43) (lv2 := [(0, .int x0), (1, .int x1), (2, .long x2)]) (st2 := [.long ((1 : Int64) <<< (Int32.toInt64 (x1 - 1) &&& 63)), .long x2]) (h2 := (sh_rep m.T m.I m.J)) rfl rfl rfl ?_
        refine sh_w (i := .lneg) (len := 1) (pc2 := 44) (lv2 := [(0, .int x0), (1, .int x1), (2, .long x2)]) (st2 := [.long (-((1 : Int64) <<< (Int32.toInt64 (x1 - 1) &&& 63))), .long x2]) (h2 := (sh_rep m.T m.I m.J)) rfl rfl rfl ?_
        refine sh_w (i := .lcmp) (len := 1) (pc2 := 45) (lv2 := [(0, .int x0), (1, .int x1), (2, .long x2)]) (st2 := [.int (lg_cmp x2 (-((1 : Int64) <<< (Int32.toInt64 (x1 - 1) &&& 63))))]) (h2 := (sh_rep m.T m.I m.J)) rfl rfl rfl ?_
        exact kk
      rcases sh_ite e with ⟨c, e⟩ | ⟨c, e⟩
      · refine sh_Lk_lift (T := m.T) (I := m.I) (J := m.J) (s := m.s) (pc2 := 63) (lv2 := [(0, .int x0), (1, .int x1), (2, .long x2)]) (st2 := [.int 0]) (I2 := m.I) (J2 := m.J) (fun hT v kk => ?_) ?_
        · refine sh_j0 (c := .lt) (off := (17)) (pc2 := 62) true rfl (sh_Cltt c) rfl ?_
          refine sh_w (i := (.iconst 0)) (len := 1) (pc2 := 63) (lv2 := [(0, .int x0), (1, .int x1), (2, .long x2)]) (st2 := [.int 0]) (h2 := (sh_rep m.T m.I m.J)) rfl rfl rfl ?_
          exact kk
        obtain rfl := e
        obtain ⟨rfl, rfl⟩ := tg
        exact sh_Lk_ret (i := .ireturn) rfl rfl rfl (Nat.le_of_ble_eq_true rfl) (Nat.le_of_ble_eq_true rfl)
      · refine sh_Lk_lift (T := m.T) (I := m.I) (J := m.J) (s := m.s) (pc2 := 55) (lv2 := [(0, .int x0), (1, .int x1), (2, .long x2)]) (st2 := [.int (lg_cmp x2 ((1 : Int64) <<< (Int32.toInt64 (x1 - 1) &&& 63)))]) (I2 := m.I) (J2 := m.J) (fun hT v kk => ?_) ?_
        · refine sh_j0 (c := .lt) (off := (17)) (pc2 := 48) false rfl (sh_Cltf c) rfl ?_
          refine sh_w (i := (.lload_n 2)) (len := 1) (pc2 := 49) (lv2 := [(0, .int x0), (1, .int x1), (2, .long x2)]) (st2 := [.long x2]) (h2 := (sh_rep m.T m.I m.J)) rfl rfl rfl ?_
          refine sh_w (i := (.lconst 1)) (len := 1) (pc2 := 50) (lv2 := [(0, .int x0), (1, .int x1), (2, .long x2)]) (st2 := [.long 1, .long x2]) (h2 := (sh_rep m.T m.I m.J)) rfl rfl rfl ?_
          refine sh_w (i := (.iload_n 1)) (len := 1) (pc2 := 51) (lv2 := [(0, .int x0), (1, .int x1), (2, .long x2)]) (st2 := [.int x1, .long 1, .long x2]) (h2 := (sh_rep m.T m.I m.J)) rfl rfl rfl ?_
          refine sh_w (i := (.iconst 1)) (len := 1) (pc2 := 52) (lv2 := [(0, .int x0), (1, .int x1), (2, .long x2)]) (st2 := [.int 1, .int x1, .long 1, .long x2]) (h2 := (sh_rep m.T m.I m.J)) rfl rfl rfl ?_
          refine sh_w (i := .isub) (len := 1) (pc2 := 53) (lv2 := [(0, .int x0), (1, .int x1), (2, .long x2)]) (st2 := [.int (x1 - 1), .long 1, .long x2]) (h2 := (sh_rep m.T m.I m.J)) rfl rfl rfl ?_
          refine sh_w (i := .lshl) (len := 1) (pc2 := 54) (lv2 := [(0, .int x0), (1, .int x1), (2, .long x2)]) (st2 := [.long ((1 : Int64) <<< (Int32.toInt64 (x1 - 1) &&& 63)), .long x2]) (h2 := (sh_rep m.T m.I m.J)) rfl rfl rfl ?_
          refine sh_w (i := .lcmp) (len := 1) (pc2 := 55) (lv2 := [(0, .int x0), (1, .int x1), (2, .long x2)]) (st2 := [.int (lg_cmp x2 ((1 : Int64) <<< (Int32.toInt64 (x1 - 1) &&& 63)))]) (h2 := (sh_rep m.T m.I m.J)) rfl rfl rfl ?_
          exact kk
        rcases sh_ite e with ⟨c, e⟩ | ⟨c, e⟩
        · refine sh_Lk_lift (T := m.T) (I := m.I) (J := m.J) (s := m.s) (pc2 := 58) (lv2 := [(0, .int x0), (1, .int x1), (2, .long x2)]) (st2 := []) (I2 := m.I) (J2 := m.J) (fun hT v kk => ?_) ?_
          · refine sh_j0 (c := .ge) (off := (7)) (pc2 := 58) false rfl (sh_Cgef c) rfl ?_
            exact kk
          exact sh_Lk_sub (sh_sub_n) (sl_300_58 e tg)
        · refine sh_Lk_lift (T := m.T) (I := m.I) (J := m.J) (s := m.s) (pc2 := 63) (lv2 := [(0, .int x0), (1, .int x1), (2, .long x2)]) (st2 := [.int 0]) (I2 := m.I) (J2 := m.J) (fun hT v kk => ?_) ?_
          · refine sh_j0 (c := .ge) (off := (7)) (pc2 := 62) true rfl (sh_Cget c) rfl ?_
            refine sh_w (i := (.iconst 0)) (len := 1) (pc2 := 63) (lv2 := [(0, .int x0), (1, .int x1), (2, .long x2)]) (st2 := [.int 0]) (h2 := (sh_rep m.T m.I m.J)) rfl rfl rfl ?_
            exact kk
          obtain rfl := e
          obtain ⟨rfl, rfl⟩ := tg
          exact sh_Lk_ret (i := .ireturn) rfl rfl rfl (Nat.le_of_ble_eq_true rfl) (Nat.le_of_ble_eq_true rfl)
theorem sl_299_27 {x1 : Int32} {m m2 : sh_X} {o : Outcome} {z : (Bool × sh_X)} (e : sf_299_27 x1 m = some z) (tg : (sh_tZ o m2) z) : sh_Lk 299 27 [(0, .ref 67), (1, .int x1)] [] m o m2 10 244 := by
  unfold sf_299_27 at e
  refine sh_Lk_lift (T := m.T) (I := m.I) (J := m.J) (s := m.s) (pc2 := 38) (lv2 := [(0, .ref 67), (1, .int x1)]) (st2 := [.int x1, .ref 74, .ref 70, .int 5, .ref 67]) (I2 := m.I) (J2 := m.J) (fun hT v kk => ?_) ?_
  · refine sh_w (i := (.aload_n 0)) (len := 1) (pc2 := 28) (lv2 := [(0, .ref 67), (1, .int x1)]) (st2 := [.ref 67]) (h2 := (sh_rep m.T m.I m.J)) rfl rfl rfl ?_
    refine sh_w (i := (.iconst 5)) (len := 1) (pc2 := 29) (lv2 := [(0, .ref 67), (1, .int x1)]) (st2 := [.int 5, .ref 67]) (h2 := (sh_rep m.T m.I m.J)) rfl rfl rfl ?_
    refine sh_w (i := (.aload_n 0)) (len := 1) (pc2 := 30) (lv2 := [(0, .ref 67), (1, .int x1)]) (st2 := [.ref 67, .int 5, .ref 67]) (h2 := (sh_rep m.T m.I m.J)) rfl rfl rfl ?_
    refine sh_gR1 (len := 3) (x := .ref 70) (pc2 := 33) rfl rfl (sh_s66 hT.st) rfl rfl ?_
    refine sh_w (i := (.aload_n 0)) (len := 1) (pc2 := 34) (lv2 := [(0, .ref 67), (1, .int x1)]) (st2 := [.ref 67, .ref 70, .int 5, .ref 67]) (h2 := (sh_rep m.T m.I m.J)) rfl rfl rfl ?_
    refine sh_gR1 (len := 3) (x := .ref 74) (pc2 := 37) rfl rfl (sh_s66 hT.st) rfl rfl ?_
    refine sh_w (i := (.iload_n 1)) (len := 1) (pc2 := 38) (lv2 := [(0, .ref 67), (1, .int x1)]) (st2 := [.int x1, .ref 74, .ref 70, .int 5, .ref 67]) (h2 := (sh_rep m.T m.I m.J)) rfl rfl rfl ?_
    exact kk
  obtain ⟨c, e⟩ := sh_gd e
  refine sh_Lk_lift (T := m.T) (I := m.I) (J := m.J) (s := m.s) (pc2 := 39) (lv2 := [(0, .ref 67), (1, .int x1)]) (st2 := [.int (m.I 73 (Int32.toNatClampNeg x1)), .ref 70, .int 5, .ref 67]) (I2 := m.I) (J2 := m.J) (fun hT v kk => ?_) ?_
  · refine sh_ia1 (x := m.I 73 (Int32.toNatClampNeg x1)) (pc2 := 39) rfl (sh_s73 hT.st) (sh_okb1 c) (sh_okb2 c) rfl rfl ?_
    exact kk
  obtain ⟨c, e⟩ := sh_gd e
  refine sh_Lk_lift (T := m.T) (I := m.I) (J := m.J) (s := m.s) (pc2 := 40) (lv2 := [(0, .ref 67), (1, .int x1)]) (st2 := [.int (m.I 69 (Int32.toNatClampNeg (m.I 73 (Int32.toNatClampNeg x1)))), .int 5, .ref 67]) (I2 := m.I) (J2 := m.J) (fun hT v kk => ?_) ?_
  · refine sh_ia1 (x := m.I 69 (Int32.toNatClampNeg (m.I 73 (Int32.toNatClampNeg x1)))) (pc2 := 40) rfl (sh_s69 hT.st) (sh_okb1 c) (sh_okb2 c) rfl rfl ?_
    exact kk
  obtain ⟨r1, m11, e1, e⟩ := sh_bn_e e
  refine sh_Lk_cV (r := (some (.int (sh_b2 r1)))) (st2 := [.int (sh_b2 r1)]) (pc2 := 43) (k2 := 252) (a := 66) (as := [.ref 67, .int 5, .int (m.I 69 (Int32.toNatClampNeg (m.I 73 (Int32.toNatClampNeg x1))))]) (rest := []) rfl rfl rfl (fun hT => (sh_s66 hT.st)) rfl rfl ⟨Nat.le_of_ble_eq_true rfl, Nat.le_of_ble_eq_true rfl⟩ (sl_252 e1 ⟨rfl, rfl⟩) rfl rfl (Nat.le_of_ble_eq_true rfl) (Nat.le_of_ble_eq_true rfl) ?_
  obtain rfl := Option.some.inj e
  obtain ⟨rfl, rfl⟩ := tg
  exact sh_Lk_ret (i := .ireturn) rfl rfl (sh_rb rfl _) (Nat.le_of_ble_eq_true rfl) (Nat.le_of_ble_eq_true rfl)
theorem sl_299_15 {x1 : Int32} {x2 : Int32} {x3 : Int32} {m m2 : sh_X} {o : Outcome} {z : (Bool × sh_X)} (e : sf_299_15 x1 x2 x3 m = some z) (tg : (sh_tZ o m2) z) : sh_Lk 299 15 [(0, .ref 67), (1, .int x1), (2, .int x2), (3, .int x3)] [] m o m2 10 244 := by
  unfold sf_299_15 at e
  refine sh_Lk_lift (T := m.T) (I := m.I) (J := m.J) (s := m.s) (pc2 := 21) (lv2 := [(0, .ref 67), (1, .int x1), (2, .int x2), (3, .int x3)]) (st2 := [.long (m.J 66 46), .int x3, .int x2]) (I2 := m.I) (J2 := m.J) (fun hT v kk => ?_) ?_
  · refine sh_w (i := (.iload_n 2)) (len := 1) (pc2 := 16) (lv2 := [(0, .ref 67), (1, .int x1), (2, .int x2), (3, .int x3)]) (st2 := [.int x2]) (h2 := (sh_rep m.T m.I m.J)) rfl rfl rfl ?_
    refine sh_w (i := (.iload_n 3)) (len := 1) (pc2 := 17) (lv2 := [(0, .ref 67), (1, .int x1), (2, .int x2), (3, .int x3)]) (st2 := [.int x3, .int x2]) (h2 := (sh_rep m.T m.I m.J)) rfl rfl rfl ?_
    refine sh_w (i := (.aload_n 0)) (len := 1) (pc2 := 18) (lv2 := [(0, .ref 67), (1, .int x1), (2, .int x2), (3, .int x3)]) (st2 := [.ref 67, .int x3, .int x2]) (h2 := (sh_rep m.T m.I m.J)) rfl rfl rfl ?_
    refine sh_gJ1 (len := 3) (x := m.J 66 46) (pc2 := 21) rfl rfl (sh_s66 hT.st) rfl rfl rfl ?_
    exact kk
  refine sh_Lk_cS (r := (some (.int (sh_b2 (sf_300 x2 x3 (m.J 66 46)))))) (st2 := [.int (sh_b2 (sf_300 x2 x3 (m.J 66 46)))]) (pc2 := 24) (k2 := 300) (as := [.int x2, .int x3, .long (m.J 66 46)]) (rest := []) rfl rfl (by decide) (Nat.le_of_ble_eq_true rfl) rfl rfl ⟨Nat.le_of_ble_eq_true rfl, Nat.le_of_ble_eq_true rfl⟩ (sl_300 (m := m) rfl ⟨rfl, rfl⟩) rfl rfl (Nat.le_of_ble_eq_true rfl) (Nat.le_of_ble_eq_true rfl) ?_
  rcases sh_ite e with ⟨c, e⟩ | ⟨c, e⟩
  · refine sh_Lk_lift (T := m.T) (I := m.I) (J := m.J) (s := m.s) (pc2 := 66) (lv2 := [(0, .ref 67), (1, .int x1), (2, .int x2), (3, .int x3)]) (st2 := [.int x1, .ref 74, .int x3, .ref 67]) (I2 := sh_u2 (sh_u2 (sh_u2 m.I 66 43 x2) 66 44 x3) 66 45 0) (J2 := m.J) (fun hT v kk => ?_) ?_
    · refine sh_j0 (c := .ne) (off := (20)) (pc2 := 44) true rfl (sh_Znet c) rfl ?_
      refine sh_w (i := (.aload_n 0)) (len := 1) (pc2 := 45) (lv2 := [(0, .ref 67), (1, .int x1), (2, .int x2), (3, .int x3)]) (st2 := [.ref 67]) (h2 := (sh_rep m.T m.I m.J)) rfl rfl rfl ?_
      refine sh_w (i := (.iload_n 2)) (len := 1) (pc2 := 46) (lv2 := [(0, .ref 67), (1, .int x1), (2, .int x2), (3, .int x3)]) (st2 := [.int x2, .ref 67]) (h2 := (sh_rep m.T m.I m.J)) rfl rfl rfl ?_
      refine sh_pI1 (x := x2) (pc2 := 49) rfl rfl (sh_s66 hT.st) rfl rfl rfl rfl ?_
      refine sh_w (i := (.aload_n 0)) (len := 1) (pc2 := 50) (lv2 := [(0, .ref 67), (1, .int x1), (2, .int x2), (3, .int x3)]) (st2 := [.ref 67]) (h2 := (sh_rep m.T (sh_u2 m.I 66 43 x2) m.J)) rfl rfl rfl ?_
      refine sh_w (i := (.iload_n 3)) (len := 1) (pc2 := 51) (lv2 := [(0, .ref 67), (1, .int x1), (2, .int x2), (3, .int x3)]) (st2 := [.int x3, .ref 67]) (h2 := (sh_rep m.T (sh_u2 m.I 66 43 x2) m.J)) rfl rfl rfl ?_
      refine sh_pI1 (x := x3) (pc2 := 54) rfl rfl (sh_s66 hT.st) rfl rfl rfl rfl ?_
      refine sh_w (i := (.aload_n 0)) (len := 1) (pc2 := 55) (lv2 := [(0, .ref 67), (1, .int x1), (2, .int x2), (3, .int x3)]) (st2 := [.ref 67]) (h2 := (sh_rep m.T (sh_u2 (sh_u2 m.I 66 43 x2) 66 44 x3) m.J)) rfl rfl rfl ?_
      refine sh_w (i := (.iconst 0)) (len := 1) (pc2 := 56) (lv2 := [(0, .ref 67), (1, .int x1), (2, .int x2), (3, .int x3)]) (st2 := [.int 0, .ref 67]) (h2 := (sh_rep m.T (sh_u2 (sh_u2 m.I 66 43 x2) 66 44 x3) m.J)) rfl rfl rfl ?_
      refine sh_pI1 (x := 0) (pc2 := 59) rfl rfl (sh_s66 hT.st) rfl rfl rfl rfl ?_
      refine sh_w (i := (.aload_n 0)) (len := 1) (pc2 := 60) (lv2 := [(0, .ref 67), (1, .int x1), (2, .int x2), (3, .int x3)]) (st2 := [.ref 67]) (h2 := (sh_rep m.T (sh_u2 (sh_u2 (sh_u2 m.I 66 43 x2) 66 44 x3) 66 45 0) m.J)) rfl rfl rfl ?_
      refine sh_w (i := (.iload_n 3)) (len := 1) (pc2 := 61) (lv2 := [(0, .ref 67), (1, .int x1), (2, .int x2), (3, .int x3)]) (st2 := [.int x3, .ref 67]) (h2 := (sh_rep m.T (sh_u2 (sh_u2 (sh_u2 m.I 66 43 x2) 66 44 x3) 66 45 0) m.J)) rfl rfl rfl ?_
      refine sh_w (i := (.aload_n 0)) (len := 1) (pc2 := 62) (lv2 := [(0, .ref 67), (1, .int x1), (2, .int x2), (3, .int x3)]) (st2 := [.ref 67, .int x3, .ref 67]) (h2 := (sh_rep m.T (sh_u2 (sh_u2 (sh_u2 m.I 66 43 x2) 66 44 x3) 66 45 0) m.J)) rfl rfl rfl ?_
      refine sh_gR1 (len := 3) (x := .ref 74) (pc2 := 65) rfl rfl (sh_s66 hT.st) rfl rfl ?_
      refine sh_w (i := (.iload_n 1)) (len := 1) (pc2 := 66) (lv2 := [(0, .ref 67), (1, .int x1), (2, .int x2), (3, .int x3)]) (st2 := [.int x1, .ref 74, .int x3, .ref 67]) (h2 := (sh_rep m.T (sh_u2 (sh_u2 (sh_u2 m.I 66 43 x2) 66 44 x3) 66 45 0) m.J)) rfl rfl rfl ?_
      exact kk
    obtain ⟨c, e⟩ := sh_gd e
    refine sh_Lk_lift (T := m.T) (I := sh_u2 (sh_u2 (sh_u2 m.I 66 43 x2) 66 44 x3) 66 45 0) (J := m.J) (s := m.s) (pc2 := 67) (lv2 := [(0, .ref 67), (1, .int x1), (2, .int x2), (3, .int x3)]) (st2 := [.int (m.I 73 (Int32.toNatClampNeg x1)), .int x3, .ref 67]) (I2 := sh_u2 (sh_u2 (sh_u2 m.I 66 43 x2) 66 44 x3) 66 45 0) (J2 := m.J) (fun hT v kk => ?_) ?_
    · refine sh_ia1 (x := m.I 73 (Int32.toNatClampNeg x1)) (pc2 := 67) rfl (sh_s73 hT.st) (sh_okb1 c) (sh_okb2 c) rfl rfl ?_
      exact kk
    obtain ⟨r2, m12, e2, e⟩ := sh_bn_e e
    refine sh_Lk_cV (r := (some (.int (sh_b2 r2)))) (st2 := [.int (sh_b2 r2)]) (pc2 := 70) (k2 := 292) (a := 66) (as := [.ref 67, .int x3, .int (m.I 73 (Int32.toNatClampNeg x1))]) (rest := []) rfl rfl rfl (fun hT => (sh_s66 hT.st)) rfl rfl ⟨Nat.le_of_ble_eq_true rfl, Nat.le_of_ble_eq_true rfl⟩ (sl_292 e2 ⟨rfl, rfl⟩) rfl rfl (Nat.le_of_ble_eq_true rfl) (Nat.le_of_ble_eq_true rfl) ?_
    obtain rfl := Option.some.inj e
    obtain ⟨rfl, rfl⟩ := tg
    exact sh_Lk_ret (i := .ireturn) rfl rfl (sh_rb rfl _) (Nat.le_of_ble_eq_true rfl) (Nat.le_of_ble_eq_true rfl)
  · refine sh_Lk_lift (T := m.T) (I := m.I) (J := m.J) (s := m.s) (pc2 := 27) (lv2 := [(0, .ref 67), (1, .int x1), (2, .int x2), (3, .int x3)]) (st2 := []) (I2 := m.I) (J2 := m.J) (fun hT v kk => ?_) ?_
    · refine sh_j0 (c := .ne) (off := (20)) (pc2 := 27) false rfl (sh_Znef c) rfl ?_
      exact kk
    exact sh_Lk_sub (sh_sub_c rfl (sh_sub_c rfl (sh_sub_n))) (sl_299_27 e tg)
theorem sl_299 {x1 : Int32} {x2 : Int32} {x3 : Int32} {x4 : Int32} {m m2 : sh_X} {o : Outcome} {z : (Bool × sh_X)} (e : sf_299 x1 x2 x3 x4 m = some z) (tg : (sh_tZ o m2) z) : sh_Lk 299 0 [(0, .ref 67), (1, .int x1), (2, .int x2), (3, .int x3), (4, .int x4)] [] m o m2 10 244 := by
  unfold sf_299 at e
  refine sh_Lk_lift (T := m.T) (I := m.I) (J := m.J) (s := m.s) (pc2 := 2) (lv2 := [(0, .ref 67), (1, .int x1), (2, .int x2), (3, .int x3), (4, .int x4)]) (st2 := [.int x4]) (I2 := m.I) (J2 := m.J) (fun hT v kk => ?_) ?_
  · refine sh_w (i := (.iload 4)) (len := 2) (pc2 := 2) (lv2 := [(0, .ref 67), (1, .int x1), (2, .int x2), (3, .int x3), (4, .int x4)]) (st2 := [.int x4]) (h2 := (sh_rep m.T m.I m.J)) rfl rfl rfl ?_
    exact kk
  rcases sh_ite e with ⟨c, e⟩ | ⟨c, e⟩
  · refine sh_Lk_lift (T := m.T) (I := m.I) (J := m.J) (s := m.s) (pc2 := 27) (lv2 := [(0, .ref 67), (1, .int x1), (2, .int x2), (3, .int x3), (4, .int x4)]) (st2 := []) (I2 := m.I) (J2 := m.J) (fun hT v kk => ?_) ?_
    · refine sh_j0 (c := .gt) (off := (25)) (pc2 := 27) true rfl (sh_Bgtt c) rfl ?_
      exact kk
    exact sh_Lk_sub (sh_sub_c rfl (sh_sub_c rfl (sh_sub_n))) (sl_299_27 e tg)
  · refine sh_Lk_lift (T := m.T) (I := m.I) (J := m.J) (s := m.s) (pc2 := 7) (lv2 := [(0, .ref 67), (1, .int x1), (2, .int x2), (3, .int x3), (4, .int x4)]) (st2 := [.int 1, .int x2]) (I2 := m.I) (J2 := m.J) (fun hT v kk => ?_) ?_
    · refine sh_j0 (c := .gt) (off := (25)) (pc2 := 5) false rfl (sh_Bgtf c) rfl ?_
      refine sh_w (i := (.iload_n 2)) (len := 1) (pc2 := 6) (lv2 := [(0, .ref 67), (1, .int x1), (2, .int x2), (3, .int x3), (4, .int x4)]) (st2 := [.int x2]) (h2 := (sh_rep m.T m.I m.J)) rfl rfl rfl ?_
      refine sh_w (i := (.iconst 1)) (len := 1) (pc2 := 7) (lv2 := [(0, .ref 67), (1, .int x1), (2, .int x2), (3, .int x3), (4, .int x4)]) (st2 := [.int 1, .int x2]) (h2 := (sh_rep m.T m.I m.J)) rfl rfl rfl ?_
      exact kk
    rcases sh_ite e with ⟨c, e⟩ | ⟨c, e⟩
    · refine sh_Lk_lift (T := m.T) (I := m.I) (J := m.J) (s := m.s) (pc2 := 15) (lv2 := [(0, .ref 67), (1, .int x1), (2, .int x2), (3, .int x3), (4, .int x4)]) (st2 := []) (I2 := m.I) (J2 := m.J) (fun hT v kk => ?_) ?_
      · refine sh_jc (c := .eq) (off := (8)) (pc2 := 15) true rfl (sh_Beqt c) rfl ?_
        exact kk
      exact sh_Lk_sub (sh_sub_c rfl (sh_sub_c rfl (sh_sub_c rfl (sh_sub_c rfl (sh_sub_n))))) (sl_299_15 e tg)
    · refine sh_Lk_lift (T := m.T) (I := m.I) (J := m.J) (s := m.s) (pc2 := 12) (lv2 := [(0, .ref 67), (1, .int x1), (2, .int x2), (3, .int x3), (4, .int x4)]) (st2 := [.int 2, .int x2]) (I2 := m.I) (J2 := m.J) (fun hT v kk => ?_) ?_
      · refine sh_jc (c := .eq) (off := (8)) (pc2 := 10) false rfl (sh_Beqf c) rfl ?_
        refine sh_w (i := (.iload_n 2)) (len := 1) (pc2 := 11) (lv2 := [(0, .ref 67), (1, .int x1), (2, .int x2), (3, .int x3), (4, .int x4)]) (st2 := [.int x2]) (h2 := (sh_rep m.T m.I m.J)) rfl rfl rfl ?_
        refine sh_w (i := (.iconst 2)) (len := 1) (pc2 := 12) (lv2 := [(0, .ref 67), (1, .int x1), (2, .int x2), (3, .int x3), (4, .int x4)]) (st2 := [.int 2, .int x2]) (h2 := (sh_rep m.T m.I m.J)) rfl rfl rfl ?_
        exact kk
      rcases sh_ite e with ⟨c, e⟩ | ⟨c, e⟩
      · refine sh_Lk_lift (T := m.T) (I := m.I) (J := m.J) (s := m.s) (pc2 := 15) (lv2 := [(0, .ref 67), (1, .int x1), (2, .int x2), (3, .int x3), (4, .int x4)]) (st2 := []) (I2 := m.I) (J2 := m.J) (fun hT v kk => ?_) ?_
        · refine sh_jc (c := .ne) (off := (15)) (pc2 := 15) false rfl (sh_Bnef c) rfl ?_
          exact kk
        exact sh_Lk_sub (sh_sub_c rfl (sh_sub_c rfl (sh_sub_c rfl (sh_sub_c rfl (sh_sub_n))))) (sl_299_15 e tg)
      · refine sh_Lk_lift (T := m.T) (I := m.I) (J := m.J) (s := m.s) (pc2 := 27) (lv2 := [(0, .ref 67), (1, .int x1), (2, .int x2), (3, .int x3), (4, .int x4)]) (st2 := []) (I2 := m.I) (J2 := m.J) (fun hT v kk => ?_) ?_
        · refine sh_jc (c := .ne) (off := (15)) (pc2 := 27) true rfl (sh_Bnet c) rfl ?_
          exact kk
        exact sh_Lk_sub (sh_sub_c rfl (sh_sub_c rfl (sh_sub_n))) (sl_299_27 e tg)
theorem sl_298_20 {m m2 : sh_X} {o : Outcome} {z : (Bool × sh_X)} (e : sf_298_20 m = some z) (tg : (sh_tZ o m2) z) : sh_Lk 298 20 [] [] m o m2 11 268 := by
  unfold sf_298_20 at e
  refine sh_Lk_lift (T := m.T) (I := m.I) (J := m.J) (s := m.s) (pc2 := 25) (lv2 := []) (st2 := [.int 1]) (I2 := m.I) (J2 := m.J) (fun hT v kk => ?_) ?_
  · refine sh_w (i := (.iconst 1)) (len := 1) (pc2 := 21) (lv2 := []) (st2 := [.int 1]) (h2 := (sh_rep m.T m.I m.J)) rfl rfl rfl ?_
    refine sh_w (i := (.goto 4)) (len := 3) (pc2 := 25) (lv2 := []) (st2 := [.int 1]) (h2 := (sh_rep m.T m.I m.J)) rfl rfl rfl ?_
    exact kk
  obtain rfl := Option.some.inj e
  obtain ⟨rfl, rfl⟩ := tg
  exact sh_Lk_ret (i := .ireturn) rfl rfl rfl (Nat.le_of_ble_eq_true rfl) (Nat.le_of_ble_eq_true rfl)
theorem sl_298 {x1 : Int32} {m m2 : sh_X} {o : Outcome} {z : (Bool × sh_X)} (e : sf_298 x1 m = some z) (tg : (sh_tZ o m2) z) : sh_Lk 298 0 [(0, .ref 67), (1, .int x1)] [] m o m2 11 268 := by
  unfold sf_298 at e
  refine sh_Lk_lift (T := m.T) (I := m.I) (J := m.J) (s := m.s) (pc2 := 5) (lv2 := [(0, .ref 67), (1, .int x1)]) (st2 := [.int 3, .int (m.I 66 43)]) (I2 := m.I) (J2 := m.J) (fun hT v kk => ?_) ?_
  · refine sh_w (i := (.aload_n 0)) (len := 1) (pc2 := 1) (lv2 := [(0, .ref 67), (1, .int x1)]) (st2 := [.ref 67]) (h2 := (sh_rep m.T m.I m.J)) rfl rfl rfl ?_
    refine sh_gI1 (len := 3) (x := m.I 66 43) (pc2 := 4) rfl rfl (sh_s66 hT.st) rfl rfl rfl ?_
    refine sh_w (i := (.iconst 3)) (len := 1) (pc2 := 5) (lv2 := [(0, .ref 67), (1, .int x1)]) (st2 := [.int 3, .int (m.I 66 43)]) (h2 := (sh_rep m.T m.I m.J)) rfl rfl rfl ?_
    exact kk
  rcases sh_ite e with ⟨c, e⟩ | ⟨c, e⟩
  · refine sh_Lk_lift (T := m.T) (I := m.I) (J := m.J) (s := m.s) (pc2 := 14) (lv2 := [(0, .ref 67), (1, .int x1)]) (st2 := [.int 0, .int 32, .int 2, .int x1, .ref 67]) (I2 := m.I) (J2 := m.J) (fun hT v kk => ?_) ?_
    · refine sh_jc (c := .ne) (off := (15)) (pc2 := 8) false rfl (sh_Bnef c) rfl ?_
      refine sh_w (i := (.aload_n 0)) (len := 1) (pc2 := 9) (lv2 := [(0, .ref 67), (1, .int x1)]) (st2 := [.ref 67]) (h2 := (sh_rep m.T m.I m.J)) rfl rfl rfl ?_
      refine sh_w (i := (.iload_n 1)) (len := 1) (pc2 := 10) (lv2 := [(0, .ref 67), (1, .int x1)]) (st2 := [.int x1, .ref 67]) (h2 := (sh_rep m.T m.I m.J)) rfl rfl rfl ?_
      refine sh_w (i := (.iconst 2)) (len := 1) (pc2 := 11) (lv2 := [(0, .ref 67), (1, .int x1)]) (st2 := [.int 2, .int x1, .ref 67]) (h2 := (sh_rep m.T m.I m.J)) rfl rfl rfl ?_
      refine sh_w (i := (.bipush 32)) (len := 2) (pc2 := 13) (lv2 := [(0, .ref 67), (1, .int x1)]) (st2 := [.int 32, .int 2, .int x1, .ref 67]) (h2 := (sh_rep m.T m.I m.J)) rfl rfl rfl ?_
      refine sh_w (i := (.iconst 0)) (len := 1) (pc2 := 14) (lv2 := [(0, .ref 67), (1, .int x1)]) (st2 := [.int 0, .int 32, .int 2, .int x1, .ref 67]) (h2 := (sh_rep m.T m.I m.J)) rfl rfl rfl ?_
      exact kk
    obtain ⟨r1, m11, e1, e⟩ := sh_bn_e e
    refine sh_Lk_cV (r := (some (.int (sh_b2 r1)))) (st2 := [.int (sh_b2 r1)]) (pc2 := 17) (k2 := 299) (a := 66) (as := [.ref 67, .int x1, .int 2, .int 32, .int 0]) (rest := []) rfl rfl rfl (fun hT => (sh_s66 hT.st)) rfl rfl ⟨Nat.le_of_ble_eq_true rfl, Nat.le_of_ble_eq_true rfl⟩ (sl_299 e1 ⟨rfl, rfl⟩) rfl rfl (Nat.le_of_ble_eq_true rfl) (Nat.le_of_ble_eq_true rfl) ?_
    rcases sh_ite e with ⟨c, e⟩ | ⟨c, e⟩
    · refine sh_Lk_lift (T := m11.T) (I := m11.I) (J := m11.J) (s := m11.s) (pc2 := 20) (lv2 := [(0, .ref 67), (1, .int x1)]) (st2 := []) (I2 := m11.I) (J2 := m11.J) (fun hT v kk => ?_) ?_
      · refine sh_j0 (c := .eq) (off := (7)) (pc2 := 20) false rfl (sh_Zeqf c) rfl ?_
        exact kk
      exact sh_Lk_sub (sh_sub_n) (sl_298_20 e tg)
    · refine sh_Lk_lift (T := m11.T) (I := m11.I) (J := m11.J) (s := m11.s) (pc2 := 25) (lv2 := [(0, .ref 67), (1, .int x1)]) (st2 := [.int 0]) (I2 := m11.I) (J2 := m11.J) (fun hT v kk => ?_) ?_
      · refine sh_j0 (c := .eq) (off := (7)) (pc2 := 24) true rfl (sh_Zeqt c) rfl ?_
        refine sh_w (i := (.iconst 0)) (len := 1) (pc2 := 25) (lv2 := [(0, .ref 67), (1, .int x1)]) (st2 := [.int 0]) (h2 := (sh_rep m11.T m11.I m11.J)) rfl rfl rfl ?_
        exact kk
      obtain rfl := Option.some.inj e
      obtain ⟨rfl, rfl⟩ := tg
      exact sh_Lk_ret (i := .ireturn) rfl rfl rfl (Nat.le_of_ble_eq_true rfl) (Nat.le_of_ble_eq_true rfl)
  · refine sh_Lk_lift (T := m.T) (I := m.I) (J := m.J) (s := m.s) (pc2 := 20) (lv2 := [(0, .ref 67), (1, .int x1)]) (st2 := []) (I2 := m.I) (J2 := m.J) (fun hT v kk => ?_) ?_
    · refine sh_jc (c := .ne) (off := (15)) (pc2 := 20) true rfl (sh_Bnet c) rfl ?_
      exact kk
    exact sh_Lk_sub (sh_sub_n) (sl_298_20 e tg)
theorem sl_297_104 {x1 : Int32} {x3 : Int32} {x4 : Int32} {x5 : Int32} {y1 : Int64} {m m2 : sh_X} {o : Outcome} {z : (Bool × sh_X)} (e : sf_297_104 x1 x3 x4 x5 y1 m = some z) (tg : (sh_tZ o m2) z) : sh_Lk 297 104 [(0, .ref 67), (1, .int x1), (3, .int x3), (4, .int x4), (5, .int x5)] [.long y1, .ref 67] m o m2 12 289 := by
  unfold sf_297_104 at e
  refine sh_Lk_lift (T := m.T) (I := m.I) (J := m.J) (s := m.s) (pc2 := 126) (lv2 := [(0, .ref 67), (1, .int x1), (3, .int x3), (4, .int x4), (5, .int x5)]) (st2 := [.int x1, .ref 76, .int x5, .ref 67]) (I2 := sh_u2 (sh_u2 m.I 66 43 x3) 66 44 x4) (J2 := sh_u2 m.J 66 46 y1) (fun hT v kk => ?_) ?_
  · refine sh_pJ1 (x := y1) (pc2 := 107) rfl rfl (sh_s66 hT.st) rfl rfl rfl rfl ?_
    refine sh_w (i := (.aload_n 0)) (len := 1) (pc2 := 108) (lv2 := [(0, .ref 67), (1, .int x1), (3, .int x3), (4, .int x4), (5, .int x5)]) (st2 := [.ref 67]) (h2 := (sh_rep m.T m.I (sh_u2 m.J 66 46 y1))) rfl rfl rfl ?_
    refine sh_w (i := (.iload_n 3)) (len := 1) (pc2 := 109) (lv2 := [(0, .ref 67), (1, .int x1), (3, .int x3), (4, .int x4), (5, .int x5)]) (st2 := [.int x3, .ref 67]) (h2 := (sh_rep m.T m.I (sh_u2 m.J 66 46 y1))) rfl rfl rfl ?_
    refine sh_pI1 (x := x3) (pc2 := 112) rfl rfl (sh_s66 hT.st) rfl rfl rfl rfl ?_
    refine sh_w (i := (.aload_n 0)) (len := 1) (pc2 := 113) (lv2 := [(0, .ref 67), (1, .int x1), (3, .int x3), (4, .int x4), (5, .int x5)]) (st2 := [.ref 67]) (h2 := (sh_rep m.T (sh_u2 m.I 66 43 x3) (sh_u2 m.J 66 46 y1))) rfl rfl rfl ?_
    refine sh_w (i := (.iload 4)) (len := 2) (pc2 := 115) (lv2 := [(0, .ref 67), (1, .int x1), (3, .int x3), (4, .int x4), (5, .int x5)]) (st2 := [.int x4, .ref 67]) (h2 := (sh_rep m.T (sh_u2 m.I 66 43 x3) (sh_u2 m.J 66 46 y1))) rfl rfl rfl ?_
    refine sh_pI1 (x := x4) (pc2 := 118) rfl rfl (sh_s66 hT.st) rfl rfl rfl rfl ?_
    refine sh_w (i := (.aload_n 0)) (len := 1) (pc2 := 119) (lv2 := [(0, .ref 67), (1, .int x1), (3, .int x3), (4, .int x4), (5, .int x5)]) (st2 := [.ref 67]) (h2 := (sh_rep m.T (sh_u2 (sh_u2 m.I 66 43 x3) 66 44 x4) (sh_u2 m.J 66 46 y1))) rfl rfl rfl ?_
    refine sh_w (i := (.iload 5)) (len := 2) (pc2 := 121) (lv2 := [(0, .ref 67), (1, .int x1), (3, .int x3), (4, .int x4), (5, .int x5)]) (st2 := [.int x5, .ref 67]) (h2 := (sh_rep m.T (sh_u2 (sh_u2 m.I 66 43 x3) 66 44 x4) (sh_u2 m.J 66 46 y1))) rfl rfl rfl ?_
    refine sh_w (i := (.aload_n 0)) (len := 1) (pc2 := 122) (lv2 := [(0, .ref 67), (1, .int x1), (3, .int x3), (4, .int x4), (5, .int x5)]) (st2 := [.ref 67, .int x5, .ref 67]) (h2 := (sh_rep m.T (sh_u2 (sh_u2 m.I 66 43 x3) 66 44 x4) (sh_u2 m.J 66 46 y1))) rfl rfl rfl ?_
    refine sh_gR1 (len := 3) (x := .ref 76) (pc2 := 125) rfl rfl (sh_s66 hT.st) rfl rfl ?_
    refine sh_w (i := (.iload_n 1)) (len := 1) (pc2 := 126) (lv2 := [(0, .ref 67), (1, .int x1), (3, .int x3), (4, .int x4), (5, .int x5)]) (st2 := [.int x1, .ref 76, .int x5, .ref 67]) (h2 := (sh_rep m.T (sh_u2 (sh_u2 m.I 66 43 x3) 66 44 x4) (sh_u2 m.J 66 46 y1))) rfl rfl rfl ?_
    exact kk
  obtain ⟨c, e⟩ := sh_gd e
  refine sh_Lk_lift (T := m.T) (I := sh_u2 (sh_u2 m.I 66 43 x3) 66 44 x4) (J := sh_u2 m.J 66 46 y1) (s := m.s) (pc2 := 127) (lv2 := [(0, .ref 67), (1, .int x1), (3, .int x3), (4, .int x4), (5, .int x5)]) (st2 := [.int (m.I 75 (Int32.toNatClampNeg x1)), .int x5, .ref 67]) (I2 := sh_u2 (sh_u2 m.I 66 43 x3) 66 44 x4) (J2 := sh_u2 m.J 66 46 y1) (fun hT v kk => ?_) ?_
  · refine sh_ia1 (x := m.I 75 (Int32.toNatClampNeg x1)) (pc2 := 127) rfl (sh_s75 hT.st) (sh_okb1 c) (sh_okb2 c) rfl rfl ?_
    exact kk
  obtain ⟨r1, m11, e1, e⟩ := sh_bn_e e
  refine sh_Lk_cV (r := (some (.int (sh_b2 r1)))) (st2 := [.int (sh_b2 r1)]) (pc2 := 130) (k2 := 292) (a := 66) (as := [.ref 67, .int x5, .int (m.I 75 (Int32.toNatClampNeg x1))]) (rest := []) rfl rfl rfl (fun hT => (sh_s66 hT.st)) rfl rfl ⟨Nat.le_of_ble_eq_true rfl, Nat.le_of_ble_eq_true rfl⟩ (sl_292 e1 ⟨rfl, rfl⟩) rfl rfl (Nat.le_of_ble_eq_true rfl) (Nat.le_of_ble_eq_true rfl) ?_
  obtain rfl := Option.some.inj e
  obtain ⟨rfl, rfl⟩ := tg
  exact sh_Lk_ret (i := .ireturn) rfl rfl (sh_rb rfl _) (Nat.le_of_ble_eq_true rfl) (Nat.le_of_ble_eq_true rfl)
theorem sl_297 {x1 : Int32} {m m2 : sh_X} {o : Outcome} {z : (Bool × sh_X)} (e : sf_297 x1 m = some z) (tg : (sh_tZ o m2) z) : sh_Lk 297 0 [(0, .ref 67), (1, .int x1)] [] m o m2 12 289 := by
  unfold sf_297 at e
  refine sh_Lk_lift (T := m.T) (I := m.I) (J := m.J) (s := m.s) (pc2 := 6) (lv2 := [(0, .ref 67), (1, .int x1)]) (st2 := [.int x1, .ref 75, .ref 67]) (I2 := m.I) (J2 := m.J) (fun hT v kk => ?_) ?_
  · refine sh_w (i := (.aload_n 0)) (len := 1) (pc2 := 1) (lv2 := [(0, .ref 67), (1, .int x1)]) (st2 := [.ref 67]) (h2 := (sh_rep m.T m.I m.J)) rfl rfl rfl ?_
    refine sh_w (i := (.aload_n 0)) (len := 1) (pc2 := 2) (lv2 := [(0, .ref 67), (1, .int x1)]) (st2 := [.ref 67, .ref 67]) (h2 := (sh_rep m.T m.I m.J)) rfl rfl rfl ?_
    refine sh_gR1 (len := 3) (x := .ref 75) (pc2 := 5) rfl rfl (sh_s66 hT.st) rfl rfl ?_
    refine sh_w (i := (.iload_n 1)) (len := 1) (pc2 := 6) (lv2 := [(0, .ref 67), (1, .int x1)]) (st2 := [.int x1, .ref 75, .ref 67]) (h2 := (sh_rep m.T m.I m.J)) rfl rfl rfl ?_
    exact kk
  obtain ⟨c, e⟩ := sh_gd e
  refine sh_Lk_lift (T := m.T) (I := m.I) (J := m.J) (s := m.s) (pc2 := 7) (lv2 := [(0, .ref 67), (1, .int x1)]) (st2 := [.int (m.I 74 (Int32.toNatClampNeg x1)), .ref 67]) (I2 := m.I) (J2 := m.J) (fun hT v kk => ?_) ?_
  · refine sh_ia1 (x := m.I 74 (Int32.toNatClampNeg x1)) (pc2 := 7) rfl (sh_s74 hT.st) (sh_okb1 c) (sh_okb2 c) rfl rfl ?_
    exact kk
  obtain ⟨r1, m11, e1, e⟩ := sh_bn_e e
  refine sh_Lk_cV (r := (some (.int (sh_b2 r1)))) (st2 := [.int (sh_b2 r1)]) (pc2 := 10) (k2 := 298) (a := 66) (as := [.ref 67, .int (m.I 74 (Int32.toNatClampNeg x1))]) (rest := []) rfl rfl rfl (fun hT => (sh_s66 hT.st)) rfl rfl ⟨Nat.le_of_ble_eq_true rfl, Nat.le_of_ble_eq_true rfl⟩ (sl_298 e1 ⟨rfl, rfl⟩) rfl rfl (Nat.le_of_ble_eq_true rfl) (Nat.le_of_ble_eq_true rfl) ?_
  rcases sh_ite e with ⟨c, e⟩ | ⟨c, e⟩
  · refine sh_Lk_lift (T := m11.T) (I := m11.I) (J := m11.J) (s := m11.s) (pc2 := 19) (lv2 := [(0, .ref 67), (1, .int x1)]) (st2 := [.int (m11.I 66 45)]) (I2 := m11.I) (J2 := m11.J) (fun hT v kk => ?_) ?_
    · refine sh_j0 (c := .ne) (off := (5)) (pc2 := 15) true rfl (sh_Znet c) rfl ?_
      refine sh_w (i := (.aload_n 0)) (len := 1) (pc2 := 16) (lv2 := [(0, .ref 67), (1, .int x1)]) (st2 := [.ref 67]) (h2 := (sh_rep m11.T m11.I m11.J)) rfl rfl rfl ?_
      refine sh_gI1 (len := 3) (x := m11.I 66 45) (pc2 := 19) rfl rfl (sh_s66 hT.st) rfl rfl rfl ?_
      exact kk
    rcases sh_ite e with ⟨c, e⟩ | ⟨c, e⟩
    · refine sh_Lk_lift (T := m11.T) (I := m11.I) (J := m11.J) (s := m11.s) (pc2 := 33) (lv2 := [(0, .ref 67), (1, .int x1)]) (st2 := [.int x1, .ref 76, .ref 70, .int 4, .ref 67]) (I2 := m11.I) (J2 := m11.J) (fun hT v kk => ?_) ?_
      · refine sh_j0 (c := .le) (off := (20)) (pc2 := 22) false rfl (sh_Blef c) rfl ?_
        refine sh_w (i := (.aload_n 0)) (len := 1) (pc2 := 23) (lv2 := [(0, .ref 67), (1, .int x1)]) (st2 := [.ref 67]) (h2 := (sh_rep m11.T m11.I m11.J)) rfl rfl rfl ?_
        refine sh_w (i := (.iconst 4)) (len := 1) (pc2 := 24) (lv2 := [(0, .ref 67), (1, .int x1)]) (st2 := [.int 4, .ref 67]) (h2 := (sh_rep m11.T m11.I m11.J)) rfl rfl rfl ?_
        refine sh_w (i := (.aload_n 0)) (len := 1) (pc2 := 25) (lv2 := [(0, .ref 67), (1, .int x1)]) (st2 := [.ref 67, .int 4, .ref 67]) (h2 := (sh_rep m11.T m11.I m11.J)) rfl rfl rfl ?_
        refine sh_gR1 (len := 3) (x := .ref 70) (pc2 := 28) rfl rfl (sh_s66 hT.st) rfl rfl ?_
        refine sh_w (i := (.aload_n 0)) (len := 1) (pc2 := 29) (lv2 := [(0, .ref 67), (1, .int x1)]) (st2 := [.ref 67, .ref 70, .int 4, .ref 67]) (h2 := (sh_rep m11.T m11.I m11.J)) rfl rfl rfl ?_
        refine sh_gR1 (len := 3) (x := .ref 76) (pc2 := 32) rfl rfl (sh_s66 hT.st) rfl rfl ?_
        refine sh_w (i := (.iload_n 1)) (len := 1) (pc2 := 33) (lv2 := [(0, .ref 67), (1, .int x1)]) (st2 := [.int x1, .ref 76, .ref 70, .int 4, .ref 67]) (h2 := (sh_rep m11.T m11.I m11.J)) rfl rfl rfl ?_
        exact kk
      obtain ⟨c, e⟩ := sh_gd e
      refine sh_Lk_lift (T := m11.T) (I := m11.I) (J := m11.J) (s := m11.s) (pc2 := 34) (lv2 := [(0, .ref 67), (1, .int x1)]) (st2 := [.int (m11.I 75 (Int32.toNatClampNeg x1)), .ref 70, .int 4, .ref 67]) (I2 := m11.I) (J2 := m11.J) (fun hT v kk => ?_) ?_
      · refine sh_ia1 (x := m11.I 75 (Int32.toNatClampNeg x1)) (pc2 := 34) rfl (sh_s75 hT.st) (sh_okb1 c) (sh_okb2 c) rfl rfl ?_
        exact kk
      obtain ⟨c, e⟩ := sh_gd e
      refine sh_Lk_lift (T := m11.T) (I := m11.I) (J := m11.J) (s := m11.s) (pc2 := 35) (lv2 := [(0, .ref 67), (1, .int x1)]) (st2 := [.int (m11.I 69 (Int32.toNatClampNeg (m11.I 75 (Int32.toNatClampNeg x1)))), .int 4, .ref 67]) (I2 := m11.I) (J2 := m11.J) (fun hT v kk => ?_) ?_
      · refine sh_ia1 (x := m11.I 69 (Int32.toNatClampNeg (m11.I 75 (Int32.toNatClampNeg x1)))) (pc2 := 35) rfl (sh_s69 hT.st) (sh_okb1 c) (sh_okb2 c) rfl rfl ?_
        exact kk
      obtain ⟨r2, m12, e2, e⟩ := sh_bn_e e
      refine sh_Lk_cV (r := (some (.int (sh_b2 r2)))) (st2 := [.int (sh_b2 r2)]) (pc2 := 38) (k2 := 252) (a := 66) (as := [.ref 67, .int 4, .int (m11.I 69 (Int32.toNatClampNeg (m11.I 75 (Int32.toNatClampNeg x1))))]) (rest := []) rfl rfl rfl (fun hT => (sh_s66 hT.st)) rfl rfl ⟨Nat.le_of_ble_eq_true rfl, Nat.le_of_ble_eq_true rfl⟩ (sl_252 e2 ⟨rfl, rfl⟩) rfl rfl (Nat.le_of_ble_eq_true rfl) (Nat.le_of_ble_eq_true rfl) ?_
      obtain rfl := Option.some.inj e
      obtain ⟨rfl, rfl⟩ := tg
      exact sh_Lk_ret (i := .ireturn) rfl rfl (sh_rb rfl _) (Nat.le_of_ble_eq_true rfl) (Nat.le_of_ble_eq_true rfl)
    · refine sh_Lk_lift (T := m11.T) (I := m11.I) (J := m11.J) (s := m11.s) (pc2 := 45) (lv2 := [(0, .ref 67), (1, .int x1)]) (st2 := [.int x1, .ref 74, .ref 67]) (I2 := m11.I) (J2 := m11.J) (fun hT v kk => ?_) ?_
      · refine sh_j0 (c := .le) (off := (20)) (pc2 := 39) true rfl (sh_Blet c) rfl ?_
        refine sh_w (i := (.aload_n 0)) (len := 1) (pc2 := 40) (lv2 := [(0, .ref 67), (1, .int x1)]) (st2 := [.ref 67]) (h2 := (sh_rep m11.T m11.I m11.J)) rfl rfl rfl ?_
        refine sh_w (i := (.aload_n 0)) (len := 1) (pc2 := 41) (lv2 := [(0, .ref 67), (1, .int x1)]) (st2 := [.ref 67, .ref 67]) (h2 := (sh_rep m11.T m11.I m11.J)) rfl rfl rfl ?_
        refine sh_gR1 (len := 3) (x := .ref 74) (pc2 := 44) rfl rfl (sh_s66 hT.st) rfl rfl ?_
        refine sh_w (i := (.iload_n 1)) (len := 1) (pc2 := 45) (lv2 := [(0, .ref 67), (1, .int x1)]) (st2 := [.int x1, .ref 74, .ref 67]) (h2 := (sh_rep m11.T m11.I m11.J)) rfl rfl rfl ?_
        exact kk
      obtain ⟨c, e⟩ := sh_gd e
      refine sh_Lk_lift (T := m11.T) (I := m11.I) (J := m11.J) (s := m11.s) (pc2 := 46) (lv2 := [(0, .ref 67), (1, .int x1)]) (st2 := [.int (m11.I 73 (Int32.toNatClampNeg x1)), .ref 67]) (I2 := m11.I) (J2 := m11.J) (fun hT v kk => ?_) ?_
      · refine sh_ia1 (x := m11.I 73 (Int32.toNatClampNeg x1)) (pc2 := 46) rfl (sh_s73 hT.st) (sh_okb1 c) (sh_okb2 c) rfl rfl ?_
        exact kk
      obtain ⟨r3, e3, e⟩ := sh_bc_e e
      refine sh_Lk_cV (r := (some (.int r3))) (st2 := [.int r3]) (pc2 := 49) (k2 := 285) (a := 66) (as := [.ref 67, .int (m11.I 73 (Int32.toNatClampNeg x1))]) (rest := []) rfl rfl rfl (fun hT => (sh_s66 hT.st)) rfl rfl ⟨Nat.le_of_ble_eq_true rfl, Nat.le_of_ble_eq_true rfl⟩ (sl_285 e3 ⟨rfl, rfl⟩) rfl rfl (Nat.le_of_ble_eq_true rfl) (Nat.le_of_ble_eq_true rfl) ?_
      refine sh_Lk_lift (T := m11.T) (I := m11.I) (J := m11.J) (s := m11.s) (pc2 := 74) (lv2 := [(5, .int (((r3 - r3 / 64 * 64) + 1) + (m11.I 66 44))), (4, .int ((r3 - r3 / 64 * 64) + 1)), (3, .int (r3 / 64)), (2, .int r3), (0, .ref 67), (1, .int x1)]) (st2 := [.int (r3 / 64), .ref 67]) (I2 := m11.I) (J2 := m11.J) (fun hT v kk => ?_) ?_
      · refine sh_w (i := (.istore_n 2)) (len := 1) (pc2 := 50) (lv2 := [(2, .int r3), (0, .ref 67), (1, .int x1)]) (st2 := []) (h2 := (sh_rep m11.T m11.I m11.J)) rfl rfl rfl ?_
        refine sh_w (i := (.iload_n 2)) (len := 1) (pc2 := 51) (lv2 := [(2, .int r3), (0, .ref 67), (1, .int x1)]) (st2 := [.int r3]) (h2 := (sh_rep m11.T m11.I m11.J)) rfl rfl rfl ?_
        refine sh_w (i := (.bipush 64)) (len := 2) (pc2 := 53) (lv2 := [(2, .int r3), (0, .ref 67), (1, .int x1)]) (st2 := [.int 64, .int r3]) (h2 := (sh_rep m11.T m11.I m11.J)) rfl rfl rfl ?_
        refine sh_w (i := .idiv) (len := 1) (pc2 := 54) (lv2 := [(2, .int r3), (0, .ref 67), (1, .int x1)]) (st2 := [.int (r3 / 64)]) (h2 := (sh_rep m11.T m11.I m11.J)) rfl rfl rfl ?_
        refine sh_w (i := (.istore_n 3)) (len := 1) (pc2 := 55) (lv2 := [(3, .int (r3 / 64)), (2, .int r3), (0, .ref 67), (1, .int x1)]) (st2 := []) (h2 := (sh_rep m11.T m11.I m11.J)) rfl rfl rfl ?_
        refine sh_w (i := (.iload_n 2)) (len := 1) (pc2 := 56) (lv2 := [(3, .int (r3 / 64)), (2, .int r3), (0, .ref 67), (1, .int x1)]) (st2 := [.int r3]) (h2 := (sh_rep m11.T m11.I m11.J)) rfl rfl rfl ?_
        refine sh_w (i := (.bipush 64)) (len := 2) (pc2 := 58) (lv2 := [(3, .int (r3 / 64)), (2, .int r3), (0, .ref 67), (1, .int x1)]) (st2 := [.int 64, .int r3]) (h2 := (sh_rep m11.T m11.I m11.J)) rfl rfl rfl ?_
        refine sh_w (i := .irem) (len := 1) (pc2 := 59) (lv2 := [(3, .int (r3 / 64)), (2, .int r3), (0, .ref 67), (1, .int x1)]) (st2 := [.int (r3 - r3 / 64 * 64)]) (h2 := (sh_rep m11.T m11.I m11.J)) rfl rfl rfl ?_
        refine sh_w (i := (.iconst 1)) (len := 1) (pc2 := 60) (lv2 := [(3, .int (r3 / 64)), (2, .int r3), (0, .ref 67), (1, .int x1)]) (st2 := [.int 1, .int (r3 - r3 / 64 * 64)]) (h2 := (sh_rep m11.T m11.I m11.J)) rfl rfl rfl ?_
        refine sh_w (i := .iadd) (len := 1) (pc2 := 61) (lv2 := [(3, .int (r3 / 64)), (2, .int r3), (0, .ref 67), (1, .int x1)]) (st2 := [.int ((r3 - r3 / 64 * 64) + 1)]) (h2 := (sh_rep m11.T m11.I m11.J)) rfl rfl rfl ?_
        refine sh_w (i := (.istore 4)) (len := 2) (pc2 := 63) (lv2 := [(4, .int ((r3 - r3 / 64 * 64) + 1)), (3, .int (r3 / 64)), (2, .int r3), (0, .ref 67), (1, .int x1)]) (st2 := []) (h2 := (sh_rep m11.T m11.I m11.J)) rfl rfl rfl ?_
        refine sh_w (i := (.iload 4)) (len := 2) (pc2 := 65) (lv2 := [(4, .int ((r3 - r3 / 64 * 64) + 1)), (3, .int (r3 / 64)), (2, .int r3), (0, .ref 67), (1, .int x1)]) (st2 := [.int ((r3 - r3 / 64 * 64) + 1)]) (h2 := (sh_rep m11.T m11.I m11.J)) rfl rfl rfl ?_
        refine sh_w (i := (.aload_n 0)) (len := 1) (pc2 := 66) (lv2 := [(4, .int ((r3 - r3 / 64 * 64) + 1)), (3, .int (r3 / 64)), (2, .int r3), (0, .ref 67), (1, .int x1)]) (st2 := [.ref 67, .int ((r3 - r3 / 64 * 64) + 1)]) (h2 := (sh_rep m11.T m11.I m11.J)) rfl rfl rfl ?_
        refine sh_gI1 (len := 3) (x := m11.I 66 44) (pc2 := 69) rfl rfl (sh_s66 hT.st) rfl rfl rfl ?_
        refine sh_w (i := .iadd) (len := 1) (pc2 := 70) (lv2 := [(4, .int ((r3 - r3 / 64 * 64) + 1)), (3, .int (r3 / 64)), (2, .int r3), (0, .ref 67), (1, .int x1)]) (st2 := [.int (((r3 - r3 / 64 * 64) + 1) + (m11.I 66 44))]) (h2 := (sh_rep m11.T m11.I m11.J)) rfl rfl rfl ?_
        refine sh_w (i := (.istore 5)) (len := 2) (pc2 := 72) (lv2 := [(5, .int (((r3 - r3 / 64 * 64) + 1) + (m11.I 66 44))), (4, .int ((r3 - r3 / 64 * 64) + 1)), (3, .int (r3 / 64)), (2, .int r3), (0, .ref 67), (1, .int x1)]) (st2 := []) (h2 := (sh_rep m11.T m11.I m11.J)) rfl rfl rfl ?_
        refine sh_w (i := (.aload_n 0)) (len := 1) (pc2 := 73) (lv2 := [(5, .int (((r3 - r3 / 64 * 64) + 1) + (m11.I 66 44))), (4, .int ((r3 - r3 / 64 * 64) + 1)), (3, .int (r3 / 64)), (2, .int r3), (0, .ref 67), (1, .int x1)]) (st2 := [.ref 67]) (h2 := (sh_rep m11.T m11.I m11.J)) rfl rfl rfl ?_
        refine sh_w (i := (.iload_n 3)) (len := 1) (pc2 := 74) (lv2 := [(5, .int (((r3 - r3 / 64 * 64) + 1) + (m11.I 66 44))), (4, .int ((r3 - r3 / 64 * 64) + 1)), (3, .int (r3 / 64)), (2, .int r3), (0, .ref 67), (1, .int x1)]) (st2 := [.int (r3 / 64), .ref 67]) (h2 := (sh_rep m11.T m11.I m11.J)) rfl rfl rfl ?_
        exact kk
      rcases sh_ite e with ⟨c, e⟩ | ⟨c, e⟩
      · refine sh_Lk_lift (T := m11.T) (I := m11.I) (J := m11.J) (s := m11.s) (pc2 := 83) (lv2 := [(5, .int (((r3 - r3 / 64 * 64) + 1) + (m11.I 66 44))), (4, .int ((r3 - r3 / 64 * 64) + 1)), (3, .int (r3 / 64)), (2, .int r3), (0, .ref 67), (1, .int x1)]) (st2 := [.int (lg_cmp (m11.J 66 46) 0), .ref 67]) (I2 := m11.I) (J2 := m11.J) (fun hT v kk => ?_) ?_
        · refine sh_j0 (c := .ne) (off := (20)) (pc2 := 77) false rfl (sh_Bnef c) rfl ?_
          refine sh_w (i := (.aload_n 0)) (len := 1) (pc2 := 78) (lv2 := [(5, .int (((r3 - r3 / 64 * 64) + 1) + (m11.I 66 44))), (4, .int ((r3 - r3 / 64 * 64) + 1)), (3, .int (r3 / 64)), (2, .int r3), (0, .ref 67), (1, .int x1)]) (st2 := [.ref 67, .ref 67]) (h2 := (sh_rep m11.T m11.I m11.J)) rfl rfl rfl ?_
          refine sh_gJ1 (len := 3) (x := m11.J 66 46) (pc2 := 81) rfl rfl (sh_s66 hT.st) rfl rfl rfl ?_
          refine sh_w (i := (.lconst 0)) (len := 1) (pc2 := 82) (lv2 := [(5, .int (((r3 - r3 / 64 * 64) + 1) + (m11.I 66 44))), (4, .int ((r3 - r3 / 64 * 64) + 1)), (3, .int (r3 / 64)), (2, .int r3), (0, .ref 67), (1, .int x1)]) (st2 := [.long 0, .long (m11.J 66 46), .ref 67]) (h2 := (sh_rep m11.T m11.I m11.J)) rfl rfl rfl ?_
          refine sh_w (i := .lcmp) (len := 1) (pc2 := 83) (lv2 := [(5, .int (((r3 - r3 / 64 * 64) + 1) + (m11.I 66 44))), (4, .int ((r3 - r3 / 64 * 64) + 1)), (3, .int (r3 / 64)), (2, .int r3), (0, .ref 67), (1, .int x1)]) (st2 := [.int (lg_cmp (m11.J 66 46) 0), .ref 67]) (h2 := (sh_rep m11.T m11.I m11.J)) rfl rfl rfl ?_
          exact kk
        rcases sh_ite e with ⟨c, e⟩ | ⟨c, e⟩
        · refine sh_Lk_lift (T := m11.T) (I := m11.I) (J := m11.J) (s := m11.s) (pc2 := 104) (lv2 := [(5, .int (((r3 - r3 / 64 * 64) + 1) + (m11.I 66 44))), (4, .int ((r3 - r3 / 64 * 64) + 1)), (3, .int (r3 / 64)), (2, .int r3), (0, .ref 67), (1, .int x1)]) (st2 := [.long 0, .ref 67]) (I2 := m11.I) (J2 := m11.J) (fun hT v kk => ?_) ?_
          · refine sh_j0 (c := .eq) (off := (7)) (pc2 := 90) true rfl (sh_Ceqt c) rfl ?_
            refine sh_w (i := (.lconst 0)) (len := 1) (pc2 := 91) (lv2 := [(5, .int (((r3 - r3 / 64 * 64) + 1) + (m11.I 66 44))), (4, .int ((r3 - r3 / 64 * 64) + 1)), (3, .int (r3 / 64)), (2, .int r3), (0, .ref 67), (1, .int x1)]) (st2 := [.long 0, .ref 67]) (h2 := (sh_rep m11.T m11.I m11.J)) rfl rfl rfl ?_
            refine sh_w (i := (.goto 13)) (len := 3) (pc2 := 104) (lv2 := [(5, .int (((r3 - r3 / 64 * 64) + 1) + (m11.I 66 44))), (4, .int ((r3 - r3 / 64 * 64) + 1)), (3, .int (r3 / 64)), (2, .int r3), (0, .ref 67), (1, .int x1)]) (st2 := [.long 0, .ref 67]) (h2 := (sh_rep m11.T m11.I m11.J)) rfl rfl rfl ?_
            exact kk
          exact sh_Lk_sub (sh_sub_c rfl (sh_sub_c rfl (sh_sub_c rfl (sh_sub_c rfl (sh_sub_c rfl (sh_sub_n)))))) (sl_297_104 e tg)
        · refine sh_Lk_lift (T := m11.T) (I := m11.I) (J := m11.J) (s := m11.s) (pc2 := 104) (lv2 := [(5, .int (((r3 - r3 / 64 * 64) + 1) + (m11.I 66 44))), (4, .int ((r3 - r3 / 64 * 64) + 1)), (3, .int (r3 / 64)), (2, .int r3), (0, .ref 67), (1, .int x1)]) (st2 := [.long 1, .ref 67]) (I2 := m11.I) (J2 := m11.J) (fun hT v kk => ?_) ?_
          · refine sh_j0 (c := .eq) (off := (7)) (pc2 := 86) false rfl (sh_Ceqf c) rfl ?_
            refine sh_w (i := (.lconst 1)) (len := 1) (pc2 := 87) (lv2 := [(5, .int (((r3 - r3 / 64 * 64) + 1) + (m11.I 66 44))), (4, .int ((r3 - r3 / 64 * 64) + 1)), (3, .int (r3 / 64)), (2, .int r3), (0, .ref 67), (1, .int x1)]) (st2 := [.long 1, .ref 67]) (h2 := (sh_rep m11.T m11.I m11.J)) rfl rfl rfl ?_
            refine sh_w (i := (.goto 17)) (len := 3) (pc2 := 104) (lv2 := [(5, .int (((r3 - r3 / 64 * 64) + 1) + (m11.I 66 44))), (4, .int ((r3 - r3 / 64 * 64) + 1)), (3, .int (r3 / 64)), (2, .int r3), (0, .ref 67), (1, .int x1)]) (st2 := [.long 1, .ref 67]) (h2 := (sh_rep m11.T m11.I m11.J)) rfl rfl rfl ?_
            exact kk
          exact sh_Lk_sub (sh_sub_c rfl (sh_sub_c rfl (sh_sub_c rfl (sh_sub_c rfl (sh_sub_c rfl (sh_sub_n)))))) (sl_297_104 e tg)
      · refine sh_Lk_lift (T := m11.T) (I := m11.I) (J := m11.J) (s := m11.s) (pc2 := 101) (lv2 := [(5, .int (((r3 - r3 / 64 * 64) + 1) + (m11.I 66 44))), (4, .int ((r3 - r3 / 64 * 64) + 1)), (3, .int (r3 / 64)), (2, .int r3), (0, .ref 67), (1, .int x1)]) (st2 := [.long (m11.J 66 46), .int ((r3 - r3 / 64 * 64) + 1), .int (r3 / 64), .ref 67]) (I2 := m11.I) (J2 := m11.J) (fun hT v kk => ?_) ?_
        · refine sh_j0 (c := .ne) (off := (20)) (pc2 := 94) true rfl (sh_Bnet c) rfl ?_
          refine sh_w (i := (.iload_n 3)) (len := 1) (pc2 := 95) (lv2 := [(5, .int (((r3 - r3 / 64 * 64) + 1) + (m11.I 66 44))), (4, .int ((r3 - r3 / 64 * 64) + 1)), (3, .int (r3 / 64)), (2, .int r3), (0, .ref 67), (1, .int x1)]) (st2 := [.int (r3 / 64), .ref 67]) (h2 := (sh_rep m11.T m11.I m11.J)) rfl rfl rfl ?_
          refine sh_w (i := (.iload 4)) (len := 2) (pc2 := 97) (lv2 := [(5, .int (((r3 - r3 / 64 * 64) + 1) + (m11.I 66 44))), (4, .int ((r3 - r3 / 64 * 64) + 1)), (3, .int (r3 / 64)), (2, .int r3), (0, .ref 67), (1, .int x1)]) (st2 := [.int ((r3 - r3 / 64 * 64) + 1), .int (r3 / 64), .ref 67]) (h2 := (sh_rep m11.T m11.I m11.J)) rfl rfl rfl ?_
          refine sh_w (i := (.aload_n 0)) (len := 1) (pc2 := 98) (lv2 := [(5, .int (((r3 - r3 / 64 * 64) + 1) + (m11.I 66 44))), (4, .int ((r3 - r3 / 64 * 64) + 1)), (3, .int (r3 / 64)), (2, .int r3), (0, .ref 67), (1, .int x1)]) (st2 := [.ref 67, .int ((r3 - r3 / 64 * 64) + 1), .int (r3 / 64), .ref 67]) (h2 := (sh_rep m11.T m11.I m11.J)) rfl rfl rfl ?_
          refine sh_gJ1 (len := 3) (x := m11.J 66 46) (pc2 := 101) rfl rfl (sh_s66 hT.st) rfl rfl rfl ?_
          exact kk
        refine sh_Lk_cS (r := (some (.long (sf_288 (r3 / 64) ((r3 - r3 / 64 * 64) + 1) (m11.J 66 46))))) (st2 := [.long (sf_288 (r3 / 64) ((r3 - r3 / 64 * 64) + 1) (m11.J 66 46)), .ref 67]) (pc2 := 104) (k2 := 288) (as := [.int (r3 / 64), .int ((r3 - r3 / 64 * 64) + 1), .long (m11.J 66 46)]) (rest := [.ref 67]) rfl rfl (by decide) (Nat.le_of_ble_eq_true rfl) rfl rfl ⟨Nat.le_of_ble_eq_true rfl, Nat.le_of_ble_eq_true rfl⟩ (sl_288 (m := m11) rfl ⟨rfl, rfl⟩) rfl rfl (Nat.le_of_ble_eq_true rfl) (Nat.le_of_ble_eq_true rfl) ?_
        exact sh_Lk_sub (sh_sub_c rfl (sh_sub_c rfl (sh_sub_c rfl (sh_sub_c rfl (sh_sub_c rfl (sh_sub_n)))))) (sl_297_104 e tg)
  · refine sh_Lk_lift (T := m11.T) (I := m11.I) (J := m11.J) (s := m11.s) (pc2 := 14) (lv2 := [(0, .ref 67), (1, .int x1)]) (st2 := [.int 0]) (I2 := m11.I) (J2 := m11.J) (fun hT v kk => ?_) ?_
    · refine sh_j0 (c := .ne) (off := (5)) (pc2 := 13) false rfl (sh_Znef c) rfl ?_
      refine sh_w (i := (.iconst 0)) (len := 1) (pc2 := 14) (lv2 := [(0, .ref 67), (1, .int x1)]) (st2 := [.int 0]) (h2 := (sh_rep m11.T m11.I m11.J)) rfl rfl rfl ?_
      exact kk
    obtain rfl := Option.some.inj e
    obtain ⟨rfl, rfl⟩ := tg
    exact sh_Lk_ret (i := .ireturn) rfl rfl rfl (Nat.le_of_ble_eq_true rfl) (Nat.le_of_ble_eq_true rfl)
theorem sl_301_51 {x2 : Int32} {m m2 : sh_X} {o : Outcome} {z : (Bool × sh_X)} (e : sf_301_51 x2 m = some z) (tg : (sh_tZ o m2) z) : sh_Lk 301 51 [(0, .ref 67), (2, .int x2)] [] m o m2 12 289 := by
  unfold sf_301_51 at e
  refine sh_Lk_lift (T := m.T) (I := m.I) (J := m.J) (s := m.s) (pc2 := 58) (lv2 := [(0, .ref 67), (2, .int x2)]) (st2 := [.int x2, .ref 70, .int 4, .ref 67]) (I2 := m.I) (J2 := m.J) (fun hT v kk => ?_) ?_
  · refine sh_w (i := (.aload_n 0)) (len := 1) (pc2 := 52) (lv2 := [(0, .ref 67), (2, .int x2)]) (st2 := [.ref 67]) (h2 := (sh_rep m.T m.I m.J)) rfl rfl rfl ?_
    refine sh_w (i := (.iconst 4)) (len := 1) (pc2 := 53) (lv2 := [(0, .ref 67), (2, .int x2)]) (st2 := [.int 4, .ref 67]) (h2 := (sh_rep m.T m.I m.J)) rfl rfl rfl ?_
    refine sh_w (i := (.aload_n 0)) (len := 1) (pc2 := 54) (lv2 := [(0, .ref 67), (2, .int x2)]) (st2 := [.ref 67, .int 4, .ref 67]) (h2 := (sh_rep m.T m.I m.J)) rfl rfl rfl ?_
    refine sh_gR1 (len := 3) (x := .ref 70) (pc2 := 57) rfl rfl (sh_s66 hT.st) rfl rfl ?_
    refine sh_w (i := (.iload_n 2)) (len := 1) (pc2 := 58) (lv2 := [(0, .ref 67), (2, .int x2)]) (st2 := [.int x2, .ref 70, .int 4, .ref 67]) (h2 := (sh_rep m.T m.I m.J)) rfl rfl rfl ?_
    exact kk
  obtain ⟨c, e⟩ := sh_gd e
  refine sh_Lk_lift (T := m.T) (I := m.I) (J := m.J) (s := m.s) (pc2 := 59) (lv2 := [(0, .ref 67), (2, .int x2)]) (st2 := [.int (m.I 69 (Int32.toNatClampNeg x2)), .int 4, .ref 67]) (I2 := m.I) (J2 := m.J) (fun hT v kk => ?_) ?_
  · refine sh_ia1 (x := m.I 69 (Int32.toNatClampNeg x2)) (pc2 := 59) rfl (sh_s69 hT.st) (sh_okb1 c) (sh_okb2 c) rfl rfl ?_
    exact kk
  obtain ⟨r1, m11, e1, e⟩ := sh_bn_e e
  refine sh_Lk_cV (r := (some (.int (sh_b2 r1)))) (st2 := [.int (sh_b2 r1)]) (pc2 := 62) (k2 := 252) (a := 66) (as := [.ref 67, .int 4, .int (m.I 69 (Int32.toNatClampNeg x2))]) (rest := []) rfl rfl rfl (fun hT => (sh_s66 hT.st)) rfl rfl ⟨Nat.le_of_ble_eq_true rfl, Nat.le_of_ble_eq_true rfl⟩ (sl_252 e1 ⟨rfl, rfl⟩) rfl rfl (Nat.le_of_ble_eq_true rfl) (Nat.le_of_ble_eq_true rfl) ?_
  obtain rfl := Option.some.inj e
  obtain ⟨rfl, rfl⟩ := tg
  exact sh_Lk_ret (i := .ireturn) rfl rfl (sh_rb rfl _) (Nat.le_of_ble_eq_true rfl) (Nat.le_of_ble_eq_true rfl)
theorem sl_301_133 {x2 : Int32} {m m2 : sh_X} {o : Outcome} {z : (Bool × sh_X)} (e : sf_301_133 x2 m = some z) (tg : (sh_tZ o m2) z) : sh_Lk 301 133 [(0, .ref 67), (2, .int x2)] [] m o m2 12 289 := by
  unfold sf_301_133 at e
  refine sh_Lk_lift (T := m.T) (I := m.I) (J := m.J) (s := m.s) (pc2 := 140) (lv2 := [(0, .ref 67), (2, .int x2)]) (st2 := [.int x2, .ref 70, .int 4, .ref 67]) (I2 := m.I) (J2 := m.J) (fun hT v kk => ?_) ?_
  · refine sh_w (i := (.aload_n 0)) (len := 1) (pc2 := 134) (lv2 := [(0, .ref 67), (2, .int x2)]) (st2 := [.ref 67]) (h2 := (sh_rep m.T m.I m.J)) rfl rfl rfl ?_
    refine sh_w (i := (.iconst 4)) (len := 1) (pc2 := 135) (lv2 := [(0, .ref 67), (2, .int x2)]) (st2 := [.int 4, .ref 67]) (h2 := (sh_rep m.T m.I m.J)) rfl rfl rfl ?_
    refine sh_w (i := (.aload_n 0)) (len := 1) (pc2 := 136) (lv2 := [(0, .ref 67), (2, .int x2)]) (st2 := [.ref 67, .int 4, .ref 67]) (h2 := (sh_rep m.T m.I m.J)) rfl rfl rfl ?_
    refine sh_gR1 (len := 3) (x := .ref 70) (pc2 := 139) rfl rfl (sh_s66 hT.st) rfl rfl ?_
    refine sh_w (i := (.iload_n 2)) (len := 1) (pc2 := 140) (lv2 := [(0, .ref 67), (2, .int x2)]) (st2 := [.int x2, .ref 70, .int 4, .ref 67]) (h2 := (sh_rep m.T m.I m.J)) rfl rfl rfl ?_
    exact kk
  obtain ⟨c, e⟩ := sh_gd e
  refine sh_Lk_lift (T := m.T) (I := m.I) (J := m.J) (s := m.s) (pc2 := 141) (lv2 := [(0, .ref 67), (2, .int x2)]) (st2 := [.int (m.I 69 (Int32.toNatClampNeg x2)), .int 4, .ref 67]) (I2 := m.I) (J2 := m.J) (fun hT v kk => ?_) ?_
  · refine sh_ia1 (x := m.I 69 (Int32.toNatClampNeg x2)) (pc2 := 141) rfl (sh_s69 hT.st) (sh_okb1 c) (sh_okb2 c) rfl rfl ?_
    exact kk
  obtain ⟨r1, m11, e1, e⟩ := sh_bn_e e
  refine sh_Lk_cV (r := (some (.int (sh_b2 r1)))) (st2 := [.int (sh_b2 r1)]) (pc2 := 144) (k2 := 252) (a := 66) (as := [.ref 67, .int 4, .int (m.I 69 (Int32.toNatClampNeg x2))]) (rest := []) rfl rfl rfl (fun hT => (sh_s66 hT.st)) rfl rfl ⟨Nat.le_of_ble_eq_true rfl, Nat.le_of_ble_eq_true rfl⟩ (sl_252 e1 ⟨rfl, rfl⟩) rfl rfl (Nat.le_of_ble_eq_true rfl) (Nat.le_of_ble_eq_true rfl) ?_
  obtain rfl := Option.some.inj e
  obtain ⟨rfl, rfl⟩ := tg
  exact sh_Lk_ret (i := .ireturn) rfl rfl (sh_rb rfl _) (Nat.le_of_ble_eq_true rfl) (Nat.le_of_ble_eq_true rfl)
theorem sl_301_145 {x2 : Int32} {m m2 : sh_X} {o : Outcome} {z : (Bool × sh_X)} (e : sf_301_145 x2 m = some z) (tg : (sh_tZ o m2) z) : sh_Lk 301 145 [(0, .ref 67), (2, .int x2)] [] m o m2 12 289 := by
  unfold sf_301_145 at e
  refine sh_Lk_lift (T := m.T) (I := m.I) (J := m.J) (s := m.s) (pc2 := 149) (lv2 := [(0, .ref 67), (2, .int x2)]) (st2 := [.int (m.I 66 43)]) (I2 := m.I) (J2 := m.J) (fun hT v kk => ?_) ?_
  · refine sh_w (i := (.aload_n 0)) (len := 1) (pc2 := 146) (lv2 := [(0, .ref 67), (2, .int x2)]) (st2 := [.ref 67]) (h2 := (sh_rep m.T m.I m.J)) rfl rfl rfl ?_
    refine sh_gI1 (len := 3) (x := m.I 66 43) (pc2 := 149) rfl rfl (sh_s66 hT.st) rfl rfl rfl ?_
    exact kk
  rcases sh_ite e with ⟨c, e⟩ | ⟨c, e⟩
  · refine sh_Lk_lift (T := m.T) (I := m.I) (J := m.J) (s := m.s) (pc2 := 165) (lv2 := [(0, .ref 67), (2, .int x2)]) (st2 := [.int x2, .int 1, .ref 67]) (I2 := m.I) (J2 := sh_u2 m.J 66 46 ((1 : Int64) - (m.J 66 46))) (fun hT v kk => ?_) ?_
    · refine sh_j0 (c := .ne) (off := (20)) (pc2 := 152) false rfl (sh_Bnef c) rfl ?_
      refine sh_w (i := (.aload_n 0)) (len := 1) (pc2 := 153) (lv2 := [(0, .ref 67), (2, .int x2)]) (st2 := [.ref 67]) (h2 := (sh_rep m.T m.I m.J)) rfl rfl rfl ?_
      refine sh_w (i := (.lconst 1)) (len := 1) (pc2 := 154) (lv2 := [(0, .ref 67), (2, .int x2)]) (st2 := [.long 1, .ref 67]) (h2 := (sh_rep m.T m.I m.J)) rfl rfl rfl ?_
      refine sh_w (i := (.aload_n 0)) (len := 1) (pc2 := 155) (lv2 := [(0, .ref 67), (2, .int x2)]) (st2 := [.ref 67, .long 1, .ref 67]) (h2 := (sh_rep m.T m.I m.J)) rfl rfl rfl ?_
      refine sh_gJ1 (len := 3) (x := m.J 66 46) (pc2 := 158) rfl rfl (sh_s66 hT.st) rfl rfl rfl ?_
      refine sh_w (i := .lsub) (len := 1) (pc2 := 159) (lv2 := [(0, .ref 67), (2, .int x2)]) (st2 := [.long ((1 : Int64) - (m.J 66 46)), .ref 67]) (h2 := (sh_rep m.T m.I m.J)) rfl rfl rfl ?_
      refine sh_pJ1 (x := (1 : Int64) - (m.J 66 46)) (pc2 := 162) rfl rfl (sh_s66 hT.st) rfl rfl rfl rfl ?_
      refine sh_w (i := (.aload_n 0)) (len := 1) (pc2 := 163) (lv2 := [(0, .ref 67), (2, .int x2)]) (st2 := [.ref 67]) (h2 := (sh_rep m.T m.I (sh_u2 m.J 66 46 ((1 : Int64) - (m.J 66 46))))) rfl rfl rfl ?_
      refine sh_w (i := (.iconst 1)) (len := 1) (pc2 := 164) (lv2 := [(0, .ref 67), (2, .int x2)]) (st2 := [.int 1, .ref 67]) (h2 := (sh_rep m.T m.I (sh_u2 m.J 66 46 ((1 : Int64) - (m.J 66 46))))) rfl rfl rfl ?_
      refine sh_w (i := (.iload_n 2)) (len := 1) (pc2 := 165) (lv2 := [(0, .ref 67), (2, .int x2)]) (st2 := [.int x2, .int 1, .ref 67]) (h2 := (sh_rep m.T m.I (sh_u2 m.J 66 46 ((1 : Int64) - (m.J 66 46))))) rfl rfl rfl ?_
      exact kk
    obtain ⟨r1, m11, e1, e⟩ := sh_bn_e e
    refine sh_Lk_cV (r := (some (.int (sh_b2 r1)))) (st2 := [.int (sh_b2 r1)]) (pc2 := 168) (k2 := 292) (a := 66) (as := [.ref 67, .int 1, .int x2]) (rest := []) rfl rfl rfl (fun hT => (sh_s66 hT.st)) rfl rfl ⟨Nat.le_of_ble_eq_true rfl, Nat.le_of_ble_eq_true rfl⟩ (sl_292 e1 ⟨rfl, rfl⟩) rfl rfl (Nat.le_of_ble_eq_true rfl) (Nat.le_of_ble_eq_true rfl) ?_
    obtain rfl := Option.some.inj e
    obtain ⟨rfl, rfl⟩ := tg
    exact sh_Lk_ret (i := .ireturn) rfl rfl (sh_rb rfl _) (Nat.le_of_ble_eq_true rfl) (Nat.le_of_ble_eq_true rfl)
  · refine sh_Lk_lift (T := m.T) (I := m.I) (J := m.J) (s := m.s) (pc2 := 186) (lv2 := [(0, .ref 67), (2, .int x2)]) (st2 := [.long ((m.J 66 46) ^^^ (-1 : Int64)), .int (m.I 66 44), .int (m.I 66 43), .ref 67]) (I2 := m.I) (J2 := m.J) (fun hT v kk => ?_) ?_
    · refine sh_j0 (c := .ne) (off := (20)) (pc2 := 169) true rfl (sh_Bnet c) rfl ?_
      refine sh_w (i := (.aload_n 0)) (len := 1) (pc2 := 170) (lv2 := [(0, .ref 67), (2, .int x2)]) (st2 := [.ref 67]) (h2 := (sh_rep m.T m.I m.J)) rfl rfl rfl ?_
      refine sh_w (i := (.aload_n 0)) (len := 1) (pc2 := 171) (lv2 := [(0, .ref 67), (2, .int x2)]) (st2 := [.ref 67, .ref 67]) (h2 := (sh_rep m.T m.I m.J)) rfl rfl rfl ?_
      refine sh_gI1 (len := 3) (x := m.I 66 43) (pc2 := 174) rfl rfl (sh_s66 hT.st) rfl rfl rfl ?_
      refine sh_w (i := (.aload_n 0)) (len := 1) (pc2 := 175) (lv2 := [(0, .ref 67), (2, .int x2)]) (st2 := [.ref 67, .int (m.I 66 43), .ref 67]) (h2 := (sh_rep m.T m.I m.J)) rfl rfl rfl ?_
      refine sh_gI1 (len := 3) (x := m.I 66 44) (pc2 := 178) rfl rfl (sh_s66 hT.st) rfl rfl rfl ?_
      refine sh_w (i := (.aload_n 0)) (len := 1) (pc2 := 179) (lv2 := [(0, .ref 67), (2, .int x2)]) (st2 := [.ref 67, .int (m.I 66 44), .int (m.I 66 43), .ref 67]) (h2 := (sh_rep m.T m.I m.J)) rfl rfl rfl ?_
      refine sh_gJ1 (len := 3) (x := m.J 66 46) (pc2 := 182) rfl rfl (sh_s66 hT.st) rfl rfl rfl ?_
      refine sh_w (i := (.ldc2_w 466)) (len := 3) (pc2 := 185) (lv2 := [(0, .ref 67), (2, .int x2)]) (st2 := [.long (-1), .long (m.J 66 46), .int (m.I 66 44), .int (m.I 66 43), .ref 67]) (h2 := (sh_rep m.T m.I m.J)) rfl rfl rfl ?_
      refine sh_w (i := .lxor) (len := 1) (pc2 := 186) (lv2 := [(0, .ref 67), (2, .int x2)]) (st2 := [.long ((m.J 66 46) ^^^ (-1 : Int64)), .int (m.I 66 44), .int (m.I 66 43), .ref 67]) (h2 := (sh_rep m.T m.I m.J)) rfl rfl rfl ?_
      exact kk
    refine sh_Lk_cS (r := (some (.long (sf_288 (m.I 66 43) (m.I 66 44) ((m.J 66 46) ^^^ (-1 : Int64)))))) (st2 := [.long (sf_288 (m.I 66 43) (m.I 66 44) ((m.J 66 46) ^^^ (-1 : Int64))), .ref 67]) (pc2 := 189) (k2 := 288) (as := [.int (m.I 66 43), .int (m.I 66 44), .long ((m.J 66 46) ^^^ (-1 : Int64))]) (rest := [.ref 67]) rfl rfl (by decide) (Nat.le_of_ble_eq_true rfl) rfl rfl ⟨Nat.le_of_ble_eq_true rfl, Nat.le_of_ble_eq_true rfl⟩ (sl_288 (m := m) rfl ⟨rfl, rfl⟩) rfl rfl (Nat.le_of_ble_eq_true rfl) (Nat.le_of_ble_eq_true rfl) ?_
    refine sh_Lk_lift (T := m.T) (I := m.I) (J := m.J) (s := m.s) (pc2 := 198) (lv2 := [(0, .ref 67), (2, .int x2)]) (st2 := [.int x2, .int (m.I 66 44), .ref 67]) (I2 := m.I) (J2 := sh_u2 m.J 66 46 (sf_288 (m.I 66 43) (m.I 66 44) ((m.J 66 46) ^^^ (-1 : Int64)))) (fun hT v kk => ?_) ?_
    · refine sh_pJ1 (x := sf_288 (m.I 66 43) (m.I 66 44) ((m.J 66 46) ^^^ (-1 : Int64))) (pc2 := 192) rfl rfl (sh_s66 hT.st) rfl rfl rfl rfl ?_
      refine sh_w (i := (.aload_n 0)) (len := 1) (pc2 := 193) (lv2 := [(0, .ref 67), (2, .int x2)]) (st2 := [.ref 67]) (h2 := (sh_rep m.T m.I (sh_u2 m.J 66 46 (sf_288 (m.I 66 43) (m.I 66 44) ((m.J 66 46) ^^^ (-1 : Int64)))))) rfl rfl rfl ?_
      refine sh_w (i := (.aload_n 0)) (len := 1) (pc2 := 194) (lv2 := [(0, .ref 67), (2, .int x2)]) (st2 := [.ref 67, .ref 67]) (h2 := (sh_rep m.T m.I (sh_u2 m.J 66 46 (sf_288 (m.I 66 43) (m.I 66 44) ((m.J 66 46) ^^^ (-1 : Int64)))))) rfl rfl rfl ?_
      refine sh_gI1 (len := 3) (x := m.I 66 44) (pc2 := 197) rfl rfl (sh_s66 hT.st) rfl rfl rfl ?_
      refine sh_w (i := (.iload_n 2)) (len := 1) (pc2 := 198) (lv2 := [(0, .ref 67), (2, .int x2)]) (st2 := [.int x2, .int (m.I 66 44), .ref 67]) (h2 := (sh_rep m.T m.I (sh_u2 m.J 66 46 (sf_288 (m.I 66 43) (m.I 66 44) ((m.J 66 46) ^^^ (-1 : Int64)))))) rfl rfl rfl ?_
      exact kk
    obtain ⟨r3, m13, e3, e⟩ := sh_bn_e e
    refine sh_Lk_cV (r := (some (.int (sh_b2 r3)))) (st2 := [.int (sh_b2 r3)]) (pc2 := 201) (k2 := 292) (a := 66) (as := [.ref 67, .int (m.I 66 44), .int x2]) (rest := []) rfl rfl rfl (fun hT => (sh_s66 hT.st)) rfl rfl ⟨Nat.le_of_ble_eq_true rfl, Nat.le_of_ble_eq_true rfl⟩ (sl_292 e3 ⟨rfl, rfl⟩) rfl rfl (Nat.le_of_ble_eq_true rfl) (Nat.le_of_ble_eq_true rfl) ?_
    obtain rfl := Option.some.inj e
    obtain ⟨rfl, rfl⟩ := tg
    exact sh_Lk_ret (i := .ireturn) rfl rfl (sh_rb rfl _) (Nat.le_of_ble_eq_true rfl) (Nat.le_of_ble_eq_true rfl)
theorem sl_301 {x1 : Int32} {m m2 : sh_X} {o : Outcome} {z : (Bool × sh_X)} (e : sf_301 x1 m = some z) (tg : (sh_tZ o m2) z) : sh_Lk 301 0 [(0, .ref 67), (1, .int x1)] [] m o m2 12 289 := by
  unfold sf_301 at e
  refine sh_Lk_lift (T := m.T) (I := m.I) (J := m.J) (s := m.s) (pc2 := 5) (lv2 := [(0, .ref 67), (1, .int x1)]) (st2 := [.int x1, .ref 74]) (I2 := m.I) (J2 := m.J) (fun hT v kk => ?_) ?_
  · refine sh_w (i := (.aload_n 0)) (len := 1) (pc2 := 1) (lv2 := [(0, .ref 67), (1, .int x1)]) (st2 := [.ref 67]) (h2 := (sh_rep m.T m.I m.J)) rfl rfl rfl ?_
    refine sh_gR1 (len := 3) (x := .ref 74) (pc2 := 4) rfl rfl (sh_s66 hT.st) rfl rfl ?_
    refine sh_w (i := (.iload_n 1)) (len := 1) (pc2 := 5) (lv2 := [(0, .ref 67), (1, .int x1)]) (st2 := [.int x1, .ref 74]) (h2 := (sh_rep m.T m.I m.J)) rfl rfl rfl ?_
    exact kk
  obtain ⟨c, e⟩ := sh_gd e
  refine sh_Lk_lift (T := m.T) (I := m.I) (J := m.J) (s := m.s) (pc2 := 12) (lv2 := [(2, .int (m.I 73 (Int32.toNatClampNeg x1))), (0, .ref 67), (1, .int x1)]) (st2 := [.int (m.I 73 (Int32.toNatClampNeg x1)), .ref 69]) (I2 := m.I) (J2 := m.J) (fun hT v kk => ?_) ?_
  · refine sh_ia1 (x := m.I 73 (Int32.toNatClampNeg x1)) (pc2 := 6) rfl (sh_s73 hT.st) (sh_okb1 c) (sh_okb2 c) rfl rfl ?_
    refine sh_w (i := (.istore_n 2)) (len := 1) (pc2 := 7) (lv2 := [(2, .int (m.I 73 (Int32.toNatClampNeg x1))), (0, .ref 67), (1, .int x1)]) (st2 := []) (h2 := (sh_rep m.T m.I m.J)) rfl rfl rfl ?_
    refine sh_w (i := (.aload_n 0)) (len := 1) (pc2 := 8) (lv2 := [(2, .int (m.I 73 (Int32.toNatClampNeg x1))), (0, .ref 67), (1, .int x1)]) (st2 := [.ref 67]) (h2 := (sh_rep m.T m.I m.J)) rfl rfl rfl ?_
    refine sh_gR1 (len := 3) (x := .ref 69) (pc2 := 11) rfl rfl (sh_s66 hT.st) rfl rfl ?_
    refine sh_w (i := (.iload_n 2)) (len := 1) (pc2 := 12) (lv2 := [(2, .int (m.I 73 (Int32.toNatClampNeg x1))), (0, .ref 67), (1, .int x1)]) (st2 := [.int (m.I 73 (Int32.toNatClampNeg x1)), .ref 69]) (h2 := (sh_rep m.T m.I m.J)) rfl rfl rfl ?_
    exact kk
  obtain ⟨c, e⟩ := sh_gd e
  refine sh_Lk_lift (T := m.T) (I := m.I) (J := m.J) (s := m.s) (pc2 := 15) (lv2 := [(2, .int (m.I 73 (Int32.toNatClampNeg x1))), (0, .ref 67), (1, .int x1)]) (st2 := [.int 45, .int (m.I 68 (Int32.toNatClampNeg (m.I 73 (Int32.toNatClampNeg x1))))]) (I2 := m.I) (J2 := m.J) (fun hT v kk => ?_) ?_
  · refine sh_ia1 (x := m.I 68 (Int32.toNatClampNeg (m.I 73 (Int32.toNatClampNeg x1)))) (pc2 := 13) rfl (sh_s68 hT.st) (sh_okb1 c) (sh_okb2 c) rfl rfl ?_
    refine sh_w (i := (.bipush 45)) (len := 2) (pc2 := 15) (lv2 := [(2, .int (m.I 73 (Int32.toNatClampNeg x1))), (0, .ref 67), (1, .int x1)]) (st2 := [.int 45, .int (m.I 68 (Int32.toNatClampNeg (m.I 73 (Int32.toNatClampNeg x1))))]) (h2 := (sh_rep m.T m.I m.J)) rfl rfl rfl ?_
    exact kk
  rcases sh_ite e with ⟨c, e⟩ | ⟨c, e⟩
  · refine sh_Lk_lift (T := m.T) (I := m.I) (J := m.J) (s := m.s) (pc2 := 23) (lv2 := [(2, .int (m.I 73 (Int32.toNatClampNeg x1))), (0, .ref 67), (1, .int x1)]) (st2 := [.int 3, .int (m.I 66 43)]) (I2 := m.I) (J2 := m.J) (fun hT v kk => ?_) ?_
    · refine sh_jc (c := .ne) (off := (78)) (pc2 := 18) false rfl (sh_Bnef c) rfl ?_
      refine sh_w (i := (.aload_n 0)) (len := 1) (pc2 := 19) (lv2 := [(2, .int (m.I 73 (Int32.toNatClampNeg x1))), (0, .ref 67), (1, .int x1)]) (st2 := [.ref 67]) (h2 := (sh_rep m.T m.I m.J)) rfl rfl rfl ?_
      refine sh_gI1 (len := 3) (x := m.I 66 43) (pc2 := 22) rfl rfl (sh_s66 hT.st) rfl rfl rfl ?_
      refine sh_w (i := (.iconst 3)) (len := 1) (pc2 := 23) (lv2 := [(2, .int (m.I 73 (Int32.toNatClampNeg x1))), (0, .ref 67), (1, .int x1)]) (st2 := [.int 3, .int (m.I 66 43)]) (h2 := (sh_rep m.T m.I m.J)) rfl rfl rfl ?_
      exact kk
    rcases sh_ite e with ⟨c, e⟩ | ⟨c, e⟩
    · refine sh_Lk_lift (T := m.T) (I := m.I) (J := m.J) (s := m.s) (pc2 := 36) (lv2 := [(2, .int (m.I 73 (Int32.toNatClampNeg x1))), (0, .ref 67), (1, .int x1)]) (st2 := [.int 1]) (I2 := m.I) (J2 := sh_u2 m.J 66 46 (-(m.J 66 46))) (fun hT v kk => ?_) ?_
      · refine sh_jc (c := .ne) (off := (14)) (pc2 := 26) false rfl (sh_Bnef c) rfl ?_
        refine sh_w (i := (.aload_n 0)) (len := 1) (pc2 := 27) (lv2 := [(2, .int (m.I 73 (Int32.toNatClampNeg x1))), (0, .ref 67), (1, .int x1)]) (st2 := [.ref 67]) (h2 := (sh_rep m.T m.I m.J)) rfl rfl rfl ?_
        refine sh_w (i := (.aload_n 0)) (len := 1) (pc2 := 28) (lv2 := [(2, .int (m.I 73 (Int32.toNatClampNeg x1))), (0, .ref 67), (1, .int x1)]) (st2 := [.ref 67, .ref 67]) (h2 := (sh_rep m.T m.I m.J)) rfl rfl rfl ?_
        refine sh_gJ1 (len := 3) (x := m.J 66 46) (pc2 := 31) rfl rfl (sh_s66 hT.st) rfl rfl rfl ?_
        refine sh_w (i := .lneg) (len := 1) (pc2 := 32) (lv2 := [(2, .int (m.I 73 (Int32.toNatClampNeg x1))), (0, .ref 67), (1, .int x1)]) (st2 := [.long (-(m.J 66 46)), .ref 67]) (h2 := (sh_rep m.T m.I m.J)) rfl rfl rfl ?_
        refine sh_pJ1 (x := -(m.J 66 46)) (pc2 := 35) rfl rfl (sh_s66 hT.st) rfl rfl rfl rfl ?_
        refine sh_w (i := (.iconst 1)) (len := 1) (pc2 := 36) (lv2 := [(2, .int (m.I 73 (Int32.toNatClampNeg x1))), (0, .ref 67), (1, .int x1)]) (st2 := [.int 1]) (h2 := (sh_rep m.T m.I (sh_u2 m.J 66 46 (-(m.J 66 46))))) rfl rfl rfl ?_
        exact kk
      obtain rfl := Option.some.inj e
      obtain ⟨rfl, rfl⟩ := tg
      exact sh_Lk_ret (i := .ireturn) rfl rfl rfl (Nat.le_of_ble_eq_true rfl) (Nat.le_of_ble_eq_true rfl)
    · refine sh_Lk_lift (T := m.T) (I := m.I) (J := m.J) (s := m.s) (pc2 := 41) (lv2 := [(2, .int (m.I 73 (Int32.toNatClampNeg x1))), (0, .ref 67), (1, .int x1)]) (st2 := [.int (m.I 66 43)]) (I2 := m.I) (J2 := m.J) (fun hT v kk => ?_) ?_
      · refine sh_jc (c := .ne) (off := (14)) (pc2 := 37) true rfl (sh_Bnet c) rfl ?_
        refine sh_w (i := (.aload_n 0)) (len := 1) (pc2 := 38) (lv2 := [(2, .int (m.I 73 (Int32.toNatClampNeg x1))), (0, .ref 67), (1, .int x1)]) (st2 := [.ref 67]) (h2 := (sh_rep m.T m.I m.J)) rfl rfl rfl ?_
        refine sh_gI1 (len := 3) (x := m.I 66 43) (pc2 := 41) rfl rfl (sh_s66 hT.st) rfl rfl rfl ?_
        exact kk
      rcases sh_ite e with ⟨c, e⟩ | ⟨c, e⟩
      · refine sh_Lk_lift (T := m.T) (I := m.I) (J := m.J) (s := m.s) (pc2 := 51) (lv2 := [(2, .int (m.I 73 (Int32.toNatClampNeg x1))), (0, .ref 67), (1, .int x1)]) (st2 := []) (I2 := m.I) (J2 := m.J) (fun hT v kk => ?_) ?_
        · refine sh_j0 (c := .eq) (off := (10)) (pc2 := 51) true rfl (sh_Beqt c) rfl ?_
          exact kk
        exact sh_Lk_sub (sh_sub_c rfl (sh_sub_c rfl (sh_sub_n))) (sl_301_51 e tg)
      · refine sh_Lk_lift (T := m.T) (I := m.I) (J := m.J) (s := m.s) (pc2 := 48) (lv2 := [(2, .int (m.I 73 (Int32.toNatClampNeg x1))), (0, .ref 67), (1, .int x1)]) (st2 := [.int (m.I 66 45)]) (I2 := m.I) (J2 := m.J) (fun hT v kk => ?_) ?_
        · refine sh_j0 (c := .eq) (off := (10)) (pc2 := 44) false rfl (sh_Beqf c) rfl ?_
          refine sh_w (i := (.aload_n 0)) (len := 1) (pc2 := 45) (lv2 := [(2, .int (m.I 73 (Int32.toNatClampNeg x1))), (0, .ref 67), (1, .int x1)]) (st2 := [.ref 67]) (h2 := (sh_rep m.T m.I m.J)) rfl rfl rfl ?_
          refine sh_gI1 (len := 3) (x := m.I 66 45) (pc2 := 48) rfl rfl (sh_s66 hT.st) rfl rfl rfl ?_
          exact kk
        rcases sh_ite e with ⟨c, e⟩ | ⟨c, e⟩
        · refine sh_Lk_lift (T := m.T) (I := m.I) (J := m.J) (s := m.s) (pc2 := 51) (lv2 := [(2, .int (m.I 73 (Int32.toNatClampNeg x1))), (0, .ref 67), (1, .int x1)]) (st2 := []) (I2 := m.I) (J2 := m.J) (fun hT v kk => ?_) ?_
          · refine sh_j0 (c := .le) (off := (15)) (pc2 := 51) false rfl (sh_Blef c) rfl ?_
            exact kk
          exact sh_Lk_sub (sh_sub_c rfl (sh_sub_c rfl (sh_sub_n))) (sl_301_51 e tg)
        · refine sh_Lk_lift (T := m.T) (I := m.I) (J := m.J) (s := m.s) (pc2 := 77) (lv2 := [(2, .int (m.I 73 (Int32.toNatClampNeg x1))), (0, .ref 67), (1, .int x1)]) (st2 := [.long (-(m.J 66 46)), .int (m.I 66 44), .int (m.I 66 43), .ref 67]) (I2 := m.I) (J2 := m.J) (fun hT v kk => ?_) ?_
          · refine sh_j0 (c := .le) (off := (15)) (pc2 := 63) true rfl (sh_Blet c) rfl ?_
            refine sh_w (i := (.aload_n 0)) (len := 1) (pc2 := 64) (lv2 := [(2, .int (m.I 73 (Int32.toNatClampNeg x1))), (0, .ref 67), (1, .int x1)]) (st2 := [.ref 67]) (h2 := (sh_rep m.T m.I m.J)) rfl rfl rfl ?_
            refine sh_w (i := (.aload_n 0)) (len := 1) (pc2 := 65) (lv2 := [(2, .int (m.I 73 (Int32.toNatClampNeg x1))), (0, .ref 67), (1, .int x1)]) (st2 := [.ref 67, .ref 67]) (h2 := (sh_rep m.T m.I m.J)) rfl rfl rfl ?_
            refine sh_gI1 (len := 3) (x := m.I 66 43) (pc2 := 68) rfl rfl (sh_s66 hT.st) rfl rfl rfl ?_
            refine sh_w (i := (.aload_n 0)) (len := 1) (pc2 := 69) (lv2 := [(2, .int (m.I 73 (Int32.toNatClampNeg x1))), (0, .ref 67), (1, .int x1)]) (st2 := [.ref 67, .int (m.I 66 43), .ref 67]) (h2 := (sh_rep m.T m.I m.J)) rfl rfl rfl ?_
            refine sh_gI1 (len := 3) (x := m.I 66 44) (pc2 := 72) rfl rfl (sh_s66 hT.st) rfl rfl rfl ?_
            refine sh_w (i := (.aload_n 0)) (len := 1) (pc2 := 73) (lv2 := [(2, .int (m.I 73 (Int32.toNatClampNeg x1))), (0, .ref 67), (1, .int x1)]) (st2 := [.ref 67, .int (m.I 66 44), .int (m.I 66 43), .ref 67]) (h2 := (sh_rep m.T m.I m.J)) rfl rfl rfl ?_
            refine sh_gJ1 (len := 3) (x := m.J 66 46) (pc2 := 76) rfl rfl (sh_s66 hT.st) rfl rfl rfl ?_
            refine sh_w (i := .lneg) (len := 1) (pc2 := 77) (lv2 := [(2, .int (m.I 73 (Int32.toNatClampNeg x1))), (0, .ref 67), (1, .int x1)]) (st2 := [.long (-(m.J 66 46)), .int (m.I 66 44), .int (m.I 66 43), .ref 67]) (h2 := (sh_rep m.T m.I m.J)) rfl rfl rfl ?_
            exact kk
          refine sh_Lk_cS (r := (some (.long (sf_288 (m.I 66 43) (m.I 66 44) (-(m.J 66 46)))))) (st2 := [.long (sf_288 (m.I 66 43) (m.I 66 44) (-(m.J 66 46))), .ref 67]) (pc2 := 80) (k2 := 288) (as := [.int (m.I 66 43), .int (m.I 66 44), .long (-(m.J 66 46))]) (rest := [.ref 67]) rfl rfl (by decide) (Nat.le_of_ble_eq_true rfl) rfl rfl ⟨Nat.le_of_ble_eq_true rfl, Nat.le_of_ble_eq_true rfl⟩ (sl_288 (m := m) rfl ⟨rfl, rfl⟩) rfl rfl (Nat.le_of_ble_eq_true rfl) (Nat.le_of_ble_eq_true rfl) ?_
          refine sh_Lk_lift (T := m.T) (I := m.I) (J := m.J) (s := m.s) (pc2 := 89) (lv2 := [(2, .int (m.I 73 (Int32.toNatClampNeg x1))), (0, .ref 67), (1, .int x1)]) (st2 := [.int (m.I 73 (Int32.toNatClampNeg x1)), .int (m.I 66 44), .ref 67]) (I2 := m.I) (J2 := sh_u2 m.J 66 46 (sf_288 (m.I 66 43) (m.I 66 44) (-(m.J 66 46)))) (fun hT v kk => ?_) ?_
          · refine sh_pJ1 (x := sf_288 (m.I 66 43) (m.I 66 44) (-(m.J 66 46))) (pc2 := 83) rfl rfl (sh_s66 hT.st) rfl rfl rfl rfl ?_
            refine sh_w (i := (.aload_n 0)) (len := 1) (pc2 := 84) (lv2 := [(2, .int (m.I 73 (Int32.toNatClampNeg x1))), (0, .ref 67), (1, .int x1)]) (st2 := [.ref 67]) (h2 := (sh_rep m.T m.I (sh_u2 m.J 66 46 (sf_288 (m.I 66 43) (m.I 66 44) (-(m.J 66 46)))))) rfl rfl rfl ?_
            refine sh_w (i := (.aload_n 0)) (len := 1) (pc2 := 85) (lv2 := [(2, .int (m.I 73 (Int32.toNatClampNeg x1))), (0, .ref 67), (1, .int x1)]) (st2 := [.ref 67, .ref 67]) (h2 := (sh_rep m.T m.I (sh_u2 m.J 66 46 (sf_288 (m.I 66 43) (m.I 66 44) (-(m.J 66 46)))))) rfl rfl rfl ?_
            refine sh_gI1 (len := 3) (x := m.I 66 44) (pc2 := 88) rfl rfl (sh_s66 hT.st) rfl rfl rfl ?_
            refine sh_w (i := (.iload_n 2)) (len := 1) (pc2 := 89) (lv2 := [(2, .int (m.I 73 (Int32.toNatClampNeg x1))), (0, .ref 67), (1, .int x1)]) (st2 := [.int (m.I 73 (Int32.toNatClampNeg x1)), .int (m.I 66 44), .ref 67]) (h2 := (sh_rep m.T m.I (sh_u2 m.J 66 46 (sf_288 (m.I 66 43) (m.I 66 44) (-(m.J 66 46)))))) rfl rfl rfl ?_
            exact kk
          obtain ⟨r2, m12, e2, e⟩ := sh_bn_e e
          refine sh_Lk_cV (r := (some (.int (sh_b2 r2)))) (st2 := [.int (sh_b2 r2)]) (pc2 := 92) (k2 := 292) (a := 66) (as := [.ref 67, .int (m.I 66 44), .int (m.I 73 (Int32.toNatClampNeg x1))]) (rest := []) rfl rfl rfl (fun hT => (sh_s66 hT.st)) rfl rfl ⟨Nat.le_of_ble_eq_true rfl, Nat.le_of_ble_eq_true rfl⟩ (sl_292 e2 ⟨rfl, rfl⟩) rfl rfl (Nat.le_of_ble_eq_true rfl) (Nat.le_of_ble_eq_true rfl) ?_
          obtain rfl := Option.some.inj e
          obtain ⟨rfl, rfl⟩ := tg
          exact sh_Lk_ret (i := .ireturn) rfl rfl (sh_rb rfl _) (Nat.le_of_ble_eq_true rfl) (Nat.le_of_ble_eq_true rfl)
  · refine sh_Lk_lift (T := m.T) (I := m.I) (J := m.J) (s := m.s) (pc2 := 99) (lv2 := [(2, .int (m.I 73 (Int32.toNatClampNeg x1))), (0, .ref 67), (1, .int x1)]) (st2 := [.int x1, .ref 75, .ref 67]) (I2 := m.I) (J2 := m.J) (fun hT v kk => ?_) ?_
    · refine sh_jc (c := .ne) (off := (78)) (pc2 := 93) true rfl (sh_Bnet c) rfl ?_
      refine sh_w (i := (.aload_n 0)) (len := 1) (pc2 := 94) (lv2 := [(2, .int (m.I 73 (Int32.toNatClampNeg x1))), (0, .ref 67), (1, .int x1)]) (st2 := [.ref 67]) (h2 := (sh_rep m.T m.I m.J)) rfl rfl rfl ?_
      refine sh_w (i := (.aload_n 0)) (len := 1) (pc2 := 95) (lv2 := [(2, .int (m.I 73 (Int32.toNatClampNeg x1))), (0, .ref 67), (1, .int x1)]) (st2 := [.ref 67, .ref 67]) (h2 := (sh_rep m.T m.I m.J)) rfl rfl rfl ?_
      refine sh_gR1 (len := 3) (x := .ref 75) (pc2 := 98) rfl rfl (sh_s66 hT.st) rfl rfl ?_
      refine sh_w (i := (.iload_n 1)) (len := 1) (pc2 := 99) (lv2 := [(2, .int (m.I 73 (Int32.toNatClampNeg x1))), (0, .ref 67), (1, .int x1)]) (st2 := [.int x1, .ref 75, .ref 67]) (h2 := (sh_rep m.T m.I m.J)) rfl rfl rfl ?_
      exact kk
    obtain ⟨c, e⟩ := sh_gd e
    refine sh_Lk_lift (T := m.T) (I := m.I) (J := m.J) (s := m.s) (pc2 := 100) (lv2 := [(2, .int (m.I 73 (Int32.toNatClampNeg x1))), (0, .ref 67), (1, .int x1)]) (st2 := [.int (m.I 74 (Int32.toNatClampNeg x1)), .ref 67]) (I2 := m.I) (J2 := m.J) (fun hT v kk => ?_) ?_
    · refine sh_ia1 (x := m.I 74 (Int32.toNatClampNeg x1)) (pc2 := 100) rfl (sh_s74 hT.st) (sh_okb1 c) (sh_okb2 c) rfl rfl ?_
      exact kk
    obtain ⟨r3, m13, e3, e⟩ := sh_bn_e e
    refine sh_Lk_cV (r := (some (.int (sh_b2 r3)))) (st2 := [.int (sh_b2 r3)]) (pc2 := 103) (k2 := 298) (a := 66) (as := [.ref 67, .int (m.I 74 (Int32.toNatClampNeg x1))]) (rest := []) rfl rfl rfl (fun hT => (sh_s66 hT.st)) rfl rfl ⟨Nat.le_of_ble_eq_true rfl, Nat.le_of_ble_eq_true rfl⟩ (sl_298 e3 ⟨rfl, rfl⟩) rfl rfl (Nat.le_of_ble_eq_true rfl) (Nat.le_of_ble_eq_true rfl) ?_
    rcases sh_ite e with ⟨c, e⟩ | ⟨c, e⟩
    · refine sh_Lk_lift (T := m13.T) (I := m13.I) (J := m13.J) (s := m13.s) (pc2 := 112) (lv2 := [(2, .int (m.I 73 (Int32.toNatClampNeg x1))), (0, .ref 67), (1, .int x1)]) (st2 := [.int (m13.I 66 45)]) (I2 := m13.I) (J2 := m13.J) (fun hT v kk => ?_) ?_
      · refine sh_j0 (c := .ne) (off := (5)) (pc2 := 108) true rfl (sh_Znet c) rfl ?_
        refine sh_w (i := (.aload_n 0)) (len := 1) (pc2 := 109) (lv2 := [(2, .int (m.I 73 (Int32.toNatClampNeg x1))), (0, .ref 67), (1, .int x1)]) (st2 := [.ref 67]) (h2 := (sh_rep m13.T m13.I m13.J)) rfl rfl rfl ?_
        refine sh_gI1 (len := 3) (x := m13.I 66 45) (pc2 := 112) rfl rfl (sh_s66 hT.st) rfl rfl rfl ?_
        exact kk
      rcases sh_ite e with ⟨c, e⟩ | ⟨c, e⟩
      · refine sh_Lk_lift (T := m13.T) (I := m13.I) (J := m13.J) (s := m13.s) (pc2 := 133) (lv2 := [(2, .int (m.I 73 (Int32.toNatClampNeg x1))), (0, .ref 67), (1, .int x1)]) (st2 := []) (I2 := m13.I) (J2 := m13.J) (fun hT v kk => ?_) ?_
        · refine sh_j0 (c := .gt) (off := (21)) (pc2 := 133) true rfl (sh_Bgtt c) rfl ?_
          exact kk
        exact sh_Lk_sub (sh_sub_c rfl (sh_sub_c rfl (sh_sub_n))) (sl_301_133 e tg)
      · refine sh_Lk_lift (T := m13.T) (I := m13.I) (J := m13.J) (s := m13.s) (pc2 := 120) (lv2 := [(2, .int (m.I 73 (Int32.toNatClampNeg x1))), (0, .ref 67), (1, .int x1)]) (st2 := [.int (m.I 73 (Int32.toNatClampNeg x1)), .ref 69]) (I2 := m13.I) (J2 := m13.J) (fun hT v kk => ?_) ?_
        · refine sh_j0 (c := .gt) (off := (21)) (pc2 := 115) false rfl (sh_Bgtf c) rfl ?_
          refine sh_w (i := (.aload_n 0)) (len := 1) (pc2 := 116) (lv2 := [(2, .int (m.I 73 (Int32.toNatClampNeg x1))), (0, .ref 67), (1, .int x1)]) (st2 := [.ref 67]) (h2 := (sh_rep m13.T m13.I m13.J)) rfl rfl rfl ?_
          refine sh_gR1 (len := 3) (x := .ref 69) (pc2 := 119) rfl rfl (sh_s66 hT.st) rfl rfl ?_
          refine sh_w (i := (.iload_n 2)) (len := 1) (pc2 := 120) (lv2 := [(2, .int (m.I 73 (Int32.toNatClampNeg x1))), (0, .ref 67), (1, .int x1)]) (st2 := [.int (m.I 73 (Int32.toNatClampNeg x1)), .ref 69]) (h2 := (sh_rep m13.T m13.I m13.J)) rfl rfl rfl ?_
          exact kk
        obtain ⟨c, e⟩ := sh_gd e
        refine sh_Lk_lift (T := m13.T) (I := m13.I) (J := m13.J) (s := m13.s) (pc2 := 123) (lv2 := [(2, .int (m.I 73 (Int32.toNatClampNeg x1))), (0, .ref 67), (1, .int x1)]) (st2 := [.int 33, .int (m13.I 68 (Int32.toNatClampNeg (m.I 73 (Int32.toNatClampNeg x1))))]) (I2 := m13.I) (J2 := m13.J) (fun hT v kk => ?_) ?_
        · refine sh_ia1 (x := m13.I 68 (Int32.toNatClampNeg (m.I 73 (Int32.toNatClampNeg x1)))) (pc2 := 121) rfl (sh_s68 hT.st) (sh_okb1 c) (sh_okb2 c) rfl rfl ?_
          refine sh_w (i := (.bipush 33)) (len := 2) (pc2 := 123) (lv2 := [(2, .int (m.I 73 (Int32.toNatClampNeg x1))), (0, .ref 67), (1, .int x1)]) (st2 := [.int 33, .int (m13.I 68 (Int32.toNatClampNeg (m.I 73 (Int32.toNatClampNeg x1))))]) (h2 := (sh_rep m13.T m13.I m13.J)) rfl rfl rfl ?_
          exact kk
        rcases sh_ite e with ⟨c, e⟩ | ⟨c, e⟩
        · refine sh_Lk_lift (T := m13.T) (I := m13.I) (J := m13.J) (s := m13.s) (pc2 := 130) (lv2 := [(2, .int (m.I 73 (Int32.toNatClampNeg x1))), (0, .ref 67), (1, .int x1)]) (st2 := [.int (m13.I 66 43)]) (I2 := m13.I) (J2 := m13.J) (fun hT v kk => ?_) ?_
          · refine sh_jc (c := .ne) (off := (22)) (pc2 := 126) false rfl (sh_Bnef c) rfl ?_
            refine sh_w (i := (.aload_n 0)) (len := 1) (pc2 := 127) (lv2 := [(2, .int (m.I 73 (Int32.toNatClampNeg x1))), (0, .ref 67), (1, .int x1)]) (st2 := [.ref 67]) (h2 := (sh_rep m13.T m13.I m13.J)) rfl rfl rfl ?_
            refine sh_gI1 (len := 3) (x := m13.I 66 43) (pc2 := 130) rfl rfl (sh_s66 hT.st) rfl rfl rfl ?_
            exact kk
          rcases sh_ite e with ⟨c, e⟩ | ⟨c, e⟩
          · refine sh_Lk_lift (T := m13.T) (I := m13.I) (J := m13.J) (s := m13.s) (pc2 := 145) (lv2 := [(2, .int (m.I 73 (Int32.toNatClampNeg x1))), (0, .ref 67), (1, .int x1)]) (st2 := []) (I2 := m13.I) (J2 := m13.J) (fun hT v kk => ?_) ?_
            · refine sh_j0 (c := .eq) (off := (15)) (pc2 := 145) true rfl (sh_Beqt c) rfl ?_
              exact kk
            exact sh_Lk_sub (sh_sub_c rfl (sh_sub_c rfl (sh_sub_n))) (sl_301_145 e tg)
          · refine sh_Lk_lift (T := m13.T) (I := m13.I) (J := m13.J) (s := m13.s) (pc2 := 133) (lv2 := [(2, .int (m.I 73 (Int32.toNatClampNeg x1))), (0, .ref 67), (1, .int x1)]) (st2 := []) (I2 := m13.I) (J2 := m13.J) (fun hT v kk => ?_) ?_
            · refine sh_j0 (c := .eq) (off := (15)) (pc2 := 133) false rfl (sh_Beqf c) rfl ?_
              exact kk
            exact sh_Lk_sub (sh_sub_c rfl (sh_sub_c rfl (sh_sub_n))) (sl_301_133 e tg)
        · refine sh_Lk_lift (T := m13.T) (I := m13.I) (J := m13.J) (s := m13.s) (pc2 := 145) (lv2 := [(2, .int (m.I 73 (Int32.toNatClampNeg x1))), (0, .ref 67), (1, .int x1)]) (st2 := []) (I2 := m13.I) (J2 := m13.J) (fun hT v kk => ?_) ?_
          · refine sh_jc (c := .ne) (off := (22)) (pc2 := 145) true rfl (sh_Bnet c) rfl ?_
            exact kk
          exact sh_Lk_sub (sh_sub_c rfl (sh_sub_c rfl (sh_sub_n))) (sl_301_145 e tg)
    · refine sh_Lk_lift (T := m13.T) (I := m13.I) (J := m13.J) (s := m13.s) (pc2 := 107) (lv2 := [(2, .int (m.I 73 (Int32.toNatClampNeg x1))), (0, .ref 67), (1, .int x1)]) (st2 := [.int 0]) (I2 := m13.I) (J2 := m13.J) (fun hT v kk => ?_) ?_
      · refine sh_j0 (c := .ne) (off := (5)) (pc2 := 106) false rfl (sh_Znef c) rfl ?_
        refine sh_w (i := (.iconst 0)) (len := 1) (pc2 := 107) (lv2 := [(2, .int (m.I 73 (Int32.toNatClampNeg x1))), (0, .ref 67), (1, .int x1)]) (st2 := [.int 0]) (h2 := (sh_rep m13.T m13.I m13.J)) rfl rfl rfl ?_
        exact kk
      obtain rfl := Option.some.inj e
      obtain ⟨rfl, rfl⟩ := tg
      exact sh_Lk_ret (i := .ireturn) rfl rfl rfl (Nat.le_of_ble_eq_true rfl) (Nat.le_of_ble_eq_true rfl)
theorem sl_296 {x1 : Int32} {m m2 : sh_X} {o : Outcome} {z : (Bool × sh_X)} (e : sf_296 x1 m = some z) (tg : (sh_tZ o m2) z) : sh_Lk 296 0 [(0, .ref 67), (1, .int x1)] [] m o m2 13 314 := by
  unfold sf_296 at e
  refine sh_Lk_lift (T := m.T) (I := m.I) (J := m.J) (s := m.s) (pc2 := 12) (lv2 := [(2, .int ((m.I 66 73) - 1)), (0, .ref 67), (1, .int x1)]) (st2 := [.int ((m.I 66 73) - 1), .ref 107]) (I2 := m.I) (J2 := m.J) (fun hT v kk => ?_) ?_
  · refine sh_w (i := (.aload_n 0)) (len := 1) (pc2 := 1) (lv2 := [(0, .ref 67), (1, .int x1)]) (st2 := [.ref 67]) (h2 := (sh_rep m.T m.I m.J)) rfl rfl rfl ?_
    refine sh_gI1 (len := 3) (x := m.I 66 73) (pc2 := 4) rfl rfl (sh_s66 hT.st) rfl rfl rfl ?_
    refine sh_w (i := (.iconst 1)) (len := 1) (pc2 := 5) (lv2 := [(0, .ref 67), (1, .int x1)]) (st2 := [.int 1, .int (m.I 66 73)]) (h2 := (sh_rep m.T m.I m.J)) rfl rfl rfl ?_
    refine sh_w (i := .isub) (len := 1) (pc2 := 6) (lv2 := [(0, .ref 67), (1, .int x1)]) (st2 := [.int ((m.I 66 73) - 1)]) (h2 := (sh_rep m.T m.I m.J)) rfl rfl rfl ?_
    refine sh_w (i := (.istore_n 2)) (len := 1) (pc2 := 7) (lv2 := [(2, .int ((m.I 66 73) - 1)), (0, .ref 67), (1, .int x1)]) (st2 := []) (h2 := (sh_rep m.T m.I m.J)) rfl rfl rfl ?_
    refine sh_w (i := (.aload_n 0)) (len := 1) (pc2 := 8) (lv2 := [(2, .int ((m.I 66 73) - 1)), (0, .ref 67), (1, .int x1)]) (st2 := [.ref 67]) (h2 := (sh_rep m.T m.I m.J)) rfl rfl rfl ?_
    refine sh_gR1 (len := 3) (x := .ref 107) (pc2 := 11) rfl rfl (sh_s66 hT.st) rfl rfl ?_
    refine sh_w (i := (.iload_n 2)) (len := 1) (pc2 := 12) (lv2 := [(2, .int ((m.I 66 73) - 1)), (0, .ref 67), (1, .int x1)]) (st2 := [.int ((m.I 66 73) - 1), .ref 107]) (h2 := (sh_rep m.T m.I m.J)) rfl rfl rfl ?_
    exact kk
  obtain ⟨c, e⟩ := sh_gd e
  refine sh_Lk_lift (T := m.T) (I := m.I) (J := m.J) (s := m.s) (pc2 := 13) (lv2 := [(2, .int ((m.I 66 73) - 1)), (0, .ref 67), (1, .int x1)]) (st2 := [.int (m.I 106 (Int32.toNatClampNeg ((m.I 66 73) - 1)))]) (I2 := m.I) (J2 := m.J) (fun hT v kk => ?_) ?_
  · refine sh_ia1 (x := m.I 106 (Int32.toNatClampNeg ((m.I 66 73) - 1))) (pc2 := 13) rfl (sh_s106 hT.st) (sh_okb1 c) (sh_okb2 c) rfl rfl ?_
    exact kk
  rcases sh_ite e with ⟨c, e⟩ | ⟨c, e⟩
  · refine sh_Lk_lift (T := m.T) (I := m.I) (J := m.J) (s := m.s) (pc2 := 22) (lv2 := [(2, .int ((m.I 66 73) - 1)), (0, .ref 67), (1, .int x1)]) (st2 := [.int 1, .int ((m.I 66 73) - 1), .ref 107]) (I2 := m.I) (J2 := m.J) (fun hT v kk => ?_) ?_
    · refine sh_j0 (c := .ne) (off := (22)) (pc2 := 16) false rfl (sh_Bnef c) rfl ?_
      refine sh_w (i := (.aload_n 0)) (len := 1) (pc2 := 17) (lv2 := [(2, .int ((m.I 66 73) - 1)), (0, .ref 67), (1, .int x1)]) (st2 := [.ref 67]) (h2 := (sh_rep m.T m.I m.J)) rfl rfl rfl ?_
      refine sh_gR1 (len := 3) (x := .ref 107) (pc2 := 20) rfl rfl (sh_s66 hT.st) rfl rfl ?_
      refine sh_w (i := (.iload_n 2)) (len := 1) (pc2 := 21) (lv2 := [(2, .int ((m.I 66 73) - 1)), (0, .ref 67), (1, .int x1)]) (st2 := [.int ((m.I 66 73) - 1), .ref 107]) (h2 := (sh_rep m.T m.I m.J)) rfl rfl rfl ?_
      refine sh_w (i := (.iconst 1)) (len := 1) (pc2 := 22) (lv2 := [(2, .int ((m.I 66 73) - 1)), (0, .ref 67), (1, .int x1)]) (st2 := [.int 1, .int ((m.I 66 73) - 1), .ref 107]) (h2 := (sh_rep m.T m.I m.J)) rfl rfl rfl ?_
      exact kk
    obtain ⟨c, e⟩ := sh_gd e
    refine sh_Lk_lift (T := m.T) (I := m.I) (J := m.J) (s := m.s) (pc2 := 29) (lv2 := [(2, .int ((m.I 66 73) - 1)), (0, .ref 67), (1, .int x1)]) (st2 := [.int x1, .ref 75, .ref 67]) (I2 := sh_u2 m.I 106 (Int32.toNatClampNeg ((m.I 66 73) - 1)) 1) (J2 := m.J) (fun hT v kk => ?_) ?_
    · refine sh_is1 (x := 1) (i := (m.I 66 73) - 1) (pc2 := 23) rfl (sh_s106 hT.st) (sh_okb1 c) (sh_okb2 c) rfl ?_
      refine sh_w (i := (.aload_n 0)) (len := 1) (pc2 := 24) (lv2 := [(2, .int ((m.I 66 73) - 1)), (0, .ref 67), (1, .int x1)]) (st2 := [.ref 67]) (h2 := (sh_rep m.T (sh_u2 m.I 106 (Int32.toNatClampNeg ((m.I 66 73) - 1)) 1) m.J)) rfl rfl rfl ?_
      refine sh_w (i := (.aload_n 0)) (len := 1) (pc2 := 25) (lv2 := [(2, .int ((m.I 66 73) - 1)), (0, .ref 67), (1, .int x1)]) (st2 := [.ref 67, .ref 67]) (h2 := (sh_rep m.T (sh_u2 m.I 106 (Int32.toNatClampNeg ((m.I 66 73) - 1)) 1) m.J)) rfl rfl rfl ?_
      refine sh_gR1 (len := 3) (x := .ref 75) (pc2 := 28) rfl rfl (sh_s66 hT.st) rfl rfl ?_
      refine sh_w (i := (.iload_n 1)) (len := 1) (pc2 := 29) (lv2 := [(2, .int ((m.I 66 73) - 1)), (0, .ref 67), (1, .int x1)]) (st2 := [.int x1, .ref 75, .ref 67]) (h2 := (sh_rep m.T (sh_u2 m.I 106 (Int32.toNatClampNeg ((m.I 66 73) - 1)) 1) m.J)) rfl rfl rfl ?_
      exact kk
    obtain ⟨c, e⟩ := sh_gd e
    refine sh_Lk_lift (T := m.T) (I := sh_u2 m.I 106 (Int32.toNatClampNeg ((m.I 66 73) - 1)) 1) (J := m.J) (s := m.s) (pc2 := 30) (lv2 := [(2, .int ((m.I 66 73) - 1)), (0, .ref 67), (1, .int x1)]) (st2 := [.int (m.I 74 (Int32.toNatClampNeg x1)), .ref 67]) (I2 := sh_u2 m.I 106 (Int32.toNatClampNeg ((m.I 66 73) - 1)) 1) (J2 := m.J) (fun hT v kk => ?_) ?_
    · refine sh_ia1 (x := m.I 74 (Int32.toNatClampNeg x1)) (pc2 := 30) rfl (sh_s74 hT.st) (sh_okb1 c) (sh_okb2 c) rfl rfl ?_
      exact kk
    obtain ⟨r1, m11, e1, e⟩ := sh_bn_e e
    refine sh_Lk_cV (r := none) (st2 := []) (pc2 := 33) (k2 := 295) (a := 66) (as := [.ref 67, .int (m.I 74 (Int32.toNatClampNeg x1))]) (rest := []) rfl rfl rfl (fun hT => (sh_s66 hT.st)) rfl rfl ⟨Nat.le_of_ble_eq_true rfl, Nat.le_of_ble_eq_true rfl⟩ (sl_295 e1 ⟨rfl, rfl⟩) rfl rfl (Nat.le_of_ble_eq_true rfl) (Nat.le_of_ble_eq_true rfl) ?_
    refine sh_Lk_lift (T := m11.T) (I := m11.I) (J := m11.J) (s := m11.s) (pc2 := 34) (lv2 := [(2, .int ((m.I 66 73) - 1)), (0, .ref 67), (1, .int x1)]) (st2 := [.int 1]) (I2 := m11.I) (J2 := m11.J) (fun hT v kk => ?_) ?_
    · refine sh_w (i := (.iconst 1)) (len := 1) (pc2 := 34) (lv2 := [(2, .int ((m.I 66 73) - 1)), (0, .ref 67), (1, .int x1)]) (st2 := [.int 1]) (h2 := (sh_rep m11.T m11.I m11.J)) rfl rfl rfl ?_
      exact kk
    obtain rfl := Option.some.inj e
    obtain ⟨rfl, rfl⟩ := tg
    exact sh_Lk_ret (i := .ireturn) rfl rfl rfl (Nat.le_of_ble_eq_true rfl) (Nat.le_of_ble_eq_true rfl)
  · refine sh_Lk_lift (T := m.T) (I := m.I) (J := m.J) (s := m.s) (pc2 := 50) (lv2 := [(2, .int ((m.I 66 73) - 1)), (0, .ref 67), (1, .int x1)]) (st2 := [.int x1, .ref 73]) (I2 := sh_u2 m.I 66 73 ((m.I 66 73) - 1)) (J2 := m.J) (fun hT v kk => ?_) ?_
    · refine sh_j0 (c := .ne) (off := (22)) (pc2 := 35) true rfl (sh_Bnet c) rfl ?_
      refine sh_w (i := (.aload_n 0)) (len := 1) (pc2 := 36) (lv2 := [(2, .int ((m.I 66 73) - 1)), (0, .ref 67), (1, .int x1)]) (st2 := [.ref 67]) (h2 := (sh_rep m.T m.I m.J)) rfl rfl rfl ?_
      refine sh_w (i := .dup) (len := 1) (pc2 := 37) (lv2 := [(2, .int ((m.I 66 73) - 1)), (0, .ref 67), (1, .int x1)]) (st2 := [.ref 67, .ref 67]) (h2 := (sh_rep m.T m.I m.J)) rfl rfl rfl ?_
      refine sh_gI1 (len := 3) (x := m.I 66 73) (pc2 := 40) rfl rfl (sh_s66 hT.st) rfl rfl rfl ?_
      refine sh_w (i := (.iconst 1)) (len := 1) (pc2 := 41) (lv2 := [(2, .int ((m.I 66 73) - 1)), (0, .ref 67), (1, .int x1)]) (st2 := [.int 1, .int (m.I 66 73), .ref 67]) (h2 := (sh_rep m.T m.I m.J)) rfl rfl rfl ?_
      refine sh_w (i := .isub) (len := 1) (pc2 := 42) (lv2 := [(2, .int ((m.I 66 73) - 1)), (0, .ref 67), (1, .int x1)]) (st2 := [.int ((m.I 66 73) - 1), .ref 67]) (h2 := (sh_rep m.T m.I m.J)) rfl rfl rfl ?_
      refine sh_pI1 (x := (m.I 66 73) - 1) (pc2 := 45) rfl rfl (sh_s66 hT.st) rfl rfl rfl rfl ?_
      refine sh_w (i := (.aload_n 0)) (len := 1) (pc2 := 46) (lv2 := [(2, .int ((m.I 66 73) - 1)), (0, .ref 67), (1, .int x1)]) (st2 := [.ref 67]) (h2 := (sh_rep m.T (sh_u2 m.I 66 73 ((m.I 66 73) - 1)) m.J)) rfl rfl rfl ?_
      refine sh_gR1 (len := 3) (x := .ref 73) (pc2 := 49) rfl rfl (sh_s66 hT.st) rfl rfl ?_
      refine sh_w (i := (.iload_n 1)) (len := 1) (pc2 := 50) (lv2 := [(2, .int ((m.I 66 73) - 1)), (0, .ref 67), (1, .int x1)]) (st2 := [.int x1, .ref 73]) (h2 := (sh_rep m.T (sh_u2 m.I 66 73 ((m.I 66 73) - 1)) m.J)) rfl rfl rfl ?_
      exact kk
    obtain ⟨c, e⟩ := sh_gd e
    refine sh_Lk_lift (T := m.T) (I := sh_u2 m.I 66 73 ((m.I 66 73) - 1)) (J := m.J) (s := m.s) (pc2 := 53) (lv2 := [(2, .int ((m.I 66 73) - 1)), (0, .ref 67), (1, .int x1)]) (st2 := [.int 6, .int (m.I 72 (Int32.toNatClampNeg x1))]) (I2 := sh_u2 m.I 66 73 ((m.I 66 73) - 1)) (J2 := m.J) (fun hT v kk => ?_) ?_
    · refine sh_ia1 (x := m.I 72 (Int32.toNatClampNeg x1)) (pc2 := 51) rfl (sh_s72 hT.st) (sh_okb1 c) (sh_okb2 c) rfl rfl ?_
      refine sh_w (i := (.bipush 6)) (len := 2) (pc2 := 53) (lv2 := [(2, .int ((m.I 66 73) - 1)), (0, .ref 67), (1, .int x1)]) (st2 := [.int 6, .int (m.I 72 (Int32.toNatClampNeg x1))]) (h2 := (sh_rep m.T (sh_u2 m.I 66 73 ((m.I 66 73) - 1)) m.J)) rfl rfl rfl ?_
      exact kk
    rcases sh_ite e with ⟨c, e⟩ | ⟨c, e⟩
    · refine sh_Lk_lift (T := m.T) (I := sh_u2 m.I 66 73 ((m.I 66 73) - 1)) (J := m.J) (s := m.s) (pc2 := 58) (lv2 := [(2, .int ((m.I 66 73) - 1)), (0, .ref 67), (1, .int x1)]) (st2 := [.int x1, .ref 67]) (I2 := sh_u2 m.I 66 73 ((m.I 66 73) - 1)) (J2 := m.J) (fun hT v kk => ?_) ?_
      · refine sh_jc (c := .ne) (off := (11)) (pc2 := 56) false rfl (sh_Bnef c) rfl ?_
        refine sh_w (i := (.aload_n 0)) (len := 1) (pc2 := 57) (lv2 := [(2, .int ((m.I 66 73) - 1)), (0, .ref 67), (1, .int x1)]) (st2 := [.ref 67]) (h2 := (sh_rep m.T (sh_u2 m.I 66 73 ((m.I 66 73) - 1)) m.J)) rfl rfl rfl ?_
        refine sh_w (i := (.iload_n 1)) (len := 1) (pc2 := 58) (lv2 := [(2, .int ((m.I 66 73) - 1)), (0, .ref 67), (1, .int x1)]) (st2 := [.int x1, .ref 67]) (h2 := (sh_rep m.T (sh_u2 m.I 66 73 ((m.I 66 73) - 1)) m.J)) rfl rfl rfl ?_
        exact kk
      obtain ⟨r2, m12, e2, e⟩ := sh_bn_e e
      refine sh_Lk_cV (r := (some (.int (sh_b2 r2)))) (st2 := [.int (sh_b2 r2)]) (pc2 := 61) (k2 := 297) (a := 66) (as := [.ref 67, .int x1]) (rest := []) rfl rfl rfl (fun hT => (sh_s66 hT.st)) rfl rfl ⟨Nat.le_of_ble_eq_true rfl, Nat.le_of_ble_eq_true rfl⟩ (sl_297 e2 ⟨rfl, rfl⟩) rfl rfl (Nat.le_of_ble_eq_true rfl) (Nat.le_of_ble_eq_true rfl) ?_
      refine sh_Lk_lift (T := m12.T) (I := m12.I) (J := m12.J) (s := m12.s) (pc2 := 69) (lv2 := [(2, .int ((m.I 66 73) - 1)), (0, .ref 67), (1, .int x1)]) (st2 := [.int (sh_b2 r2)]) (I2 := m12.I) (J2 := m12.J) (fun hT v kk => ?_) ?_
      · refine sh_w (i := (.goto 8)) (len := 3) (pc2 := 69) (lv2 := [(2, .int ((m.I 66 73) - 1)), (0, .ref 67), (1, .int x1)]) (st2 := [.int (sh_b2 r2)]) (h2 := (sh_rep m12.T m12.I m12.J)) rfl rfl rfl ?_
        exact kk
      obtain rfl := Option.some.inj e
      obtain ⟨rfl, rfl⟩ := tg
      exact sh_Lk_ret (i := .ireturn) rfl rfl (sh_rb rfl _) (Nat.le_of_ble_eq_true rfl) (Nat.le_of_ble_eq_true rfl)
    · refine sh_Lk_lift (T := m.T) (I := sh_u2 m.I 66 73 ((m.I 66 73) - 1)) (J := m.J) (s := m.s) (pc2 := 66) (lv2 := [(2, .int ((m.I 66 73) - 1)), (0, .ref 67), (1, .int x1)]) (st2 := [.int x1, .ref 67]) (I2 := sh_u2 m.I 66 73 ((m.I 66 73) - 1)) (J2 := m.J) (fun hT v kk => ?_) ?_
      · refine sh_jc (c := .ne) (off := (11)) (pc2 := 64) true rfl (sh_Bnet c) rfl ?_
        refine sh_w (i := (.aload_n 0)) (len := 1) (pc2 := 65) (lv2 := [(2, .int ((m.I 66 73) - 1)), (0, .ref 67), (1, .int x1)]) (st2 := [.ref 67]) (h2 := (sh_rep m.T (sh_u2 m.I 66 73 ((m.I 66 73) - 1)) m.J)) rfl rfl rfl ?_
        refine sh_w (i := (.iload_n 1)) (len := 1) (pc2 := 66) (lv2 := [(2, .int ((m.I 66 73) - 1)), (0, .ref 67), (1, .int x1)]) (st2 := [.int x1, .ref 67]) (h2 := (sh_rep m.T (sh_u2 m.I 66 73 ((m.I 66 73) - 1)) m.J)) rfl rfl rfl ?_
        exact kk
      obtain ⟨r3, m13, e3, e⟩ := sh_bn_e e
      refine sh_Lk_cV (r := (some (.int (sh_b2 r3)))) (st2 := [.int (sh_b2 r3)]) (pc2 := 69) (k2 := 301) (a := 66) (as := [.ref 67, .int x1]) (rest := []) rfl rfl rfl (fun hT => (sh_s66 hT.st)) rfl rfl ⟨Nat.le_of_ble_eq_true rfl, Nat.le_of_ble_eq_true rfl⟩ (sl_301 e3 ⟨rfl, rfl⟩) rfl rfl (Nat.le_of_ble_eq_true rfl) (Nat.le_of_ble_eq_true rfl) ?_
      obtain rfl := Option.some.inj e
      obtain ⟨rfl, rfl⟩ := tg
      exact sh_Lk_ret (i := .ireturn) rfl rfl (sh_rb rfl _) (Nat.le_of_ble_eq_true rfl) (Nat.le_of_ble_eq_true rfl)
theorem sl_304_118 {x1 : Int32} {m m2 : sh_X} {o : Outcome} {z : (Bool × sh_X)} (e : sf_304_118 x1 m = some z) (tg : (sh_tZ o m2) z) : sh_Lk 304 118 [(0, .ref 67), (1, .int x1)] [] m o m2 12 289 := by
  unfold sf_304_118 at e
  refine sh_Lk_lift (T := m.T) (I := m.I) (J := m.J) (s := m.s) (pc2 := 129) (lv2 := [(0, .ref 67), (1, .int x1)]) (st2 := [.int x1, .ref 74, .ref 70, .int 4, .ref 67]) (I2 := m.I) (J2 := m.J) (fun hT v kk => ?_) ?_
  · refine sh_w (i := (.aload_n 0)) (len := 1) (pc2 := 119) (lv2 := [(0, .ref 67), (1, .int x1)]) (st2 := [.ref 67]) (h2 := (sh_rep m.T m.I m.J)) rfl rfl rfl ?_
    refine sh_w (i := (.iconst 4)) (len := 1) (pc2 := 120) (lv2 := [(0, .ref 67), (1, .int x1)]) (st2 := [.int 4, .ref 67]) (h2 := (sh_rep m.T m.I m.J)) rfl rfl rfl ?_
    refine sh_w (i := (.aload_n 0)) (len := 1) (pc2 := 121) (lv2 := [(0, .ref 67), (1, .int x1)]) (st2 := [.ref 67, .int 4, .ref 67]) (h2 := (sh_rep m.T m.I m.J)) rfl rfl rfl ?_
    refine sh_gR1 (len := 3) (x := .ref 70) (pc2 := 124) rfl rfl (sh_s66 hT.st) rfl rfl ?_
    refine sh_w (i := (.aload_n 0)) (len := 1) (pc2 := 125) (lv2 := [(0, .ref 67), (1, .int x1)]) (st2 := [.ref 67, .ref 70, .int 4, .ref 67]) (h2 := (sh_rep m.T m.I m.J)) rfl rfl rfl ?_
    refine sh_gR1 (len := 3) (x := .ref 74) (pc2 := 128) rfl rfl (sh_s66 hT.st) rfl rfl ?_
    refine sh_w (i := (.iload_n 1)) (len := 1) (pc2 := 129) (lv2 := [(0, .ref 67), (1, .int x1)]) (st2 := [.int x1, .ref 74, .ref 70, .int 4, .ref 67]) (h2 := (sh_rep m.T m.I m.J)) rfl rfl rfl ?_
    exact kk
  obtain ⟨c, e⟩ := sh_gd e
  refine sh_Lk_lift (T := m.T) (I := m.I) (J := m.J) (s := m.s) (pc2 := 130) (lv2 := [(0, .ref 67), (1, .int x1)]) (st2 := [.int (m.I 73 (Int32.toNatClampNeg x1)), .ref 70, .int 4, .ref 67]) (I2 := m.I) (J2 := m.J) (fun hT v kk => ?_) ?_
  · refine sh_ia1 (x := m.I 73 (Int32.toNatClampNeg x1)) (pc2 := 130) rfl (sh_s73 hT.st) (sh_okb1 c) (sh_okb2 c) rfl rfl ?_
    exact kk
  obtain ⟨c, e⟩ := sh_gd e
  refine sh_Lk_lift (T := m.T) (I := m.I) (J := m.J) (s := m.s) (pc2 := 131) (lv2 := [(0, .ref 67), (1, .int x1)]) (st2 := [.int (m.I 69 (Int32.toNatClampNeg (m.I 73 (Int32.toNatClampNeg x1)))), .int 4, .ref 67]) (I2 := m.I) (J2 := m.J) (fun hT v kk => ?_) ?_
  · refine sh_ia1 (x := m.I 69 (Int32.toNatClampNeg (m.I 73 (Int32.toNatClampNeg x1)))) (pc2 := 131) rfl (sh_s69 hT.st) (sh_okb1 c) (sh_okb2 c) rfl rfl ?_
    exact kk
  obtain ⟨r1, m11, e1, e⟩ := sh_bn_e e
  refine sh_Lk_cV (r := (some (.int (sh_b2 r1)))) (st2 := [.int (sh_b2 r1)]) (pc2 := 134) (k2 := 252) (a := 66) (as := [.ref 67, .int 4, .int (m.I 69 (Int32.toNatClampNeg (m.I 73 (Int32.toNatClampNeg x1))))]) (rest := []) rfl rfl rfl (fun hT => (sh_s66 hT.st)) rfl rfl ⟨Nat.le_of_ble_eq_true rfl, Nat.le_of_ble_eq_true rfl⟩ (sl_252 e1 ⟨rfl, rfl⟩) rfl rfl (Nat.le_of_ble_eq_true rfl) (Nat.le_of_ble_eq_true rfl) ?_
  obtain rfl := Option.some.inj e
  obtain ⟨rfl, rfl⟩ := tg
  exact sh_Lk_ret (i := .ireturn) rfl rfl (sh_rb rfl _) (Nat.le_of_ble_eq_true rfl) (Nat.le_of_ble_eq_true rfl)
theorem sl_304_329 {x1 : Int32} {y1 : Int32} {m m2 : sh_X} {o : Outcome} {z : (Bool × sh_X)} (e : sf_304_329 x1 y1 m = some z) (tg : (sh_tZ o m2) z) : sh_Lk 304 329 [(0, .ref 67), (1, .int x1)] [.int y1, .ref 67] m o m2 12 289 := by
  unfold sf_304_329 at e
  refine sh_Lk_lift (T := m.T) (I := m.I) (J := m.J) (s := m.s) (pc2 := 334) (lv2 := [(0, .ref 67), (1, .int x1)]) (st2 := [.int x1, .ref 74, .int y1, .ref 67]) (I2 := m.I) (J2 := m.J) (fun hT v kk => ?_) ?_
  · refine sh_w (i := (.aload_n 0)) (len := 1) (pc2 := 330) (lv2 := [(0, .ref 67), (1, .int x1)]) (st2 := [.ref 67, .int y1, .ref 67]) (h2 := (sh_rep m.T m.I m.J)) rfl rfl rfl ?_
    refine sh_gR1 (len := 3) (x := .ref 74) (pc2 := 333) rfl rfl (sh_s66 hT.st) rfl rfl ?_
    refine sh_w (i := (.iload_n 1)) (len := 1) (pc2 := 334) (lv2 := [(0, .ref 67), (1, .int x1)]) (st2 := [.int x1, .ref 74, .int y1, .ref 67]) (h2 := (sh_rep m.T m.I m.J)) rfl rfl rfl ?_
    exact kk
  obtain ⟨c, e⟩ := sh_gd e
  refine sh_Lk_lift (T := m.T) (I := m.I) (J := m.J) (s := m.s) (pc2 := 335) (lv2 := [(0, .ref 67), (1, .int x1)]) (st2 := [.int (m.I 73 (Int32.toNatClampNeg x1)), .int y1, .ref 67]) (I2 := m.I) (J2 := m.J) (fun hT v kk => ?_) ?_
  · refine sh_ia1 (x := m.I 73 (Int32.toNatClampNeg x1)) (pc2 := 335) rfl (sh_s73 hT.st) (sh_okb1 c) (sh_okb2 c) rfl rfl ?_
    exact kk
  obtain ⟨r1, m11, e1, e⟩ := sh_bn_e e
  refine sh_Lk_cV (r := (some (.int (sh_b2 r1)))) (st2 := [.int (sh_b2 r1)]) (pc2 := 338) (k2 := 292) (a := 66) (as := [.ref 67, .int y1, .int (m.I 73 (Int32.toNatClampNeg x1))]) (rest := []) rfl rfl rfl (fun hT => (sh_s66 hT.st)) rfl rfl ⟨Nat.le_of_ble_eq_true rfl, Nat.le_of_ble_eq_true rfl⟩ (sl_292 e1 ⟨rfl, rfl⟩) rfl rfl (Nat.le_of_ble_eq_true rfl) (Nat.le_of_ble_eq_true rfl) ?_
  obtain rfl := Option.some.inj e
  obtain ⟨rfl, rfl⟩ := tg
  exact sh_Lk_ret (i := .ireturn) rfl rfl (sh_rb rfl _) (Nat.le_of_ble_eq_true rfl) (Nat.le_of_ble_eq_true rfl)
theorem sl_304_292 {x1 : Int32} {x7 : Bool} {x10 : Int32} {x16 : Int64} {m m2 : sh_X} {o : Outcome} {z : (Bool × sh_X)} (e : sf_304_292 x1 x7 x10 x16 m = some z) (tg : (sh_tZ o m2) z) : sh_Lk 304 292 [(0, .ref 67), (1, .int x1), (7, .int (sh_b2 x7)), (10, .int x10), (16, .long x16)] [] m o m2 12 289 := by
  unfold sf_304_292 at e
  refine sh_Lk_lift (T := m.T) (I := m.I) (J := m.J) (s := m.s) (pc2 := 303) (lv2 := [(0, .ref 67), (1, .int x1), (7, .int (sh_b2 x7)), (10, .int x10), (16, .long x16)]) (st2 := [.long x16, .int (m.I 66 44), .int (m.I 66 43), .ref 67]) (I2 := m.I) (J2 := m.J) (fun hT v kk => ?_) ?_
  · refine sh_w (i := (.aload_n 0)) (len := 1) (pc2 := 293) (lv2 := [(0, .ref 67), (1, .int x1), (7, .int (sh_b2 x7)), (10, .int x10), (16, .long x16)]) (st2 := [.ref 67]) (h2 := (sh_rep m.T m.I m.J)) rfl rfl rfl ?_
    refine sh_w (i := (.aload_n 0)) (len := 1) (pc2 := 294) (lv2 := [(0, .ref 67), (1, .int x1), (7, .int (sh_b2 x7)), (10, .int x10), (16, .long x16)]) (st2 := [.ref 67, .ref 67]) (h2 := (sh_rep m.T m.I m.J)) rfl rfl rfl ?_
    refine sh_gI1 (len := 3) (x := m.I 66 43) (pc2 := 297) rfl rfl (sh_s66 hT.st) rfl rfl rfl ?_
    refine sh_w (i := (.aload_n 0)) (len := 1) (pc2 := 298) (lv2 := [(0, .ref 67), (1, .int x1), (7, .int (sh_b2 x7)), (10, .int x10), (16, .long x16)]) (st2 := [.ref 67, .int (m.I 66 43), .ref 67]) (h2 := (sh_rep m.T m.I m.J)) rfl rfl rfl ?_
    refine sh_gI1 (len := 3) (x := m.I 66 44) (pc2 := 301) rfl rfl (sh_s66 hT.st) rfl rfl rfl ?_
    refine sh_w (i := (.lload 16)) (len := 2) (pc2 := 303) (lv2 := [(0, .ref 67), (1, .int x1), (7, .int (sh_b2 x7)), (10, .int x10), (16, .long x16)]) (st2 := [.long x16, .int (m.I 66 44), .int (m.I 66 43), .ref 67]) (h2 := (sh_rep m.T m.I m.J)) rfl rfl rfl ?_
    exact kk
  refine sh_Lk_cS (r := (some (.long (sf_288 (m.I 66 43) (m.I 66 44) x16)))) (st2 := [.long (sf_288 (m.I 66 43) (m.I 66 44) x16), .ref 67]) (pc2 := 306) (k2 := 288) (as := [.int (m.I 66 43), .int (m.I 66 44), .long x16]) (rest := [.ref 67]) rfl rfl (by decide) (Nat.le_of_ble_eq_true rfl) rfl rfl ⟨Nat.le_of_ble_eq_true rfl, Nat.le_of_ble_eq_true rfl⟩ (sl_288 (m := m) rfl ⟨rfl, rfl⟩) rfl rfl (Nat.le_of_ble_eq_true rfl) (Nat.le_of_ble_eq_true rfl) ?_
  refine sh_Lk_lift (T := m.T) (I := m.I) (J := m.J) (s := m.s) (pc2 := 312) (lv2 := [(0, .ref 67), (1, .int x1), (7, .int (sh_b2 x7)), (10, .int x10), (16, .long x16)]) (st2 := [.int (sh_b2 x7), .ref 67]) (I2 := m.I) (J2 := sh_u2 m.J 66 46 (sf_288 (m.I 66 43) (m.I 66 44) x16)) (fun hT v kk => ?_) ?_
  · refine sh_pJ1 (x := sf_288 (m.I 66 43) (m.I 66 44) x16) (pc2 := 309) rfl rfl (sh_s66 hT.st) rfl rfl rfl rfl ?_
    refine sh_w (i := (.aload_n 0)) (len := 1) (pc2 := 310) (lv2 := [(0, .ref 67), (1, .int x1), (7, .int (sh_b2 x7)), (10, .int x10), (16, .long x16)]) (st2 := [.ref 67]) (h2 := (sh_rep m.T m.I (sh_u2 m.J 66 46 (sf_288 (m.I 66 43) (m.I 66 44) x16)))) rfl rfl rfl ?_
    refine sh_w (i := (.iload 7)) (len := 2) (pc2 := 312) (lv2 := [(0, .ref 67), (1, .int x1), (7, .int (sh_b2 x7)), (10, .int x10), (16, .long x16)]) (st2 := [.int (sh_b2 x7), .ref 67]) (h2 := (sh_rep m.T m.I (sh_u2 m.J 66 46 (sf_288 (m.I 66 43) (m.I 66 44) x16)))) rfl rfl rfl ?_
    exact kk
  rcases sh_ite e with ⟨c, e⟩ | ⟨c, e⟩
  · refine sh_Lk_lift (T := m.T) (I := m.I) (J := sh_u2 m.J 66 46 (sf_288 (m.I 66 43) (m.I 66 44) x16)) (s := m.s) (pc2 := 329) (lv2 := [(0, .ref 67), (1, .int x1), (7, .int (sh_b2 x7)), (10, .int x10), (16, .long x16)]) (st2 := [.int (m.I 66 44), .ref 67]) (I2 := m.I) (J2 := sh_u2 m.J 66 46 (sf_288 (m.I 66 43) (m.I 66 44) x16)) (fun hT v kk => ?_) ?_
    · refine sh_j0 (c := .eq) (off := (10)) (pc2 := 315) false rfl (sh_Zeqf c) rfl ?_
      refine sh_w (i := (.aload_n 0)) (len := 1) (pc2 := 316) (lv2 := [(0, .ref 67), (1, .int x1), (7, .int (sh_b2 x7)), (10, .int x10), (16, .long x16)]) (st2 := [.ref 67, .ref 67]) (h2 := (sh_rep m.T m.I (sh_u2 m.J 66 46 (sf_288 (m.I 66 43) (m.I 66 44) x16)))) rfl rfl rfl ?_
      refine sh_gI1 (len := 3) (x := m.I 66 44) (pc2 := 319) rfl rfl (sh_s66 hT.st) rfl rfl rfl ?_
      refine sh_w (i := (.goto 10)) (len := 3) (pc2 := 329) (lv2 := [(0, .ref 67), (1, .int x1), (7, .int (sh_b2 x7)), (10, .int x10), (16, .long x16)]) (st2 := [.int (m.I 66 44), .ref 67]) (h2 := (sh_rep m.T m.I (sh_u2 m.J 66 46 (sf_288 (m.I 66 43) (m.I 66 44) x16)))) rfl rfl rfl ?_
      exact kk
    exact sh_Lk_sub (sh_sub_c rfl (sh_sub_c rfl (sh_sub_n))) (sl_304_329 e tg)
  · refine sh_Lk_lift (T := m.T) (I := m.I) (J := sh_u2 m.J 66 46 (sf_288 (m.I 66 43) (m.I 66 44) x16)) (s := m.s) (pc2 := 329) (lv2 := [(0, .ref 67), (1, .int x1), (7, .int (sh_b2 x7)), (10, .int x10), (16, .long x16)]) (st2 := [.int ((m.I 66 44) * x10), .ref 67]) (I2 := m.I) (J2 := sh_u2 m.J 66 46 (sf_288 (m.I 66 43) (m.I 66 44) x16)) (fun hT v kk => ?_) ?_
    · refine sh_j0 (c := .eq) (off := (10)) (pc2 := 322) true rfl (sh_Zeqt c) rfl ?_
      refine sh_w (i := (.aload_n 0)) (len := 1) (pc2 := 323) (lv2 := [(0, .ref 67), (1, .int x1), (7, .int (sh_b2 x7)), (10, .int x10), (16, .long x16)]) (st2 := [.ref 67, .ref 67]) (h2 := (sh_rep m.T m.I (sh_u2 m.J 66 46 (sf_288 (m.I 66 43) (m.I 66 44) x16)))) rfl rfl rfl ?_
      refine sh_gI1 (len := 3) (x := m.I 66 44) (pc2 := 326) rfl rfl (sh_s66 hT.st) rfl rfl rfl ?_
      refine sh_w (i := (.iload 10)) (len := 2) (pc2 := 328) (lv2 := [(0, .ref 67), (1, .int x1), (7, .int (sh_b2 x7)), (10, .int x10), (16, .long x16)]) (st2 := [.int x10, .int (m.I 66 44), .ref 67]) (h2 := (sh_rep m.T m.I (sh_u2 m.J 66 46 (sf_288 (m.I 66 43) (m.I 66 44) x16)))) rfl rfl rfl ?_
      refine sh_w (i := .imul) (len := 1) (pc2 := 329) (lv2 := [(0, .ref 67), (1, .int x1), (7, .int (sh_b2 x7)), (10, .int x10), (16, .long x16)]) (st2 := [.int ((m.I 66 44) * x10), .ref 67]) (h2 := (sh_rep m.T m.I (sh_u2 m.J 66 46 (sf_288 (m.I 66 43) (m.I 66 44) x16)))) rfl rfl rfl ?_
      exact kk
    exact sh_Lk_sub (sh_sub_c rfl (sh_sub_c rfl (sh_sub_n))) (sl_304_329 e tg)
theorem sl_304_225 {x1 : Int32} {x7 : Bool} {x10 : Int32} {y0 : Int64} {m m2 : sh_X} {o : Outcome} {z : (Bool × sh_X)} (e : sf_304_225 x1 x7 x10 y0 m = some z) (tg : (sh_tZ o m2) z) : sh_Lk 304 225 [(0, .ref 67), (1, .int x1), (7, .int (sh_b2 x7)), (10, .int x10)] [.long y0] m o m2 12 289 := by
  unfold sf_304_225 at e
  refine sh_Lk_lift (T := m.T) (I := m.I) (J := m.J) (s := m.s) (pc2 := 292) (lv2 := [(16, .long y0), (0, .ref 67), (1, .int x1), (7, .int (sh_b2 x7)), (10, .int x10)]) (st2 := []) (I2 := m.I) (J2 := m.J) (fun hT v kk => ?_) ?_
  · refine sh_w (i := (.lstore 16)) (len := 2) (pc2 := 227) (lv2 := [(16, .long y0), (0, .ref 67), (1, .int x1), (7, .int (sh_b2 x7)), (10, .int x10)]) (st2 := []) (h2 := (sh_rep m.T m.I m.J)) rfl rfl rfl ?_
    refine sh_w (i := (.goto 65)) (len := 3) (pc2 := 292) (lv2 := [(16, .long y0), (0, .ref 67), (1, .int x1), (7, .int (sh_b2 x7)), (10, .int x10)]) (st2 := []) (h2 := (sh_rep m.T m.I m.J)) rfl rfl rfl ?_
    exact kk
  exact sh_Lk_sub (sh_sub_c rfl (sh_sub_c rfl (sh_sub_c rfl (sh_sub_c rfl (sh_sub_c rfl (sh_sub_n)))))) (sl_304_292 e tg)
theorem sl_304_270 {x1 : Int32} {x7 : Bool} {x10 : Int32} {y0 : Int64} {m m2 : sh_X} {o : Outcome} {z : (Bool × sh_X)} (e : sf_304_270 x1 x7 x10 y0 m = some z) (tg : (sh_tZ o m2) z) : sh_Lk 304 270 [(0, .ref 67), (1, .int x1), (7, .int (sh_b2 x7)), (10, .int x10)] [.long y0] m o m2 12 289 := by
  unfold sf_304_270 at e
  refine sh_Lk_lift (T := m.T) (I := m.I) (J := m.J) (s := m.s) (pc2 := 292) (lv2 := [(16, .long y0), (0, .ref 67), (1, .int x1), (7, .int (sh_b2 x7)), (10, .int x10)]) (st2 := []) (I2 := m.I) (J2 := m.J) (fun hT v kk => ?_) ?_
  · refine sh_w (i := (.lstore 16)) (len := 2) (pc2 := 272) (lv2 := [(16, .long y0), (0, .ref 67), (1, .int x1), (7, .int (sh_b2 x7)), (10, .int x10)]) (st2 := []) (h2 := (sh_rep m.T m.I m.J)) rfl rfl rfl ?_
    refine sh_w (i := (.goto 20)) (len := 3) (pc2 := 292) (lv2 := [(16, .long y0), (0, .ref 67), (1, .int x1), (7, .int (sh_b2 x7)), (10, .int x10)]) (st2 := []) (h2 := (sh_rep m.T m.I m.J)) rfl rfl rfl ?_
    exact kk
  exact sh_Lk_sub (sh_sub_c rfl (sh_sub_c rfl (sh_sub_c rfl (sh_sub_c rfl (sh_sub_c rfl (sh_sub_n)))))) (sl_304_292 e tg)
theorem sl_304_290 {x1 : Int32} {x7 : Bool} {x10 : Int32} {y0 : Int64} {m m2 : sh_X} {o : Outcome} {z : (Bool × sh_X)} (e : sf_304_290 x1 x7 x10 y0 m = some z) (tg : (sh_tZ o m2) z) : sh_Lk 304 290 [(0, .ref 67), (1, .int x1), (7, .int (sh_b2 x7)), (10, .int x10)] [.long y0] m o m2 12 289 := by
  unfold sf_304_290 at e
  refine sh_Lk_lift (T := m.T) (I := m.I) (J := m.J) (s := m.s) (pc2 := 292) (lv2 := [(16, .long y0), (0, .ref 67), (1, .int x1), (7, .int (sh_b2 x7)), (10, .int x10)]) (st2 := []) (I2 := m.I) (J2 := m.J) (fun hT v kk => ?_) ?_
  · refine sh_w (i := (.lstore 16)) (len := 2) (pc2 := 292) (lv2 := [(16, .long y0), (0, .ref 67), (1, .int x1), (7, .int (sh_b2 x7)), (10, .int x10)]) (st2 := []) (h2 := (sh_rep m.T m.I m.J)) rfl rfl rfl ?_
    exact kk
  exact sh_Lk_sub (sh_sub_c rfl (sh_sub_c rfl (sh_sub_c rfl (sh_sub_c rfl (sh_sub_c rfl (sh_sub_n)))))) (sl_304_292 e tg)
theorem sl_304_189 {x1 : Int32} {x7 : Bool} {x10 : Int32} {x11 : Int64} {x13 : Bool} {y0 : Int64} {m m2 : sh_X} {o : Outcome} {z : (Bool × sh_X)} (e : sf_304_189 x1 x7 x10 x11 x13 y0 m = some z) (tg : (sh_tZ o m2) z) : sh_Lk 304 189 [(0, .ref 67), (1, .int x1), (7, .int (sh_b2 x7)), (10, .int x10), (11, .long x11), (13, .int (sh_b2 x13))] [.long y0] m o m2 12 289 := by
  unfold sf_304_189 at e
  refine sh_Lk_lift (T := m.T) (I := m.I) (J := m.J) (s := m.s) (pc2 := 200) (lv2 := [(14, .long y0), (0, .ref 67), (1, .int x1), (7, .int (sh_b2 x7)), (10, .int x10), (11, .long x11), (13, .int (sh_b2 x13))]) (st2 := [.int x1, .ref 74, .ref 69]) (I2 := m.I) (J2 := m.J) (fun hT v kk => ?_) ?_
  · refine sh_w (i := (.lstore 14)) (len := 2) (pc2 := 191) (lv2 := [(14, .long y0), (0, .ref 67), (1, .int x1), (7, .int (sh_b2 x7)), (10, .int x10), (11, .long x11), (13, .int (sh_b2 x13))]) (st2 := []) (h2 := (sh_rep m.T m.I m.J)) rfl rfl rfl ?_
    refine sh_w (i := (.aload_n 0)) (len := 1) (pc2 := 192) (lv2 := [(14, .long y0), (0, .ref 67), (1, .int x1), (7, .int (sh_b2 x7)), (10, .int x10), (11, .long x11), (13, .int (sh_b2 x13))]) (st2 := [.ref 67]) (h2 := (sh_rep m.T m.I m.J)) rfl rfl rfl ?_
    refine sh_gR1 (len := 3) (x := .ref 69) (pc2 := 195) rfl rfl (sh_s66 hT.st) rfl rfl ?_
    refine sh_w (i := (.aload_n 0)) (len := 1) (pc2 := 196) (lv2 := [(14, .long y0), (0, .ref 67), (1, .int x1), (7, .int (sh_b2 x7)), (10, .int x10), (11, .long x11), (13, .int (sh_b2 x13))]) (st2 := [.ref 67, .ref 69]) (h2 := (sh_rep m.T m.I m.J)) rfl rfl rfl ?_
    refine sh_gR1 (len := 3) (x := .ref 74) (pc2 := 199) rfl rfl (sh_s66 hT.st) rfl rfl ?_
    refine sh_w (i := (.iload_n 1)) (len := 1) (pc2 := 200) (lv2 := [(14, .long y0), (0, .ref 67), (1, .int x1), (7, .int (sh_b2 x7)), (10, .int x10), (11, .long x11), (13, .int (sh_b2 x13))]) (st2 := [.int x1, .ref 74, .ref 69]) (h2 := (sh_rep m.T m.I m.J)) rfl rfl rfl ?_
    exact kk
  obtain ⟨c, e⟩ := sh_gd e
  refine sh_Lk_lift (T := m.T) (I := m.I) (J := m.J) (s := m.s) (pc2 := 201) (lv2 := [(14, .long y0), (0, .ref 67), (1, .int x1), (7, .int (sh_b2 x7)), (10, .int x10), (11, .long x11), (13, .int (sh_b2 x13))]) (st2 := [.int (m.I 73 (Int32.toNatClampNeg x1)), .ref 69]) (I2 := m.I) (J2 := m.J) (fun hT v kk => ?_) ?_
  · refine sh_ia1 (x := m.I 73 (Int32.toNatClampNeg x1)) (pc2 := 201) rfl (sh_s73 hT.st) (sh_okb1 c) (sh_okb2 c) rfl rfl ?_
    exact kk
  obtain ⟨c, e⟩ := sh_gd e
  refine sh_Lk_lift (T := m.T) (I := m.I) (J := m.J) (s := m.s) (pc2 := 205) (lv2 := [(14, .long y0), (0, .ref 67), (1, .int x1), (7, .int (sh_b2 x7)), (10, .int x10), (11, .long x11), (13, .int (sh_b2 x13))]) (st2 := [.int 15420, .int (m.I 68 (Int32.toNatClampNeg (m.I 73 (Int32.toNatClampNeg x1))))]) (I2 := m.I) (J2 := m.J) (fun hT v kk => ?_) ?_
  · refine sh_ia1 (x := m.I 68 (Int32.toNatClampNeg (m.I 73 (Int32.toNatClampNeg x1)))) (pc2 := 202) rfl (sh_s68 hT.st) (sh_okb1 c) (sh_okb2 c) rfl rfl ?_
    refine sh_w (i := (.sipush 15420)) (len := 3) (pc2 := 205) (lv2 := [(14, .long y0), (0, .ref 67), (1, .int x1), (7, .int (sh_b2 x7)), (10, .int x10), (11, .long x11), (13, .int (sh_b2 x13))]) (st2 := [.int 15420, .int (m.I 68 (Int32.toNatClampNeg (m.I 73 (Int32.toNatClampNeg x1))))]) (h2 := (sh_rep m.T m.I m.J)) rfl rfl rfl ?_
    exact kk
  rcases sh_ite e with ⟨c, e⟩ | ⟨c, e⟩
  · refine sh_Lk_lift (T := m.T) (I := m.I) (J := m.J) (s := m.s) (pc2 := 210) (lv2 := [(14, .long y0), (0, .ref 67), (1, .int x1), (7, .int (sh_b2 x7)), (10, .int x10), (11, .long x11), (13, .int (sh_b2 x13))]) (st2 := [.int (sh_b2 x13)]) (I2 := m.I) (J2 := m.J) (fun hT v kk => ?_) ?_
    · refine sh_jc (c := .ne) (off := (25)) (pc2 := 208) false rfl (sh_Bnef c) rfl ?_
      refine sh_w (i := (.iload 13)) (len := 2) (pc2 := 210) (lv2 := [(14, .long y0), (0, .ref 67), (1, .int x1), (7, .int (sh_b2 x7)), (10, .int x10), (11, .long x11), (13, .int (sh_b2 x13))]) (st2 := [.int (sh_b2 x13)]) (h2 := (sh_rep m.T m.I m.J)) rfl rfl rfl ?_
      exact kk
    rcases sh_ite e with ⟨c, e⟩ | ⟨c, e⟩
    · refine sh_Lk_lift (T := m.T) (I := m.I) (J := m.J) (s := m.s) (pc2 := 225) (lv2 := [(14, .long y0), (0, .ref 67), (1, .int x1), (7, .int (sh_b2 x7)), (10, .int x10), (11, .long x11), (13, .int (sh_b2 x13))]) (st2 := [.long 0]) (I2 := m.I) (J2 := m.J) (fun hT v kk => ?_) ?_
      · refine sh_j0 (c := .eq) (off := (7)) (pc2 := 213) false rfl (sh_Zeqf c) rfl ?_
        refine sh_w (i := (.lconst 0)) (len := 1) (pc2 := 214) (lv2 := [(14, .long y0), (0, .ref 67), (1, .int x1), (7, .int (sh_b2 x7)), (10, .int x10), (11, .long x11), (13, .int (sh_b2 x13))]) (st2 := [.long 0]) (h2 := (sh_rep m.T m.I m.J)) rfl rfl rfl ?_
        refine sh_w (i := (.goto 11)) (len := 3) (pc2 := 225) (lv2 := [(14, .long y0), (0, .ref 67), (1, .int x1), (7, .int (sh_b2 x7)), (10, .int x10), (11, .long x11), (13, .int (sh_b2 x13))]) (st2 := [.long 0]) (h2 := (sh_rep m.T m.I m.J)) rfl rfl rfl ?_
        exact kk
      exact sh_Lk_sub (sh_sub_c rfl (sh_sub_c rfl (sh_sub_c rfl (sh_sub_c rfl (sh_sub_n))))) (sl_304_225 e tg)
    · refine sh_Lk_lift (T := m.T) (I := m.I) (J := m.J) (s := m.s) (pc2 := 225) (lv2 := [(14, .long y0), (0, .ref 67), (1, .int x1), (7, .int (sh_b2 x7)), (10, .int x10), (11, .long x11), (13, .int (sh_b2 x13))]) (st2 := [.long ((m.J 66 46) <<< (Int32.toInt64 (Int64.toInt32 x11) &&& 63))]) (I2 := m.I) (J2 := m.J) (fun hT v kk => ?_) ?_
      · refine sh_j0 (c := .eq) (off := (7)) (pc2 := 217) true rfl (sh_Zeqt c) rfl ?_
        refine sh_w (i := (.aload_n 0)) (len := 1) (pc2 := 218) (lv2 := [(14, .long y0), (0, .ref 67), (1, .int x1), (7, .int (sh_b2 x7)), (10, .int x10), (11, .long x11), (13, .int (sh_b2 x13))]) (st2 := [.ref 67]) (h2 := (sh_rep m.T m.I m.J)) rfl rfl rfl ?_
        refine sh_gJ1 (len := 3) (x := m.J 66 46) (pc2 := 221) rfl rfl (sh_s66 hT.st) rfl rfl rfl ?_
        refine sh_w (i := (.lload 11)) (len := 2) (pc2 := 223) (lv2 := [(14, .long y0), (0, .ref 67), (1, .int x1), (7, .int (sh_b2 x7)), (10, .int x10), (11, .long x11), (13, .int (sh_b2 x13))]) (st2 := [.long x11, .long (m.J 66 46)]) (h2 := (sh_rep m.T m.I m.J)) rfl rfl rfl ?_
        refine sh_w (i := .l2i) (len := 1) (pc2 := 224) (lv2 := [(14, .long y0), (0, .ref 67), (1, .int x1), (7, .int (sh_b2 x7)), (10, .int x10), (11, .long x11), (13, .int (sh_b2 x13))]) (st2 := [.int (Int64.toInt32 x11), .long (m.J 66 46)]) (h2 := (sh_rep m.T m.I m.J)) rfl rfl rfl ?_
        refine sh_w (i := .lshl) (len := 1) (pc2 := 225) (lv2 := [(14, .long y0), (0, .ref 67), (1, .int x1), (7, .int (sh_b2 x7)), (10, .int x10), (11, .long x11), (13, .int (sh_b2 x13))]) (st2 := [.long ((m.J 66 46) <<< (Int32.toInt64 (Int64.toInt32 x11) &&& 63))]) (h2 := (sh_rep m.T m.I m.J)) rfl rfl rfl ?_
        exact kk
      exact sh_Lk_sub (sh_sub_c rfl (sh_sub_c rfl (sh_sub_c rfl (sh_sub_c rfl (sh_sub_n))))) (sl_304_225 e tg)
  · refine sh_Lk_lift (T := m.T) (I := m.I) (J := m.J) (s := m.s) (pc2 := 235) (lv2 := [(14, .long y0), (0, .ref 67), (1, .int x1), (7, .int (sh_b2 x7)), (10, .int x10), (11, .long x11), (13, .int (sh_b2 x13))]) (st2 := [.int 2, .int (m.I 66 43)]) (I2 := m.I) (J2 := m.J) (fun hT v kk => ?_) ?_
    · refine sh_jc (c := .ne) (off := (25)) (pc2 := 230) true rfl (sh_Bnet c) rfl ?_
      refine sh_w (i := (.aload_n 0)) (len := 1) (pc2 := 231) (lv2 := [(14, .long y0), (0, .ref 67), (1, .int x1), (7, .int (sh_b2 x7)), (10, .int x10), (11, .long x11), (13, .int (sh_b2 x13))]) (st2 := [.ref 67]) (h2 := (sh_rep m.T m.I m.J)) rfl rfl rfl ?_
      refine sh_gI1 (len := 3) (x := m.I 66 43) (pc2 := 234) rfl rfl (sh_s66 hT.st) rfl rfl rfl ?_
      refine sh_w (i := (.iconst 2)) (len := 1) (pc2 := 235) (lv2 := [(14, .long y0), (0, .ref 67), (1, .int x1), (7, .int (sh_b2 x7)), (10, .int x10), (11, .long x11), (13, .int (sh_b2 x13))]) (st2 := [.int 2, .int (m.I 66 43)]) (h2 := (sh_rep m.T m.I m.J)) rfl rfl rfl ?_
      exact kk
    rcases sh_ite e with ⟨c, e⟩ | ⟨c, e⟩
    · refine sh_Lk_lift (T := m.T) (I := m.I) (J := m.J) (s := m.s) (pc2 := 240) (lv2 := [(14, .long y0), (0, .ref 67), (1, .int x1), (7, .int (sh_b2 x7)), (10, .int x10), (11, .long x11), (13, .int (sh_b2 x13))]) (st2 := [.int (sh_b2 x13)]) (I2 := m.I) (J2 := m.J) (fun hT v kk => ?_) ?_
      · refine sh_jc (c := .ne) (off := (40)) (pc2 := 238) false rfl (sh_Bnef c) rfl ?_
        refine sh_w (i := (.iload 13)) (len := 2) (pc2 := 240) (lv2 := [(14, .long y0), (0, .ref 67), (1, .int x1), (7, .int (sh_b2 x7)), (10, .int x10), (11, .long x11), (13, .int (sh_b2 x13))]) (st2 := [.int (sh_b2 x13)]) (h2 := (sh_rep m.T m.I m.J)) rfl rfl rfl ?_
        exact kk
      rcases sh_ite e with ⟨c, e⟩ | ⟨c, e⟩
      · refine sh_Lk_lift (T := m.T) (I := m.I) (J := m.J) (s := m.s) (pc2 := 249) (lv2 := [(14, .long y0), (0, .ref 67), (1, .int x1), (7, .int (sh_b2 x7)), (10, .int x10), (11, .long x11), (13, .int (sh_b2 x13))]) (st2 := [.int (lg_cmp (m.J 66 46) 0)]) (I2 := m.I) (J2 := m.J) (fun hT v kk => ?_) ?_
        · refine sh_j0 (c := .eq) (off := (22)) (pc2 := 243) false rfl (sh_Zeqf c) rfl ?_
          refine sh_w (i := (.aload_n 0)) (len := 1) (pc2 := 244) (lv2 := [(14, .long y0), (0, .ref 67), (1, .int x1), (7, .int (sh_b2 x7)), (10, .int x10), (11, .long x11), (13, .int (sh_b2 x13))]) (st2 := [.ref 67]) (h2 := (sh_rep m.T m.I m.J)) rfl rfl rfl ?_
          refine sh_gJ1 (len := 3) (x := m.J 66 46) (pc2 := 247) rfl rfl (sh_s66 hT.st) rfl rfl rfl ?_
          refine sh_w (i := (.lconst 0)) (len := 1) (pc2 := 248) (lv2 := [(14, .long y0), (0, .ref 67), (1, .int x1), (7, .int (sh_b2 x7)), (10, .int x10), (11, .long x11), (13, .int (sh_b2 x13))]) (st2 := [.long 0, .long (m.J 66 46)]) (h2 := (sh_rep m.T m.I m.J)) rfl rfl rfl ?_
          refine sh_w (i := .lcmp) (len := 1) (pc2 := 249) (lv2 := [(14, .long y0), (0, .ref 67), (1, .int x1), (7, .int (sh_b2 x7)), (10, .int x10), (11, .long x11), (13, .int (sh_b2 x13))]) (st2 := [.int (lg_cmp (m.J 66 46) 0)]) (h2 := (sh_rep m.T m.I m.J)) rfl rfl rfl ?_
          exact kk
        rcases sh_ite e with ⟨c, e⟩ | ⟨c, e⟩
        · refine sh_Lk_lift (T := m.T) (I := m.I) (J := m.J) (s := m.s) (pc2 := 270) (lv2 := [(14, .long y0), (0, .ref 67), (1, .int x1), (7, .int (sh_b2 x7)), (10, .int x10), (11, .long x11), (13, .int (sh_b2 x13))]) (st2 := [.long (-1)]) (I2 := m.I) (J2 := m.J) (fun hT v kk => ?_) ?_
          · refine sh_j0 (c := .ge) (off := (9)) (pc2 := 252) false rfl (sh_Cgef c) rfl ?_
            refine sh_w (i := (.ldc2_w 466)) (len := 3) (pc2 := 255) (lv2 := [(14, .long y0), (0, .ref 67), (1, .int x1), (7, .int (sh_b2 x7)), (10, .int x10), (11, .long x11), (13, .int (sh_b2 x13))]) (st2 := [.long (-1)]) (h2 := (sh_rep m.T m.I m.J)) rfl rfl rfl ?_
            refine sh_w (i := (.goto 15)) (len := 3) (pc2 := 270) (lv2 := [(14, .long y0), (0, .ref 67), (1, .int x1), (7, .int (sh_b2 x7)), (10, .int x10), (11, .long x11), (13, .int (sh_b2 x13))]) (st2 := [.long (-1)]) (h2 := (sh_rep m.T m.I m.J)) rfl rfl rfl ?_
            exact kk
          exact sh_Lk_sub (sh_sub_c rfl (sh_sub_c rfl (sh_sub_c rfl (sh_sub_c rfl (sh_sub_n))))) (sl_304_270 e tg)
        · refine sh_Lk_lift (T := m.T) (I := m.I) (J := m.J) (s := m.s) (pc2 := 270) (lv2 := [(14, .long y0), (0, .ref 67), (1, .int x1), (7, .int (sh_b2 x7)), (10, .int x10), (11, .long x11), (13, .int (sh_b2 x13))]) (st2 := [.long 0]) (I2 := m.I) (J2 := m.J) (fun hT v kk => ?_) ?_
          · refine sh_j0 (c := .ge) (off := (9)) (pc2 := 258) true rfl (sh_Cget c) rfl ?_
            refine sh_w (i := (.lconst 0)) (len := 1) (pc2 := 259) (lv2 := [(14, .long y0), (0, .ref 67), (1, .int x1), (7, .int (sh_b2 x7)), (10, .int x10), (11, .long x11), (13, .int (sh_b2 x13))]) (st2 := [.long 0]) (h2 := (sh_rep m.T m.I m.J)) rfl rfl rfl ?_
            refine sh_w (i := (.goto 11)) (len := 3) (pc2 := 270) (lv2 := [(14, .long y0), (0, .ref 67), (1, .int x1), (7, .int (sh_b2 x7)), (10, .int x10), (11, .long x11), (13, .int (sh_b2 x13))]) (st2 := [.long 0]) (h2 := (sh_rep m.T m.I m.J)) rfl rfl rfl ?_
            exact kk
          exact sh_Lk_sub (sh_sub_c rfl (sh_sub_c rfl (sh_sub_c rfl (sh_sub_c rfl (sh_sub_n))))) (sl_304_270 e tg)
      · refine sh_Lk_lift (T := m.T) (I := m.I) (J := m.J) (s := m.s) (pc2 := 270) (lv2 := [(14, .long y0), (0, .ref 67), (1, .int x1), (7, .int (sh_b2 x7)), (10, .int x10), (11, .long x11), (13, .int (sh_b2 x13))]) (st2 := [.long ((m.J 66 46) >>> (Int32.toInt64 (Int64.toInt32 x11) &&& 63))]) (I2 := m.I) (J2 := m.J) (fun hT v kk => ?_) ?_
        · refine sh_j0 (c := .eq) (off := (22)) (pc2 := 262) true rfl (sh_Zeqt c) rfl ?_
          refine sh_w (i := (.aload_n 0)) (len := 1) (pc2 := 263) (lv2 := [(14, .long y0), (0, .ref 67), (1, .int x1), (7, .int (sh_b2 x7)), (10, .int x10), (11, .long x11), (13, .int (sh_b2 x13))]) (st2 := [.ref 67]) (h2 := (sh_rep m.T m.I m.J)) rfl rfl rfl ?_
          refine sh_gJ1 (len := 3) (x := m.J 66 46) (pc2 := 266) rfl rfl (sh_s66 hT.st) rfl rfl rfl ?_
          refine sh_w (i := (.lload 11)) (len := 2) (pc2 := 268) (lv2 := [(14, .long y0), (0, .ref 67), (1, .int x1), (7, .int (sh_b2 x7)), (10, .int x10), (11, .long x11), (13, .int (sh_b2 x13))]) (st2 := [.long x11, .long (m.J 66 46)]) (h2 := (sh_rep m.T m.I m.J)) rfl rfl rfl ?_
          refine sh_w (i := .l2i) (len := 1) (pc2 := 269) (lv2 := [(14, .long y0), (0, .ref 67), (1, .int x1), (7, .int (sh_b2 x7)), (10, .int x10), (11, .long x11), (13, .int (sh_b2 x13))]) (st2 := [.int (Int64.toInt32 x11), .long (m.J 66 46)]) (h2 := (sh_rep m.T m.I m.J)) rfl rfl rfl ?_
          refine sh_w (i := .lshr) (len := 1) (pc2 := 270) (lv2 := [(14, .long y0), (0, .ref 67), (1, .int x1), (7, .int (sh_b2 x7)), (10, .int x10), (11, .long x11), (13, .int (sh_b2 x13))]) (st2 := [.long ((m.J 66 46) >>> (Int32.toInt64 (Int64.toInt32 x11) &&& 63))]) (h2 := (sh_rep m.T m.I m.J)) rfl rfl rfl ?_
          exact kk
        exact sh_Lk_sub (sh_sub_c rfl (sh_sub_c rfl (sh_sub_c rfl (sh_sub_c rfl (sh_sub_n))))) (sl_304_270 e tg)
    · refine sh_Lk_lift (T := m.T) (I := m.I) (J := m.J) (s := m.s) (pc2 := 277) (lv2 := [(14, .long y0), (0, .ref 67), (1, .int x1), (7, .int (sh_b2 x7)), (10, .int x10), (11, .long x11), (13, .int (sh_b2 x13))]) (st2 := [.int (sh_b2 x13)]) (I2 := m.I) (J2 := m.J) (fun hT v kk => ?_) ?_
      · refine sh_jc (c := .ne) (off := (40)) (pc2 := 275) true rfl (sh_Bnet c) rfl ?_
        refine sh_w (i := (.iload 13)) (len := 2) (pc2 := 277) (lv2 := [(14, .long y0), (0, .ref 67), (1, .int x1), (7, .int (sh_b2 x7)), (10, .int x10), (11, .long x11), (13, .int (sh_b2 x13))]) (st2 := [.int (sh_b2 x13)]) (h2 := (sh_rep m.T m.I m.J)) rfl rfl rfl ?_
        exact kk
      rcases sh_ite e with ⟨c, e⟩ | ⟨c, e⟩
      · refine sh_Lk_lift (T := m.T) (I := m.I) (J := m.J) (s := m.s) (pc2 := 290) (lv2 := [(14, .long y0), (0, .ref 67), (1, .int x1), (7, .int (sh_b2 x7)), (10, .int x10), (11, .long x11), (13, .int (sh_b2 x13))]) (st2 := [.long 0]) (I2 := m.I) (J2 := m.J) (fun hT v kk => ?_) ?_
        · refine sh_j0 (c := .eq) (off := (7)) (pc2 := 280) false rfl (sh_Zeqf c) rfl ?_
          refine sh_w (i := (.lconst 0)) (len := 1) (pc2 := 281) (lv2 := [(14, .long y0), (0, .ref 67), (1, .int x1), (7, .int (sh_b2 x7)), (10, .int x10), (11, .long x11), (13, .int (sh_b2 x13))]) (st2 := [.long 0]) (h2 := (sh_rep m.T m.I m.J)) rfl rfl rfl ?_
          refine sh_w (i := (.goto 9)) (len := 3) (pc2 := 290) (lv2 := [(14, .long y0), (0, .ref 67), (1, .int x1), (7, .int (sh_b2 x7)), (10, .int x10), (11, .long x11), (13, .int (sh_b2 x13))]) (st2 := [.long 0]) (h2 := (sh_rep m.T m.I m.J)) rfl rfl rfl ?_
          exact kk
        exact sh_Lk_sub (sh_sub_c rfl (sh_sub_c rfl (sh_sub_c rfl (sh_sub_c rfl (sh_sub_n))))) (sl_304_290 e tg)
      · refine sh_Lk_lift (T := m.T) (I := m.I) (J := m.J) (s := m.s) (pc2 := 290) (lv2 := [(14, .long y0), (0, .ref 67), (1, .int x1), (7, .int (sh_b2 x7)), (10, .int x10), (11, .long x11), (13, .int (sh_b2 x13))]) (st2 := [.long ((y0.toUInt64 >>> ((Int32.toInt64 (Int64.toInt32 x11)).toUInt64 &&& Int64.toUInt64 63)).toInt64)]) (I2 := m.I) (J2 := m.J) (fun hT v kk => ?_) ?_
        · refine sh_j0 (c := .eq) (off := (7)) (pc2 := 284) true rfl (sh_Zeqt c) rfl ?_
          refine sh_w (i := (.lload 14)) (len := 2) (pc2 := 286) (lv2 := [(14, .long y0), (0, .ref 67), (1, .int x1), (7, .int (sh_b2 x7)), (10, .int x10), (11, .long x11), (13, .int (sh_b2 x13))]) (st2 := [.long y0]) (h2 := (sh_rep m.T m.I m.J)) rfl rfl rfl ?_
          refine sh_w (i := (.lload 11)) (len := 2) (pc2 := 288) (lv2 := [(14, .long y0), (0, .ref 67), (1, .int x1), (7, .int (sh_b2 x7)), (10, .int x10), (11, .long x11), (13, .int (sh_b2 x13))]) (st2 := [.long x11, .long y0]) (h2 := (sh_rep m.T m.I m.J)) rfl rfl rfl ?_
          refine sh_w (i := .l2i) (len := 1) (pc2 := 289) (lv2 := [(14, .long y0), (0, .ref 67), (1, .int x1), (7, .int (sh_b2 x7)), (10, .int x10), (11, .long x11), (13, .int (sh_b2 x13))]) (st2 := [.int (Int64.toInt32 x11), .long y0]) (h2 := (sh_rep m.T m.I m.J)) rfl rfl rfl ?_
          refine sh_w (i := .lushr) (len := 1) (pc2 := 290) (lv2 := [(14, .long y0), (0, .ref 67), (1, .int x1), (7, .int (sh_b2 x7)), (10, .int x10), (11, .long x11), (13, .int (sh_b2 x13))]) (st2 := [.long ((y0.toUInt64 >>> ((Int32.toInt64 (Int64.toInt32 x11)).toUInt64 &&& Int64.toUInt64 63)).toInt64)]) (h2 := (sh_rep m.T m.I m.J)) rfl rfl rfl ?_
          exact kk
        exact sh_Lk_sub (sh_sub_c rfl (sh_sub_c rfl (sh_sub_c rfl (sh_sub_c rfl (sh_sub_n))))) (sl_304_290 e tg)
theorem sl_304_158 {x1 : Int32} {x7 : Bool} {x10 : Int32} {x11 : Int64} {y0 : Bool} {m m2 : sh_X} {o : Outcome} {z : (Bool × sh_X)} (e : sf_304_158 x1 x7 x10 x11 y0 m = some z) (tg : (sh_tZ o m2) z) : sh_Lk 304 158 [(0, .ref 67), (1, .int x1), (7, .int (sh_b2 x7)), (10, .int x10), (11, .long x11)] [.int (sh_b2 y0)] m o m2 12 289 := by
  unfold sf_304_158 at e
  refine sh_Lk_lift (T := m.T) (I := m.I) (J := m.J) (s := m.s) (pc2 := 166) (lv2 := [(13, .int (sh_b2 y0)), (0, .ref 67), (1, .int x1), (7, .int (sh_b2 x7)), (10, .int x10), (11, .long x11)]) (st2 := [.int 64, .int (m.I 66 44)]) (I2 := m.I) (J2 := m.J) (fun hT v kk => ?_) ?_
  · refine sh_w (i := (.istore 13)) (len := 2) (pc2 := 160) (lv2 := [(13, .int (sh_b2 y0)), (0, .ref 67), (1, .int x1), (7, .int (sh_b2 x7)), (10, .int x10), (11, .long x11)]) (st2 := []) (h2 := (sh_rep m.T m.I m.J)) rfl rfl rfl ?_
    refine sh_w (i := (.aload_n 0)) (len := 1) (pc2 := 161) (lv2 := [(13, .int (sh_b2 y0)), (0, .ref 67), (1, .int x1), (7, .int (sh_b2 x7)), (10, .int x10), (11, .long x11)]) (st2 := [.ref 67]) (h2 := (sh_rep m.T m.I m.J)) rfl rfl rfl ?_
    refine sh_gI1 (len := 3) (x := m.I 66 44) (pc2 := 164) rfl rfl (sh_s66 hT.st) rfl rfl rfl ?_
    refine sh_w (i := (.bipush 64)) (len := 2) (pc2 := 166) (lv2 := [(13, .int (sh_b2 y0)), (0, .ref 67), (1, .int x1), (7, .int (sh_b2 x7)), (10, .int x10), (11, .long x11)]) (st2 := [.int 64, .int (m.I 66 44)]) (h2 := (sh_rep m.T m.I m.J)) rfl rfl rfl ?_
    exact kk
  rcases sh_ite e with ⟨c, e⟩ | ⟨c, e⟩
  · refine sh_Lk_lift (T := m.T) (I := m.I) (J := m.J) (s := m.s) (pc2 := 189) (lv2 := [(13, .int (sh_b2 y0)), (0, .ref 67), (1, .int x1), (7, .int (sh_b2 x7)), (10, .int x10), (11, .long x11)]) (st2 := [.long (m.J 66 46)]) (I2 := m.I) (J2 := m.J) (fun hT v kk => ?_) ?_
    · refine sh_jc (c := .ne) (off := (10)) (pc2 := 169) false rfl (sh_Bnef c) rfl ?_
      refine sh_w (i := (.aload_n 0)) (len := 1) (pc2 := 170) (lv2 := [(13, .int (sh_b2 y0)), (0, .ref 67), (1, .int x1), (7, .int (sh_b2 x7)), (10, .int x10), (11, .long x11)]) (st2 := [.ref 67]) (h2 := (sh_rep m.T m.I m.J)) rfl rfl rfl ?_
      refine sh_gJ1 (len := 3) (x := m.J 66 46) (pc2 := 173) rfl rfl (sh_s66 hT.st) rfl rfl rfl ?_
      refine sh_w (i := (.goto 16)) (len := 3) (pc2 := 189) (lv2 := [(13, .int (sh_b2 y0)), (0, .ref 67), (1, .int x1), (7, .int (sh_b2 x7)), (10, .int x10), (11, .long x11)]) (st2 := [.long (m.J 66 46)]) (h2 := (sh_rep m.T m.I m.J)) rfl rfl rfl ?_
      exact kk
    exact sh_Lk_sub (sh_sub_c rfl (sh_sub_c rfl (sh_sub_c rfl (sh_sub_c rfl (sh_sub_c rfl (sh_sub_c rfl (sh_sub_n))))))) (sl_304_189 e tg)
  · refine sh_Lk_lift (T := m.T) (I := m.I) (J := m.J) (s := m.s) (pc2 := 189) (lv2 := [(13, .int (sh_b2 y0)), (0, .ref 67), (1, .int x1), (7, .int (sh_b2 x7)), (10, .int x10), (11, .long x11)]) (st2 := [.long ((m.J 66 46) &&& (((1 : Int64) <<< (Int32.toInt64 (m.I 66 44) &&& 63)) - (1 : Int64)))]) (I2 := m.I) (J2 := m.J) (fun hT v kk => ?_) ?_
    · refine sh_jc (c := .ne) (off := (10)) (pc2 := 176) true rfl (sh_Bnet c) rfl ?_
      refine sh_w (i := (.aload_n 0)) (len := 1) (pc2 := 177) (lv2 := [(13, .int (sh_b2 y0)), (0, .ref 67), (1, .int x1), (7, .int (sh_b2 x7)), (10, .int x10), (11, .long x11)]) (st2 := [.ref 67]) (h2 := (sh_rep m.T m.I m.J)) rfl rfl rfl ?_
      refine sh_gJ1 (len := 3) (x := m.J 66 46) (pc2 := 180) rfl rfl (sh_s66 hT.st) rfl rfl rfl ?_
      refine sh_w (i := (.lconst 1)) (len := 1) (pc2 := 181) (lv2 := [(13, .int (sh_b2 y0)), (0, .ref 67), (1, .int x1), (7, .int (sh_b2 x7)), (10, .int x10), (11, .long x11)]) (st2 := [.long 1, .long (m.J 66 46)]) (h2 := (sh_rep m.T m.I m.J)) rfl rfl rfl ?_
      refine sh_w (i := (.aload_n 0)) (len := 1) (pc2 := 182) (lv2 := [(13, .int (sh_b2 y0)), (0, .ref 67), (1, .int x1), (7, .int (sh_b2 x7)), (10, .int x10), (11, .long x11)]) (st2 := [.ref 67, .long 1, .long (m.J 66 46)]) (h2 := (sh_rep m.T m.I m.J)) rfl rfl rfl ?_
      refine sh_gI1 (len := 3) (x := m.I 66 44) (pc2 := 185) rfl rfl (sh_s66 hT.st) rfl rfl rfl ?_
      refine sh_w (i := .lshl) (len := 1) (pc2 := 186) (lv2 := [(13, .int (sh_b2 y0)), (0, .ref 67), (1, .int x1), (7, .int (sh_b2 x7)), (10, .int x10), (11, .long x11)]) (st2 := [.long ((1 : Int64) <<< (Int32.toInt64 (m.I 66 44) &&& 63)), .long (m.J 66 46)]) (h2 := (sh_rep m.T m.I m.J)) rfl rfl rfl ?_
      refine sh_w (i := (.lconst 1)) (len := 1) (pc2 := 187) (lv2 := [(13, .int (sh_b2 y0)), (0, .ref 67), (1, .int x1), (7, .int (sh_b2 x7)), (10, .int x10), (11, .long x11)]) (st2 := [.long 1, .long ((1 : Int64) <<< (Int32.toInt64 (m.I 66 44) &&& 63)), .long (m.J 66 46)]) (h2 := (sh_rep m.T m.I m.J)) rfl rfl rfl ?_
      refine sh_w (i := .lsub) (len := 1) (pc2 := 188) (lv2 := [(13, .int (sh_b2 y0)), (0, .ref 67), (1, .int x1), (7, .int (sh_b2 x7)), (10, .int x10), (11, .long x11)]) (st2 := [.long (((1 : Int64) <<< (Int32.toInt64 (m.I 66 44) &&& 63)) - (1 : Int64)), .long (m.J 66 46)]) (h2 := (sh_rep m.T m.I m.J)) rfl rfl rfl ?_
      refine sh_w (i := .land) (len := 1) (pc2 := 189) (lv2 := [(13, .int (sh_b2 y0)), (0, .ref 67), (1, .int x1), (7, .int (sh_b2 x7)), (10, .int x10), (11, .long x11)]) (st2 := [.long ((m.J 66 46) &&& (((1 : Int64) <<< (Int32.toInt64 (m.I 66 44) &&& 63)) - (1 : Int64)))]) (h2 := (sh_rep m.T m.I m.J)) rfl rfl rfl ?_
      exact kk
    exact sh_Lk_sub (sh_sub_c rfl (sh_sub_c rfl (sh_sub_c rfl (sh_sub_c rfl (sh_sub_c rfl (sh_sub_c rfl (sh_sub_n))))))) (sl_304_189 e tg)
theorem sl_304_153 {x1 : Int32} {x7 : Bool} {x10 : Int32} {x11 : Int64} {m m2 : sh_X} {o : Outcome} {z : (Bool × sh_X)} (e : sf_304_153 x1 x7 x10 x11 m = some z) (tg : (sh_tZ o m2) z) : sh_Lk 304 153 [(0, .ref 67), (1, .int x1), (7, .int (sh_b2 x7)), (10, .int x10), (11, .long x11)] [] m o m2 12 289 := by
  unfold sf_304_153 at e
  refine sh_Lk_lift (T := m.T) (I := m.I) (J := m.J) (s := m.s) (pc2 := 158) (lv2 := [(0, .ref 67), (1, .int x1), (7, .int (sh_b2 x7)), (10, .int x10), (11, .long x11)]) (st2 := [.int 1]) (I2 := m.I) (J2 := m.J) (fun hT v kk => ?_) ?_
  · refine sh_w (i := (.iconst 1)) (len := 1) (pc2 := 154) (lv2 := [(0, .ref 67), (1, .int x1), (7, .int (sh_b2 x7)), (10, .int x10), (11, .long x11)]) (st2 := [.int 1]) (h2 := (sh_rep m.T m.I m.J)) rfl rfl rfl ?_
    refine sh_w (i := (.goto 4)) (len := 3) (pc2 := 158) (lv2 := [(0, .ref 67), (1, .int x1), (7, .int (sh_b2 x7)), (10, .int x10), (11, .long x11)]) (st2 := [.int 1]) (h2 := (sh_rep m.T m.I m.J)) rfl rfl rfl ?_
    exact kk
  exact sh_Lk_sub (sh_sub_c rfl (sh_sub_c rfl (sh_sub_c rfl (sh_sub_c rfl (sh_sub_c rfl (sh_sub_n)))))) (sl_304_158 e tg)
theorem sl_304_135 {x1 : Int32} {x7 : Bool} {x10 : Int32} {x11 : Int64} {m m2 : sh_X} {o : Outcome} {z : (Bool × sh_X)} (e : sf_304_135 x1 x7 x10 x11 m = some z) (tg : (sh_tZ o m2) z) : sh_Lk 304 135 [(0, .ref 67), (1, .int x1), (7, .int (sh_b2 x7)), (10, .int x10), (11, .long x11)] [] m o m2 12 289 := by
  unfold sf_304_135 at e
  refine sh_Lk_lift (T := m.T) (I := m.I) (J := m.J) (s := m.s) (pc2 := 139) (lv2 := [(0, .ref 67), (1, .int x1), (7, .int (sh_b2 x7)), (10, .int x10), (11, .long x11)]) (st2 := [.int (lg_cmp x11 0)]) (I2 := m.I) (J2 := m.J) (fun hT v kk => ?_) ?_
  · refine sh_w (i := (.lload 11)) (len := 2) (pc2 := 137) (lv2 := [(0, .ref 67), (1, .int x1), (7, .int (sh_b2 x7)), (10, .int x10), (11, .long x11)]) (st2 := [.long x11]) (h2 := (sh_rep m.T m.I m.J)) rfl rfl rfl ?_
    refine sh_w (i := (.lconst 0)) (len := 1) (pc2 := 138) (lv2 := [(0, .ref 67), (1, .int x1), (7, .int (sh_b2 x7)), (10, .int x10), (11, .long x11)]) (st2 := [.long 0, .long x11]) (h2 := (sh_rep m.T m.I m.J)) rfl rfl rfl ?_
    refine sh_w (i := .lcmp) (len := 1) (pc2 := 139) (lv2 := [(0, .ref 67), (1, .int x1), (7, .int (sh_b2 x7)), (10, .int x10), (11, .long x11)]) (st2 := [.int (lg_cmp x11 0)]) (h2 := (sh_rep m.T m.I m.J)) rfl rfl rfl ?_
    exact kk
  rcases sh_ite e with ⟨c, e⟩ | ⟨c, e⟩
  · refine sh_Lk_lift (T := m.T) (I := m.I) (J := m.J) (s := m.s) (pc2 := 153) (lv2 := [(0, .ref 67), (1, .int x1), (7, .int (sh_b2 x7)), (10, .int x10), (11, .long x11)]) (st2 := []) (I2 := m.I) (J2 := m.J) (fun hT v kk => ?_) ?_
    · refine sh_j0 (c := .lt) (off := (14)) (pc2 := 153) true rfl (sh_Cltt c) rfl ?_
      exact kk
    exact sh_Lk_sub (sh_sub_c rfl (sh_sub_c rfl (sh_sub_c rfl (sh_sub_c rfl (sh_sub_c rfl (sh_sub_n)))))) (sl_304_153 e tg)
  · refine sh_Lk_lift (T := m.T) (I := m.I) (J := m.J) (s := m.s) (pc2 := 150) (lv2 := [(0, .ref 67), (1, .int x1), (7, .int (sh_b2 x7)), (10, .int x10), (11, .long x11)]) (st2 := [.int (lg_cmp x11 (Int32.toInt64 (m.I 66 44)))]) (I2 := m.I) (J2 := m.J) (fun hT v kk => ?_) ?_
    · refine sh_j0 (c := .lt) (off := (14)) (pc2 := 142) false rfl (sh_Cltf c) rfl ?_
      refine sh_w (i := (.lload 11)) (len := 2) (pc2 := 144) (lv2 := [(0, .ref 67), (1, .int x1), (7, .int (sh_b2 x7)), (10, .int x10), (11, .long x11)]) (st2 := [.long x11]) (h2 := (sh_rep m.T m.I m.J)) rfl rfl rfl ?_
      refine sh_w (i := (.aload_n 0)) (len := 1) (pc2 := 145) (lv2 := [(0, .ref 67), (1, .int x1), (7, .int (sh_b2 x7)), (10, .int x10), (11, .long x11)]) (st2 := [.ref 67, .long x11]) (h2 := (sh_rep m.T m.I m.J)) rfl rfl rfl ?_
      refine sh_gI1 (len := 3) (x := m.I 66 44) (pc2 := 148) rfl rfl (sh_s66 hT.st) rfl rfl rfl ?_
      refine sh_w (i := .i2l) (len := 1) (pc2 := 149) (lv2 := [(0, .ref 67), (1, .int x1), (7, .int (sh_b2 x7)), (10, .int x10), (11, .long x11)]) (st2 := [.long (Int32.toInt64 (m.I 66 44)), .long x11]) (h2 := (sh_rep m.T m.I m.J)) rfl rfl rfl ?_
      refine sh_w (i := .lcmp) (len := 1) (pc2 := 150) (lv2 := [(0, .ref 67), (1, .int x1), (7, .int (sh_b2 x7)), (10, .int x10), (11, .long x11)]) (st2 := [.int (lg_cmp x11 (Int32.toInt64 (m.I 66 44)))]) (h2 := (sh_rep m.T m.I m.J)) rfl rfl rfl ?_
      exact kk
    rcases sh_ite e with ⟨c, e⟩ | ⟨c, e⟩
    · refine sh_Lk_lift (T := m.T) (I := m.I) (J := m.J) (s := m.s) (pc2 := 158) (lv2 := [(0, .ref 67), (1, .int x1), (7, .int (sh_b2 x7)), (10, .int x10), (11, .long x11)]) (st2 := [.int 0]) (I2 := m.I) (J2 := m.J) (fun hT v kk => ?_) ?_
      · refine sh_j0 (c := .lt) (off := (7)) (pc2 := 157) true rfl (sh_Cltt c) rfl ?_
        refine sh_w (i := (.iconst 0)) (len := 1) (pc2 := 158) (lv2 := [(0, .ref 67), (1, .int x1), (7, .int (sh_b2 x7)), (10, .int x10), (11, .long x11)]) (st2 := [.int 0]) (h2 := (sh_rep m.T m.I m.J)) rfl rfl rfl ?_
        exact kk
      exact sh_Lk_sub (sh_sub_c rfl (sh_sub_c rfl (sh_sub_c rfl (sh_sub_c rfl (sh_sub_c rfl (sh_sub_n)))))) (sl_304_158 e tg)
    · refine sh_Lk_lift (T := m.T) (I := m.I) (J := m.J) (s := m.s) (pc2 := 153) (lv2 := [(0, .ref 67), (1, .int x1), (7, .int (sh_b2 x7)), (10, .int x10), (11, .long x11)]) (st2 := []) (I2 := m.I) (J2 := m.J) (fun hT v kk => ?_) ?_
      · refine sh_j0 (c := .lt) (off := (7)) (pc2 := 153) false rfl (sh_Cltf c) rfl ?_
        exact kk
      exact sh_Lk_sub (sh_sub_c rfl (sh_sub_c rfl (sh_sub_c rfl (sh_sub_c rfl (sh_sub_c rfl (sh_sub_n)))))) (sl_304_153 e tg)
theorem sl_304_95 {x1 : Int32} {x7 : Bool} {x8 : Int32} {x9 : Int32} {x10 : Int32} {x11 : Int64} {m m2 : sh_X} {o : Outcome} {z : (Bool × sh_X)} (e : sf_304_95 x1 x7 x8 x9 x10 x11 m = some z) (tg : (sh_tZ o m2) z) : sh_Lk 304 95 [(0, .ref 67), (1, .int x1), (7, .int (sh_b2 x7)), (8, .int x8), (9, .int x9), (10, .int x10), (11, .long x11)] [] m o m2 12 289 := by
  unfold sf_304_95 at e
  refine sh_Lk_lift (T := m.T) (I := m.I) (J := m.J) (s := m.s) (pc2 := 99) (lv2 := [(0, .ref 67), (1, .int x1), (7, .int (sh_b2 x7)), (8, .int x8), (9, .int x9), (10, .int x10), (11, .long x11)]) (st2 := [.int (m.I 66 45)]) (I2 := m.I) (J2 := m.J) (fun hT v kk => ?_) ?_
  · refine sh_w (i := (.aload_n 0)) (len := 1) (pc2 := 96) (lv2 := [(0, .ref 67), (1, .int x1), (7, .int (sh_b2 x7)), (8, .int x8), (9, .int x9), (10, .int x10), (11, .long x11)]) (st2 := [.ref 67]) (h2 := (sh_rep m.T m.I m.J)) rfl rfl rfl ?_
    refine sh_gI1 (len := 3) (x := m.I 66 45) (pc2 := 99) rfl rfl (sh_s66 hT.st) rfl rfl rfl ?_
    exact kk
  rcases sh_ite e with ⟨c, e⟩ | ⟨c, e⟩
  · refine sh_Lk_lift (T := m.T) (I := m.I) (J := m.J) (s := m.s) (pc2 := 118) (lv2 := [(0, .ref 67), (1, .int x1), (7, .int (sh_b2 x7)), (8, .int x8), (9, .int x9), (10, .int x10), (11, .long x11)]) (st2 := []) (I2 := m.I) (J2 := m.J) (fun hT v kk => ?_) ?_
    · refine sh_j0 (c := .gt) (off := (19)) (pc2 := 118) true rfl (sh_Bgtt c) rfl ?_
      exact kk
    exact sh_Lk_sub (sh_sub_c rfl (sh_sub_c rfl (sh_sub_n))) (sl_304_118 e tg)
  · refine sh_Lk_lift (T := m.T) (I := m.I) (J := m.J) (s := m.s) (pc2 := 104) (lv2 := [(0, .ref 67), (1, .int x1), (7, .int (sh_b2 x7)), (8, .int x8), (9, .int x9), (10, .int x10), (11, .long x11)]) (st2 := [.int (sh_b2 x7)]) (I2 := m.I) (J2 := m.J) (fun hT v kk => ?_) ?_
    · refine sh_j0 (c := .gt) (off := (19)) (pc2 := 102) false rfl (sh_Bgtf c) rfl ?_
      refine sh_w (i := (.iload 7)) (len := 2) (pc2 := 104) (lv2 := [(0, .ref 67), (1, .int x1), (7, .int (sh_b2 x7)), (8, .int x8), (9, .int x9), (10, .int x10), (11, .long x11)]) (st2 := [.int (sh_b2 x7)]) (h2 := (sh_rep m.T m.I m.J)) rfl rfl rfl ?_
      exact kk
    rcases sh_ite e with ⟨c, e⟩ | ⟨c, e⟩
    · refine sh_Lk_lift (T := m.T) (I := m.I) (J := m.J) (s := m.s) (pc2 := 135) (lv2 := [(0, .ref 67), (1, .int x1), (7, .int (sh_b2 x7)), (8, .int x8), (9, .int x9), (10, .int x10), (11, .long x11)]) (st2 := []) (I2 := m.I) (J2 := m.J) (fun hT v kk => ?_) ?_
      · refine sh_j0 (c := .ne) (off := (31)) (pc2 := 135) true rfl (sh_Znet c) rfl ?_
        exact kk
      exact sh_Lk_sub (sh_sub_c rfl (sh_sub_c rfl (sh_sub_c rfl (sh_sub_c rfl (sh_sub_c rfl (sh_sub_n)))))) (sl_304_135 e tg)
    · refine sh_Lk_lift (T := m.T) (I := m.I) (J := m.J) (s := m.s) (pc2 := 110) (lv2 := [(0, .ref 67), (1, .int x1), (7, .int (sh_b2 x7)), (8, .int x8), (9, .int x9), (10, .int x10), (11, .long x11)]) (st2 := [.int 1, .int x8]) (I2 := m.I) (J2 := m.J) (fun hT v kk => ?_) ?_
      · refine sh_j0 (c := .ne) (off := (31)) (pc2 := 107) false rfl (sh_Znef c) rfl ?_
        refine sh_w (i := (.iload 8)) (len := 2) (pc2 := 109) (lv2 := [(0, .ref 67), (1, .int x1), (7, .int (sh_b2 x7)), (8, .int x8), (9, .int x9), (10, .int x10), (11, .long x11)]) (st2 := [.int x8]) (h2 := (sh_rep m.T m.I m.J)) rfl rfl rfl ?_
        refine sh_w (i := (.iconst 1)) (len := 1) (pc2 := 110) (lv2 := [(0, .ref 67), (1, .int x1), (7, .int (sh_b2 x7)), (8, .int x8), (9, .int x9), (10, .int x10), (11, .long x11)]) (st2 := [.int 1, .int x8]) (h2 := (sh_rep m.T m.I m.J)) rfl rfl rfl ?_
        exact kk
      rcases sh_ite e with ⟨c, e⟩ | ⟨c, e⟩
      · refine sh_Lk_lift (T := m.T) (I := m.I) (J := m.J) (s := m.s) (pc2 := 115) (lv2 := [(0, .ref 67), (1, .int x1), (7, .int (sh_b2 x7)), (8, .int x8), (9, .int x9), (10, .int x10), (11, .long x11)]) (st2 := [.int x9]) (I2 := m.I) (J2 := m.J) (fun hT v kk => ?_) ?_
        · refine sh_jc (c := .ne) (off := (8)) (pc2 := 113) false rfl (sh_Bnef c) rfl ?_
          refine sh_w (i := (.iload 9)) (len := 2) (pc2 := 115) (lv2 := [(0, .ref 67), (1, .int x1), (7, .int (sh_b2 x7)), (8, .int x8), (9, .int x9), (10, .int x10), (11, .long x11)]) (st2 := [.int x9]) (h2 := (sh_rep m.T m.I m.J)) rfl rfl rfl ?_
          exact kk
        rcases sh_ite e with ⟨c, e⟩ | ⟨c, e⟩
        · refine sh_Lk_lift (T := m.T) (I := m.I) (J := m.J) (s := m.s) (pc2 := 118) (lv2 := [(0, .ref 67), (1, .int x1), (7, .int (sh_b2 x7)), (8, .int x8), (9, .int x9), (10, .int x10), (11, .long x11)]) (st2 := []) (I2 := m.I) (J2 := m.J) (fun hT v kk => ?_) ?_
          · refine sh_j0 (c := .le) (off := (20)) (pc2 := 118) false rfl (sh_Blef c) rfl ?_
            exact kk
          exact sh_Lk_sub (sh_sub_c rfl (sh_sub_c rfl (sh_sub_n))) (sl_304_118 e tg)
        · refine sh_Lk_lift (T := m.T) (I := m.I) (J := m.J) (s := m.s) (pc2 := 135) (lv2 := [(0, .ref 67), (1, .int x1), (7, .int (sh_b2 x7)), (8, .int x8), (9, .int x9), (10, .int x10), (11, .long x11)]) (st2 := []) (I2 := m.I) (J2 := m.J) (fun hT v kk => ?_) ?_
          · refine sh_j0 (c := .le) (off := (20)) (pc2 := 135) true rfl (sh_Blet c) rfl ?_
            exact kk
          exact sh_Lk_sub (sh_sub_c rfl (sh_sub_c rfl (sh_sub_c rfl (sh_sub_c rfl (sh_sub_c rfl (sh_sub_n)))))) (sl_304_135 e tg)
      · refine sh_Lk_lift (T := m.T) (I := m.I) (J := m.J) (s := m.s) (pc2 := 118) (lv2 := [(0, .ref 67), (1, .int x1), (7, .int (sh_b2 x7)), (8, .int x8), (9, .int x9), (10, .int x10), (11, .long x11)]) (st2 := []) (I2 := m.I) (J2 := m.J) (fun hT v kk => ?_) ?_
        · refine sh_jc (c := .ne) (off := (8)) (pc2 := 118) true rfl (sh_Bnet c) rfl ?_
          exact kk
        exact sh_Lk_sub (sh_sub_c rfl (sh_sub_c rfl (sh_sub_n))) (sl_304_118 e tg)
theorem sl_304_13 {x1 : Int32} {x2 : Int32} {x3 : Int32} {x4 : Int32} {x5 : Int64} {y0 : Bool} {m m2 : sh_X} {o : Outcome} {z : (Bool × sh_X)} (e : sf_304_13 x1 x2 x3 x4 x5 y0 m = some z) (tg : (sh_tZ o m2) z) : sh_Lk 304 13 [(0, .ref 67), (1, .int x1), (2, .int x2), (3, .int x3), (4, .int x4), (5, .long x5)] [.int (sh_b2 y0)] m o m2 12 289 := by
  unfold sf_304_13 at e
  refine sh_Lk_lift (T := m.T) (I := m.I) (J := m.J) (s := m.s) (pc2 := 67) (lv2 := [(11, .long (m.J 66 46)), (10, .int (m.I 66 44)), (9, .int (m.I 66 45)), (8, .int (m.I 66 43)), (7, .int (sh_b2 y0)), (0, .ref 67), (1, .int x1), (2, .int x2), (3, .int x3), (4, .int x4), (5, .long x5)]) (st2 := [.int x1, .ref 75, .ref 67]) (I2 := sh_u2 (sh_u2 (sh_u2 m.I 66 43 x2) 66 44 x3) 66 45 x4) (J2 := sh_u2 m.J 66 46 x5) (fun hT v kk => ?_) ?_
  · refine sh_w (i := (.istore 7)) (len := 2) (pc2 := 15) (lv2 := [(7, .int (sh_b2 y0)), (0, .ref 67), (1, .int x1), (2, .int x2), (3, .int x3), (4, .int x4), (5, .long x5)]) (st2 := []) (h2 := (sh_rep m.T m.I m.J)) rfl rfl rfl ?_
    refine sh_w (i := (.aload_n 0)) (len := 1) (pc2 := 16) (lv2 := [(7, .int (sh_b2 y0)), (0, .ref 67), (1, .int x1), (2, .int x2), (3, .int x3), (4, .int x4), (5, .long x5)]) (st2 := [.ref 67]) (h2 := (sh_rep m.T m.I m.J)) rfl rfl rfl ?_
    refine sh_gI1 (len := 3) (x := m.I 66 43) (pc2 := 19) rfl rfl (sh_s66 hT.st) rfl rfl rfl ?_
    refine sh_w (i := (.istore 8)) (len := 2) (pc2 := 21) (lv2 := [(8, .int (m.I 66 43)), (7, .int (sh_b2 y0)), (0, .ref 67), (1, .int x1), (2, .int x2), (3, .int x3), (4, .int x4), (5, .long x5)]) (st2 := []) (h2 := (sh_rep m.T m.I m.J)) rfl rfl rfl ?_
    refine sh_w (i := (.aload_n 0)) (len := 1) (pc2 := 22) (lv2 := [(8, .int (m.I 66 43)), (7, .int (sh_b2 y0)), (0, .ref 67), (1, .int x1), (2, .int x2), (3, .int x3), (4, .int x4), (5, .long x5)]) (st2 := [.ref 67]) (h2 := (sh_rep m.T m.I m.J)) rfl rfl rfl ?_
    refine sh_gI1 (len := 3) (x := m.I 66 45) (pc2 := 25) rfl rfl (sh_s66 hT.st) rfl rfl rfl ?_
    refine sh_w (i := (.istore 9)) (len := 2) (pc2 := 27) (lv2 := [(9, .int (m.I 66 45)), (8, .int (m.I 66 43)), (7, .int (sh_b2 y0)), (0, .ref 67), (1, .int x1), (2, .int x2), (3, .int x3), (4, .int x4), (5, .long x5)]) (st2 := []) (h2 := (sh_rep m.T m.I m.J)) rfl rfl rfl ?_
    refine sh_w (i := (.aload_n 0)) (len := 1) (pc2 := 28) (lv2 := [(9, .int (m.I 66 45)), (8, .int (m.I 66 43)), (7, .int (sh_b2 y0)), (0, .ref 67), (1, .int x1), (2, .int x2), (3, .int x3), (4, .int x4), (5, .long x5)]) (st2 := [.ref 67]) (h2 := (sh_rep m.T m.I m.J)) rfl rfl rfl ?_
    refine sh_gI1 (len := 3) (x := m.I 66 44) (pc2 := 31) rfl rfl (sh_s66 hT.st) rfl rfl rfl ?_
    refine sh_w (i := (.istore 10)) (len := 2) (pc2 := 33) (lv2 := [(10, .int (m.I 66 44)), (9, .int (m.I 66 45)), (8, .int (m.I 66 43)), (7, .int (sh_b2 y0)), (0, .ref 67), (1, .int x1), (2, .int x2), (3, .int x3), (4, .int x4), (5, .long x5)]) (st2 := []) (h2 := (sh_rep m.T m.I m.J)) rfl rfl rfl ?_
    refine sh_w (i := (.aload_n 0)) (len := 1) (pc2 := 34) (lv2 := [(10, .int (m.I 66 44)), (9, .int (m.I 66 45)), (8, .int (m.I 66 43)), (7, .int (sh_b2 y0)), (0, .ref 67), (1, .int x1), (2, .int x2), (3, .int x3), (4, .int x4), (5, .long x5)]) (st2 := [.ref 67]) (h2 := (sh_rep m.T m.I m.J)) rfl rfl rfl ?_
    refine sh_gJ1 (len := 3) (x := m.J 66 46) (pc2 := 37) rfl rfl (sh_s66 hT.st) rfl rfl rfl ?_
    refine sh_w (i := (.lstore 11)) (len := 2) (pc2 := 39) (lv2 := [(11, .long (m.J 66 46)), (10, .int (m.I 66 44)), (9, .int (m.I 66 45)), (8, .int (m.I 66 43)), (7, .int (sh_b2 y0)), (0, .ref 67), (1, .int x1), (2, .int x2), (3, .int x3), (4, .int x4), (5, .long x5)]) (st2 := []) (h2 := (sh_rep m.T m.I m.J)) rfl rfl rfl ?_
    refine sh_w (i := (.aload_n 0)) (len := 1) (pc2 := 40) (lv2 := [(11, .long (m.J 66 46)), (10, .int (m.I 66 44)), (9, .int (m.I 66 45)), (8, .int (m.I 66 43)), (7, .int (sh_b2 y0)), (0, .ref 67), (1, .int x1), (2, .int x2), (3, .int x3), (4, .int x4), (5, .long x5)]) (st2 := [.ref 67]) (h2 := (sh_rep m.T m.I m.J)) rfl rfl rfl ?_
    refine sh_w (i := (.iload_n 2)) (len := 1) (pc2 := 41) (lv2 := [(11, .long (m.J 66 46)), (10, .int (m.I 66 44)), (9, .int (m.I 66 45)), (8, .int (m.I 66 43)), (7, .int (sh_b2 y0)), (0, .ref 67), (1, .int x1), (2, .int x2), (3, .int x3), (4, .int x4), (5, .long x5)]) (st2 := [.int x2, .ref 67]) (h2 := (sh_rep m.T m.I m.J)) rfl rfl rfl ?_
    refine sh_pI1 (x := x2) (pc2 := 44) rfl rfl (sh_s66 hT.st) rfl rfl rfl rfl ?_
    refine sh_w (i := (.aload_n 0)) (len := 1) (pc2 := 45) (lv2 := [(11, .long (m.J 66 46)), (10, .int (m.I 66 44)), (9, .int (m.I 66 45)), (8, .int (m.I 66 43)), (7, .int (sh_b2 y0)), (0, .ref 67), (1, .int x1), (2, .int x2), (3, .int x3), (4, .int x4), (5, .long x5)]) (st2 := [.ref 67]) (h2 := (sh_rep m.T (sh_u2 m.I 66 43 x2) m.J)) rfl rfl rfl ?_
    refine sh_w (i := (.iload_n 3)) (len := 1) (pc2 := 46) (lv2 := [(11, .long (m.J 66 46)), (10, .int (m.I 66 44)), (9, .int (m.I 66 45)), (8, .int (m.I 66 43)), (7, .int (sh_b2 y0)), (0, .ref 67), (1, .int x1), (2, .int x2), (3, .int x3), (4, .int x4), (5, .long x5)]) (st2 := [.int x3, .ref 67]) (h2 := (sh_rep m.T (sh_u2 m.I 66 43 x2) m.J)) rfl rfl rfl ?_
    refine sh_pI1 (x := x3) (pc2 := 49) rfl rfl (sh_s66 hT.st) rfl rfl rfl rfl ?_
    refine sh_w (i := (.aload_n 0)) (len := 1) (pc2 := 50) (lv2 := [(11, .long (m.J 66 46)), (10, .int (m.I 66 44)), (9, .int (m.I 66 45)), (8, .int (m.I 66 43)), (7, .int (sh_b2 y0)), (0, .ref 67), (1, .int x1), (2, .int x2), (3, .int x3), (4, .int x4), (5, .long x5)]) (st2 := [.ref 67]) (h2 := (sh_rep m.T (sh_u2 (sh_u2 m.I 66 43 x2) 66 44 x3) m.J)) rfl rfl rfl ?_
    refine sh_w (i := (.iload 4)) (len := 2) (pc2 := 52) (lv2 := [(11, .long (m.J 66 46)), (10, .int (m.I 66 44)), (9, .int (m.I 66 45)), (8, .int (m.I 66 43)), (7, .int (sh_b2 y0)), (0, .ref 67), (1, .int x1), (2, .int x2), (3, .int x3), (4, .int x4), (5, .long x5)]) (st2 := [.int x4, .ref 67]) (h2 := (sh_rep m.T (sh_u2 (sh_u2 m.I 66 43 x2) 66 44 x3) m.J)) rfl rfl rfl ?_
    refine sh_pI1 (x := x4) (pc2 := 55) rfl rfl (sh_s66 hT.st) rfl rfl rfl rfl ?_
    refine sh_w (i := (.aload_n 0)) (len := 1) (pc2 := 56) (lv2 := [(11, .long (m.J 66 46)), (10, .int (m.I 66 44)), (9, .int (m.I 66 45)), (8, .int (m.I 66 43)), (7, .int (sh_b2 y0)), (0, .ref 67), (1, .int x1), (2, .int x2), (3, .int x3), (4, .int x4), (5, .long x5)]) (st2 := [.ref 67]) (h2 := (sh_rep m.T (sh_u2 (sh_u2 (sh_u2 m.I 66 43 x2) 66 44 x3) 66 45 x4) m.J)) rfl rfl rfl ?_
    refine sh_w (i := (.lload 5)) (len := 2) (pc2 := 58) (lv2 := [(11, .long (m.J 66 46)), (10, .int (m.I 66 44)), (9, .int (m.I 66 45)), (8, .int (m.I 66 43)), (7, .int (sh_b2 y0)), (0, .ref 67), (1, .int x1), (2, .int x2), (3, .int x3), (4, .int x4), (5, .long x5)]) (st2 := [.long x5, .ref 67]) (h2 := (sh_rep m.T (sh_u2 (sh_u2 (sh_u2 m.I 66 43 x2) 66 44 x3) 66 45 x4) m.J)) rfl rfl rfl ?_
    refine sh_pJ1 (x := x5) (pc2 := 61) rfl rfl (sh_s66 hT.st) rfl rfl rfl rfl ?_
    refine sh_w (i := (.aload_n 0)) (len := 1) (pc2 := 62) (lv2 := [(11, .long (m.J 66 46)), (10, .int (m.I 66 44)), (9, .int (m.I 66 45)), (8, .int (m.I 66 43)), (7, .int (sh_b2 y0)), (0, .ref 67), (1, .int x1), (2, .int x2), (3, .int x3), (4, .int x4), (5, .long x5)]) (st2 := [.ref 67]) (h2 := (sh_rep m.T (sh_u2 (sh_u2 (sh_u2 m.I 66 43 x2) 66 44 x3) 66 45 x4) (sh_u2 m.J 66 46 x5))) rfl rfl rfl ?_
    refine sh_w (i := (.aload_n 0)) (len := 1) (pc2 := 63) (lv2 := [(11, .long (m.J 66 46)), (10, .int (m.I 66 44)), (9, .int (m.I 66 45)), (8, .int (m.I 66 43)), (7, .int (sh_b2 y0)), (0, .ref 67), (1, .int x1), (2, .int x2), (3, .int x3), (4, .int x4), (5, .long x5)]) (st2 := [.ref 67, .ref 67]) (h2 := (sh_rep m.T (sh_u2 (sh_u2 (sh_u2 m.I 66 43 x2) 66 44 x3) 66 45 x4) (sh_u2 m.J 66 46 x5))) rfl rfl rfl ?_
    refine sh_gR1 (len := 3) (x := .ref 75) (pc2 := 66) rfl rfl (sh_s66 hT.st) rfl rfl ?_
    refine sh_w (i := (.iload_n 1)) (len := 1) (pc2 := 67) (lv2 := [(11, .long (m.J 66 46)), (10, .int (m.I 66 44)), (9, .int (m.I 66 45)), (8, .int (m.I 66 43)), (7, .int (sh_b2 y0)), (0, .ref 67), (1, .int x1), (2, .int x2), (3, .int x3), (4, .int x4), (5, .long x5)]) (st2 := [.int x1, .ref 75, .ref 67]) (h2 := (sh_rep m.T (sh_u2 (sh_u2 (sh_u2 m.I 66 43 x2) 66 44 x3) 66 45 x4) (sh_u2 m.J 66 46 x5))) rfl rfl rfl ?_
    exact kk
  obtain ⟨c, e⟩ := sh_gd e
  refine sh_Lk_lift (T := m.T) (I := sh_u2 (sh_u2 (sh_u2 m.I 66 43 x2) 66 44 x3) 66 45 x4) (J := sh_u2 m.J 66 46 x5) (s := m.s) (pc2 := 68) (lv2 := [(11, .long (m.J 66 46)), (10, .int (m.I 66 44)), (9, .int (m.I 66 45)), (8, .int (m.I 66 43)), (7, .int (sh_b2 y0)), (0, .ref 67), (1, .int x1), (2, .int x2), (3, .int x3), (4, .int x4), (5, .long x5)]) (st2 := [.int (m.I 74 (Int32.toNatClampNeg x1)), .ref 67]) (I2 := sh_u2 (sh_u2 (sh_u2 m.I 66 43 x2) 66 44 x3) 66 45 x4) (J2 := sh_u2 m.J 66 46 x5) (fun hT v kk => ?_) ?_
  · refine sh_ia1 (x := m.I 74 (Int32.toNatClampNeg x1)) (pc2 := 68) rfl (sh_s74 hT.st) (sh_okb1 c) (sh_okb2 c) rfl rfl ?_
    exact kk
  obtain ⟨r1, m11, e1, e⟩ := sh_bn_e e
  refine sh_Lk_cV (r := (some (.int (sh_b2 r1)))) (st2 := [.int (sh_b2 r1)]) (pc2 := 71) (k2 := 298) (a := 66) (as := [.ref 67, .int (m.I 74 (Int32.toNatClampNeg x1))]) (rest := []) rfl rfl rfl (fun hT => (sh_s66 hT.st)) rfl rfl ⟨Nat.le_of_ble_eq_true rfl, Nat.le_of_ble_eq_true rfl⟩ (sl_298 e1 ⟨rfl, rfl⟩) rfl rfl (Nat.le_of_ble_eq_true rfl) (Nat.le_of_ble_eq_true rfl) ?_
  rcases sh_ite e with ⟨c, e⟩ | ⟨c, e⟩
  · refine sh_Lk_lift (T := m11.T) (I := m11.I) (J := m11.J) (s := m11.s) (pc2 := 80) (lv2 := [(11, .long (m.J 66 46)), (10, .int (m.I 66 44)), (9, .int (m.I 66 45)), (8, .int (m.I 66 43)), (7, .int (sh_b2 y0)), (0, .ref 67), (1, .int x1), (2, .int x2), (3, .int x3), (4, .int x4), (5, .long x5)]) (st2 := [.int (m11.I 66 43)]) (I2 := m11.I) (J2 := m11.J) (fun hT v kk => ?_) ?_
    · refine sh_j0 (c := .ne) (off := (5)) (pc2 := 76) true rfl (sh_Znet c) rfl ?_
      refine sh_w (i := (.aload_n 0)) (len := 1) (pc2 := 77) (lv2 := [(11, .long (m.J 66 46)), (10, .int (m.I 66 44)), (9, .int (m.I 66 45)), (8, .int (m.I 66 43)), (7, .int (sh_b2 y0)), (0, .ref 67), (1, .int x1), (2, .int x2), (3, .int x3), (4, .int x4), (5, .long x5)]) (st2 := [.ref 67]) (h2 := (sh_rep m11.T m11.I m11.J)) rfl rfl rfl ?_
      refine sh_gI1 (len := 3) (x := m11.I 66 43) (pc2 := 80) rfl rfl (sh_s66 hT.st) rfl rfl rfl ?_
      exact kk
    rcases sh_ite e with ⟨c, e⟩ | ⟨c, e⟩
    · refine sh_Lk_lift (T := m11.T) (I := m11.I) (J := m11.J) (s := m11.s) (pc2 := 118) (lv2 := [(11, .long (m.J 66 46)), (10, .int (m.I 66 44)), (9, .int (m.I 66 45)), (8, .int (m.I 66 43)), (7, .int (sh_b2 y0)), (0, .ref 67), (1, .int x1), (2, .int x2), (3, .int x3), (4, .int x4), (5, .long x5)]) (st2 := []) (I2 := m11.I) (J2 := m11.J) (fun hT v kk => ?_) ?_
      · refine sh_j0 (c := .eq) (off := (38)) (pc2 := 118) true rfl (sh_Beqt c) rfl ?_
        exact kk
      exact sh_Lk_sub (sh_sub_c rfl (sh_sub_c rfl (sh_sub_n))) (sl_304_118 e tg)
    · refine sh_Lk_lift (T := m11.T) (I := m11.I) (J := m11.J) (s := m11.s) (pc2 := 85) (lv2 := [(11, .long (m.J 66 46)), (10, .int (m.I 66 44)), (9, .int (m.I 66 45)), (8, .int (m.I 66 43)), (7, .int (sh_b2 y0)), (0, .ref 67), (1, .int x1), (2, .int x2), (3, .int x3), (4, .int x4), (5, .long x5)]) (st2 := [.int (sh_b2 y0)]) (I2 := m11.I) (J2 := m11.J) (fun hT v kk => ?_) ?_
      · refine sh_j0 (c := .eq) (off := (38)) (pc2 := 83) false rfl (sh_Beqf c) rfl ?_
        refine sh_w (i := (.iload 7)) (len := 2) (pc2 := 85) (lv2 := [(11, .long (m.J 66 46)), (10, .int (m.I 66 44)), (9, .int (m.I 66 45)), (8, .int (m.I 66 43)), (7, .int (sh_b2 y0)), (0, .ref 67), (1, .int x1), (2, .int x2), (3, .int x3), (4, .int x4), (5, .long x5)]) (st2 := [.int (sh_b2 y0)]) (h2 := (sh_rep m11.T m11.I m11.J)) rfl rfl rfl ?_
        exact kk
      rcases sh_ite e with ⟨c, e⟩ | ⟨c, e⟩
      · refine sh_Lk_lift (T := m11.T) (I := m11.I) (J := m11.J) (s := m11.s) (pc2 := 92) (lv2 := [(11, .long (m.J 66 46)), (10, .int (m.I 66 44)), (9, .int (m.I 66 45)), (8, .int (m.I 66 43)), (7, .int (sh_b2 y0)), (0, .ref 67), (1, .int x1), (2, .int x2), (3, .int x3), (4, .int x4), (5, .long x5)]) (st2 := [.int (lg_cmp (m.J 66 46) 0)]) (I2 := m11.I) (J2 := m11.J) (fun hT v kk => ?_) ?_
        · refine sh_j0 (c := .eq) (off := (10)) (pc2 := 88) false rfl (sh_Zeqf c) rfl ?_
          refine sh_w (i := (.lload 11)) (len := 2) (pc2 := 90) (lv2 := [(11, .long (m.J 66 46)), (10, .int (m.I 66 44)), (9, .int (m.I 66 45)), (8, .int (m.I 66 43)), (7, .int (sh_b2 y0)), (0, .ref 67), (1, .int x1), (2, .int x2), (3, .int x3), (4, .int x4), (5, .long x5)]) (st2 := [.long (m.J 66 46)]) (h2 := (sh_rep m11.T m11.I m11.J)) rfl rfl rfl ?_
          refine sh_w (i := (.lconst 0)) (len := 1) (pc2 := 91) (lv2 := [(11, .long (m.J 66 46)), (10, .int (m.I 66 44)), (9, .int (m.I 66 45)), (8, .int (m.I 66 43)), (7, .int (sh_b2 y0)), (0, .ref 67), (1, .int x1), (2, .int x2), (3, .int x3), (4, .int x4), (5, .long x5)]) (st2 := [.long 0, .long (m.J 66 46)]) (h2 := (sh_rep m11.T m11.I m11.J)) rfl rfl rfl ?_
          refine sh_w (i := .lcmp) (len := 1) (pc2 := 92) (lv2 := [(11, .long (m.J 66 46)), (10, .int (m.I 66 44)), (9, .int (m.I 66 45)), (8, .int (m.I 66 43)), (7, .int (sh_b2 y0)), (0, .ref 67), (1, .int x1), (2, .int x2), (3, .int x3), (4, .int x4), (5, .long x5)]) (st2 := [.int (lg_cmp (m.J 66 46) 0)]) (h2 := (sh_rep m11.T m11.I m11.J)) rfl rfl rfl ?_
          exact kk
        rcases sh_ite e with ⟨c, e⟩ | ⟨c, e⟩
        · refine sh_Lk_lift (T := m11.T) (I := m11.I) (J := m11.J) (s := m11.s) (pc2 := 118) (lv2 := [(11, .long (m.J 66 46)), (10, .int (m.I 66 44)), (9, .int (m.I 66 45)), (8, .int (m.I 66 43)), (7, .int (sh_b2 y0)), (0, .ref 67), (1, .int x1), (2, .int x2), (3, .int x3), (4, .int x4), (5, .long x5)]) (st2 := []) (I2 := m11.I) (J2 := m11.J) (fun hT v kk => ?_) ?_
          · refine sh_j0 (c := .lt) (off := (26)) (pc2 := 118) true rfl (sh_Cltt c) rfl ?_
            exact kk
          exact sh_Lk_sub (sh_sub_c rfl (sh_sub_c rfl (sh_sub_n))) (sl_304_118 e tg)
        · refine sh_Lk_lift (T := m11.T) (I := m11.I) (J := m11.J) (s := m11.s) (pc2 := 95) (lv2 := [(11, .long (m.J 66 46)), (10, .int (m.I 66 44)), (9, .int (m.I 66 45)), (8, .int (m.I 66 43)), (7, .int (sh_b2 y0)), (0, .ref 67), (1, .int x1), (2, .int x2), (3, .int x3), (4, .int x4), (5, .long x5)]) (st2 := []) (I2 := m11.I) (J2 := m11.J) (fun hT v kk => ?_) ?_
          · refine sh_j0 (c := .lt) (off := (26)) (pc2 := 95) false rfl (sh_Cltf c) rfl ?_
            exact kk
          exact sh_Lk_sub (sh_sub_c rfl (sh_sub_c rfl (sh_sub_c rfl (sh_sub_c rfl (sh_sub_c rfl (sh_sub_c rfl (sh_sub_c rfl (sh_sub_n)))))))) (sl_304_95 e tg)
      · refine sh_Lk_lift (T := m11.T) (I := m11.I) (J := m11.J) (s := m11.s) (pc2 := 95) (lv2 := [(11, .long (m.J 66 46)), (10, .int (m.I 66 44)), (9, .int (m.I 66 45)), (8, .int (m.I 66 43)), (7, .int (sh_b2 y0)), (0, .ref 67), (1, .int x1), (2, .int x2), (3, .int x3), (4, .int x4), (5, .long x5)]) (st2 := []) (I2 := m11.I) (J2 := m11.J) (fun hT v kk => ?_) ?_
        · refine sh_j0 (c := .eq) (off := (10)) (pc2 := 95) true rfl (sh_Zeqt c) rfl ?_
          exact kk
        exact sh_Lk_sub (sh_sub_c rfl (sh_sub_c rfl (sh_sub_c rfl (sh_sub_c rfl (sh_sub_c rfl (sh_sub_c rfl (sh_sub_c rfl (sh_sub_n)))))))) (sl_304_95 e tg)
  · refine sh_Lk_lift (T := m11.T) (I := m11.I) (J := m11.J) (s := m11.s) (pc2 := 75) (lv2 := [(11, .long (m.J 66 46)), (10, .int (m.I 66 44)), (9, .int (m.I 66 45)), (8, .int (m.I 66 43)), (7, .int (sh_b2 y0)), (0, .ref 67), (1, .int x1), (2, .int x2), (3, .int x3), (4, .int x4), (5, .long x5)]) (st2 := [.int 0]) (I2 := m11.I) (J2 := m11.J) (fun hT v kk => ?_) ?_
    · refine sh_j0 (c := .ne) (off := (5)) (pc2 := 74) false rfl (sh_Znef c) rfl ?_
      refine sh_w (i := (.iconst 0)) (len := 1) (pc2 := 75) (lv2 := [(11, .long (m.J 66 46)), (10, .int (m.I 66 44)), (9, .int (m.I 66 45)), (8, .int (m.I 66 43)), (7, .int (sh_b2 y0)), (0, .ref 67), (1, .int x1), (2, .int x2), (3, .int x3), (4, .int x4), (5, .long x5)]) (st2 := [.int 0]) (h2 := (sh_rep m11.T m11.I m11.J)) rfl rfl rfl ?_
      exact kk
    obtain rfl := Option.some.inj e
    obtain ⟨rfl, rfl⟩ := tg
    exact sh_Lk_ret (i := .ireturn) rfl rfl rfl (Nat.le_of_ble_eq_true rfl) (Nat.le_of_ble_eq_true rfl)
theorem sl_304 {x1 : Int32} {x2 : Int32} {x3 : Int32} {x4 : Int32} {x5 : Int64} {m m2 : sh_X} {o : Outcome} {z : (Bool × sh_X)} (e : sf_304 x1 x2 x3 x4 x5 m = some z) (tg : (sh_tZ o m2) z) : sh_Lk 304 0 [(0, .ref 67), (1, .int x1), (2, .int x2), (3, .int x3), (4, .int x4), (5, .long x5)] [] m o m2 12 289 := by
  unfold sf_304 at e
  refine sh_Lk_lift (T := m.T) (I := m.I) (J := m.J) (s := m.s) (pc2 := 5) (lv2 := [(0, .ref 67), (1, .int x1), (2, .int x2), (3, .int x3), (4, .int x4), (5, .long x5)]) (st2 := [.int 3, .int (m.I 66 43)]) (I2 := m.I) (J2 := m.J) (fun hT v kk => ?_) ?_
  · refine sh_w (i := (.aload_n 0)) (len := 1) (pc2 := 1) (lv2 := [(0, .ref 67), (1, .int x1), (2, .int x2), (3, .int x3), (4, .int x4), (5, .long x5)]) (st2 := [.ref 67]) (h2 := (sh_rep m.T m.I m.J)) rfl rfl rfl ?_
    refine sh_gI1 (len := 3) (x := m.I 66 43) (pc2 := 4) rfl rfl (sh_s66 hT.st) rfl rfl rfl ?_
    refine sh_w (i := (.iconst 3)) (len := 1) (pc2 := 5) (lv2 := [(0, .ref 67), (1, .int x1), (2, .int x2), (3, .int x3), (4, .int x4), (5, .long x5)]) (st2 := [.int 3, .int (m.I 66 43)]) (h2 := (sh_rep m.T m.I m.J)) rfl rfl rfl ?_
    exact kk
  rcases sh_ite e with ⟨c, e⟩ | ⟨c, e⟩
  · refine sh_Lk_lift (T := m.T) (I := m.I) (J := m.J) (s := m.s) (pc2 := 13) (lv2 := [(0, .ref 67), (1, .int x1), (2, .int x2), (3, .int x3), (4, .int x4), (5, .long x5)]) (st2 := [.int 1]) (I2 := m.I) (J2 := m.J) (fun hT v kk => ?_) ?_
    · refine sh_jc (c := .ne) (off := (7)) (pc2 := 8) false rfl (sh_Bnef c) rfl ?_
      refine sh_w (i := (.iconst 1)) (len := 1) (pc2 := 9) (lv2 := [(0, .ref 67), (1, .int x1), (2, .int x2), (3, .int x3), (4, .int x4), (5, .long x5)]) (st2 := [.int 1]) (h2 := (sh_rep m.T m.I m.J)) rfl rfl rfl ?_
      refine sh_w (i := (.goto 4)) (len := 3) (pc2 := 13) (lv2 := [(0, .ref 67), (1, .int x1), (2, .int x2), (3, .int x3), (4, .int x4), (5, .long x5)]) (st2 := [.int 1]) (h2 := (sh_rep m.T m.I m.J)) rfl rfl rfl ?_
      exact kk
    exact sh_Lk_sub (sh_sub_c rfl (sh_sub_c rfl (sh_sub_c rfl (sh_sub_c rfl (sh_sub_c rfl (sh_sub_c rfl (sh_sub_n))))))) (sl_304_13 e tg)
  · refine sh_Lk_lift (T := m.T) (I := m.I) (J := m.J) (s := m.s) (pc2 := 13) (lv2 := [(0, .ref 67), (1, .int x1), (2, .int x2), (3, .int x3), (4, .int x4), (5, .long x5)]) (st2 := [.int 0]) (I2 := m.I) (J2 := m.J) (fun hT v kk => ?_) ?_
    · refine sh_jc (c := .ne) (off := (7)) (pc2 := 12) true rfl (sh_Bnet c) rfl ?_
      refine sh_w (i := (.iconst 0)) (len := 1) (pc2 := 13) (lv2 := [(0, .ref 67), (1, .int x1), (2, .int x2), (3, .int x3), (4, .int x4), (5, .long x5)]) (st2 := [.int 0]) (h2 := (sh_rep m.T m.I m.J)) rfl rfl rfl ?_
      exact kk
    exact sh_Lk_sub (sh_sub_c rfl (sh_sub_c rfl (sh_sub_c rfl (sh_sub_c rfl (sh_sub_c rfl (sh_sub_c rfl (sh_sub_n))))))) (sl_304_13 e tg)
theorem sl_306_20 {y1 : Int64} {m m2 : sh_X} {o : Outcome} {z : (Unit × sh_X)} (e : sf_306_20 y1 m = some z) (tg : (sh_tV o m2) z) : sh_Lk 306 20 [] [.long y1, .ref 67] m o m2 8 200 := by
  unfold sf_306_20 at e
  refine sh_Lk_lift (T := m.T) (I := m.I) (J := m.J) (s := m.s) (pc2 := 23) (lv2 := []) (st2 := []) (I2 := m.I) (J2 := sh_u2 m.J 66 46 y1) (fun hT v kk => ?_) ?_
  · refine sh_pJ1 (x := y1) (pc2 := 23) rfl rfl (sh_s66 hT.st) rfl rfl rfl rfl ?_
    exact kk
  obtain rfl := Option.some.inj e
  obtain ⟨rfl, rfl⟩ := tg
  exact sh_Lk_ret (i := .return_) rfl rfl rfl (Nat.le_of_ble_eq_true rfl) (Nat.le_of_ble_eq_true rfl)
theorem sl_306 {x1 : Bool} {m m2 : sh_X} {o : Outcome} {z : (Unit × sh_X)} (e : sf_306 x1 m = some z) (tg : (sh_tV o m2) z) : sh_Lk 306 0 [(0, .ref 67), (1, .int (sh_b2 x1))] [] m o m2 8 200 := by
  unfold sf_306 at e
  refine sh_Lk_lift (T := m.T) (I := m.I) (J := m.J) (s := m.s) (pc2 := 12) (lv2 := [(0, .ref 67), (1, .int (sh_b2 x1))]) (st2 := [.int (sh_b2 x1), .ref 67]) (I2 := sh_u2 (sh_u2 m.I 66 43 0) 66 44 1) (J2 := m.J) (fun hT v kk => ?_) ?_
  · refine sh_w (i := (.aload_n 0)) (len := 1) (pc2 := 1) (lv2 := [(0, .ref 67), (1, .int (sh_b2 x1))]) (st2 := [.ref 67]) (h2 := (sh_rep m.T m.I m.J)) rfl rfl rfl ?_
    refine sh_w (i := (.iconst 0)) (len := 1) (pc2 := 2) (lv2 := [(0, .ref 67), (1, .int (sh_b2 x1))]) (st2 := [.int 0, .ref 67]) (h2 := (sh_rep m.T m.I m.J)) rfl rfl rfl ?_
    refine sh_pI1 (x := 0) (pc2 := 5) rfl rfl (sh_s66 hT.st) rfl rfl rfl rfl ?_
    refine sh_w (i := (.aload_n 0)) (len := 1) (pc2 := 6) (lv2 := [(0, .ref 67), (1, .int (sh_b2 x1))]) (st2 := [.ref 67]) (h2 := (sh_rep m.T (sh_u2 m.I 66 43 0) m.J)) rfl rfl rfl ?_
    refine sh_w (i := (.iconst 1)) (len := 1) (pc2 := 7) (lv2 := [(0, .ref 67), (1, .int (sh_b2 x1))]) (st2 := [.int 1, .ref 67]) (h2 := (sh_rep m.T (sh_u2 m.I 66 43 0) m.J)) rfl rfl rfl ?_
    refine sh_pI1 (x := 1) (pc2 := 10) rfl rfl (sh_s66 hT.st) rfl rfl rfl rfl ?_
    refine sh_w (i := (.aload_n 0)) (len := 1) (pc2 := 11) (lv2 := [(0, .ref 67), (1, .int (sh_b2 x1))]) (st2 := [.ref 67]) (h2 := (sh_rep m.T (sh_u2 (sh_u2 m.I 66 43 0) 66 44 1) m.J)) rfl rfl rfl ?_
    refine sh_w (i := (.iload_n 1)) (len := 1) (pc2 := 12) (lv2 := [(0, .ref 67), (1, .int (sh_b2 x1))]) (st2 := [.int (sh_b2 x1), .ref 67]) (h2 := (sh_rep m.T (sh_u2 (sh_u2 m.I 66 43 0) 66 44 1) m.J)) rfl rfl rfl ?_
    exact kk
  rcases sh_ite e with ⟨c, e⟩ | ⟨c, e⟩
  · refine sh_Lk_lift (T := m.T) (I := sh_u2 (sh_u2 m.I 66 43 0) 66 44 1) (J := m.J) (s := m.s) (pc2 := 20) (lv2 := [(0, .ref 67), (1, .int (sh_b2 x1))]) (st2 := [.long 1, .ref 67]) (I2 := sh_u2 (sh_u2 m.I 66 43 0) 66 44 1) (J2 := m.J) (fun hT v kk => ?_) ?_
    · refine sh_j0 (c := .eq) (off := (7)) (pc2 := 15) false rfl (sh_Zeqf c) rfl ?_
      refine sh_w (i := (.lconst 1)) (len := 1) (pc2 := 16) (lv2 := [(0, .ref 67), (1, .int (sh_b2 x1))]) (st2 := [.long 1, .ref 67]) (h2 := (sh_rep m.T (sh_u2 (sh_u2 m.I 66 43 0) 66 44 1) m.J)) rfl rfl rfl ?_
      refine sh_w (i := (.goto 4)) (len := 3) (pc2 := 20) (lv2 := [(0, .ref 67), (1, .int (sh_b2 x1))]) (st2 := [.long 1, .ref 67]) (h2 := (sh_rep m.T (sh_u2 (sh_u2 m.I 66 43 0) 66 44 1) m.J)) rfl rfl rfl ?_
      exact kk
    exact sh_Lk_sub (sh_sub_n) (sl_306_20 e tg)
  · refine sh_Lk_lift (T := m.T) (I := sh_u2 (sh_u2 m.I 66 43 0) 66 44 1) (J := m.J) (s := m.s) (pc2 := 20) (lv2 := [(0, .ref 67), (1, .int (sh_b2 x1))]) (st2 := [.long 0, .ref 67]) (I2 := sh_u2 (sh_u2 m.I 66 43 0) 66 44 1) (J2 := m.J) (fun hT v kk => ?_) ?_
    · refine sh_j0 (c := .eq) (off := (7)) (pc2 := 19) true rfl (sh_Zeqt c) rfl ?_
      refine sh_w (i := (.lconst 0)) (len := 1) (pc2 := 20) (lv2 := [(0, .ref 67), (1, .int (sh_b2 x1))]) (st2 := [.long 0, .ref 67]) (h2 := (sh_rep m.T (sh_u2 (sh_u2 m.I 66 43 0) 66 44 1) m.J)) rfl rfl rfl ?_
      exact kk
    exact sh_Lk_sub (sh_sub_n) (sl_306_20 e tg)
theorem sl_307 {x0 : Int32} {x1 : Int64} {x3 : Int64} {m m2 : sh_X} {o : Outcome} {z : Bool} (e : sf_307 x0 x1 x3 = z) (tg : (sh_tZc m o m2) z) : sh_Lk 307 0 [(0, .int x0), (1, .long x1), (3, .long x3)] [] m o m2 8 200 := by
  unfold sf_307 at e
  refine sh_Lk_lift (T := m.T) (I := m.I) (J := m.J) (s := m.s) (pc2 := 2) (lv2 := [(0, .int x0), (1, .long x1), (3, .long x3)]) (st2 := [.int 1, .int x0]) (I2 := m.I) (J2 := m.J) (fun hT v kk => ?_) ?_
  · refine sh_w (i := (.iload_n 0)) (len := 1) (pc2 := 1) (lv2 := [(0, .int x0), (1, .long x1), (3, .long x3)]) (st2 := [.int x0]) (h2 := (sh_rep m.T m.I m.J)) rfl rfl rfl ?_
    refine sh_w (i := (.iconst 1)) (len := 1) (pc2 := 2) (lv2 := [(0, .int x0), (1, .long x1), (3, .long x3)]) (st2 := [.int 1, .int x0]) (h2 := (sh_rep m.T m.I m.J)) rfl rfl rfl ?_
    exact kk
  rcases sh_ite e with ⟨c, e⟩ | ⟨c, e⟩
  · refine sh_Lk_lift (T := m.T) (I := m.I) (J := m.J) (s := m.s) (pc2 := 16) (lv2 := [(0, .int x0), (1, .long x1), (3, .long x3)]) (st2 := [.int (lg_cmp (x1 ^^^ (-9223372036854775808 : Int64)) (x3 ^^^ (-9223372036854775808 : Int64)))]) (I2 := m.I) (J2 := m.J) (fun hT v kk => ?_) ?_
    · refine sh_jc (c := .ne) (off := (25)) (pc2 := 5) false rfl (sh_Bnef c) rfl ?_
      refine sh_w (i := (.lload_n 1)) (len := 1) (pc2 := 6) (lv2 := [(0, .int x0), (1, .long x1), (3, .long x3)]) (st2 := [.long x1]) (h2 := (sh_rep m.T m.I m.J)) rfl rfl rfl ?_
      refine sh_w (i := (.ldc2_w 475)) (len := 3) (pc2 := 9) (lv2 := [(0, .int x0), (1, .long x1), (3, .long x3)]) (st2 := [.long (-9223372036854775808), .long x1]) (h2 := (sh_rep m.T m.I m.J)) rfl rfl rfl ?_
      refine sh_w (i := .lxor) (len := 1) (pc2 := 10) (lv2 := [(0, .int x0), (1, .long x1), (3, .long x3)]) (st2 := [.long (x1 ^^^ (-9223372036854775808 : Int64))]) (h2 := (sh_rep m.T m.I m.J)) rfl rfl rfl ?_
      refine sh_w (i := (.lload_n 3)) (len := 1) (pc2 := 11) (lv2 := [(0, .int x0), (1, .long x1), (3, .long x3)]) (st2 := [.long x3, .long (x1 ^^^ (-9223372036854775808 : Int64))]) (h2 := (sh_rep m.T m.I m.J)) rfl rfl rfl ?_
      refine sh_w (i := (.ldc2_w 475)) (len := 3) (pc2 := 14) (lv2 := [(0, .int x0), (1, .long x1), (3, .long x3)]) (st2 := [.long (-9223372036854775808), .long x3, .long (x1 ^^^ (-9223372036854775808 : Int64))]) (h2 := (sh_rep m.T m.I m.J)) rfl rfl rfl ?_
      refine sh_w (i := .lxor) (len := 1) (pc2 := 15) (lv2 := [(0, .int x0), (1, .long x1), (3, .long x3)]) (st2 := [.long (x3 ^^^ (-9223372036854775808 : Int64)), .long (x1 ^^^ (-9223372036854775808 : Int64))]) (h2 := (sh_rep m.T m.I m.J)) rfl rfl rfl ?_
      refine sh_w (i := .lcmp) (len := 1) (pc2 := 16) (lv2 := [(0, .int x0), (1, .long x1), (3, .long x3)]) (st2 := [.int (lg_cmp (x1 ^^^ (-9223372036854775808 : Int64)) (x3 ^^^ (-9223372036854775808 : Int64)))]) (h2 := (sh_rep m.T m.I m.J)) rfl rfl rfl ?_
      exact kk
    rcases sh_ite e with ⟨c, e⟩ | ⟨c, e⟩
    · refine sh_Lk_lift (T := m.T) (I := m.I) (J := m.J) (s := m.s) (pc2 := 38) (lv2 := [(0, .int x0), (1, .long x1), (3, .long x3)]) (st2 := [.int 1]) (I2 := m.I) (J2 := m.J) (fun hT v kk => ?_) ?_
      · refine sh_j0 (c := .ge) (off := (7)) (pc2 := 19) false rfl (sh_Cgef c) rfl ?_
        refine sh_w (i := (.iconst 1)) (len := 1) (pc2 := 20) (lv2 := [(0, .int x0), (1, .long x1), (3, .long x3)]) (st2 := [.int 1]) (h2 := (sh_rep m.T m.I m.J)) rfl rfl rfl ?_
        refine sh_w (i := (.goto 18)) (len := 3) (pc2 := 38) (lv2 := [(0, .int x0), (1, .long x1), (3, .long x3)]) (st2 := [.int 1]) (h2 := (sh_rep m.T m.I m.J)) rfl rfl rfl ?_
        exact kk
      obtain rfl := e
      obtain ⟨rfl, rfl⟩ := tg
      exact sh_Lk_ret (i := .ireturn) rfl rfl rfl (Nat.le_of_ble_eq_true rfl) (Nat.le_of_ble_eq_true rfl)
    · refine sh_Lk_lift (T := m.T) (I := m.I) (J := m.J) (s := m.s) (pc2 := 38) (lv2 := [(0, .int x0), (1, .long x1), (3, .long x3)]) (st2 := [.int 0]) (I2 := m.I) (J2 := m.J) (fun hT v kk => ?_) ?_
      · refine sh_j0 (c := .ge) (off := (7)) (pc2 := 23) true rfl (sh_Cget c) rfl ?_
        refine sh_w (i := (.iconst 0)) (len := 1) (pc2 := 24) (lv2 := [(0, .int x0), (1, .long x1), (3, .long x3)]) (st2 := [.int 0]) (h2 := (sh_rep m.T m.I m.J)) rfl rfl rfl ?_
        refine sh_w (i := (.goto 14)) (len := 3) (pc2 := 38) (lv2 := [(0, .int x0), (1, .long x1), (3, .long x3)]) (st2 := [.int 0]) (h2 := (sh_rep m.T m.I m.J)) rfl rfl rfl ?_
        exact kk
      obtain rfl := e
      obtain ⟨rfl, rfl⟩ := tg
      exact sh_Lk_ret (i := .ireturn) rfl rfl rfl (Nat.le_of_ble_eq_true rfl) (Nat.le_of_ble_eq_true rfl)
  · refine sh_Lk_lift (T := m.T) (I := m.I) (J := m.J) (s := m.s) (pc2 := 30) (lv2 := [(0, .int x0), (1, .long x1), (3, .long x3)]) (st2 := [.int (lg_cmp x1 x3)]) (I2 := m.I) (J2 := m.J) (fun hT v kk => ?_) ?_
    · refine sh_jc (c := .ne) (off := (25)) (pc2 := 27) true rfl (sh_Bnet c) rfl ?_
      refine sh_w (i := (.lload_n 1)) (len := 1) (pc2 := 28) (lv2 := [(0, .int x0), (1, .long x1), (3, .long x3)]) (st2 := [.long x1]) (h2 := (sh_rep m.T m.I m.J)) rfl rfl rfl ?_
      refine sh_w (i := (.lload_n 3)) (len := 1) (pc2 := 29) (lv2 := [(0, .int x0), (1, .long x1), (3, .long x3)]) (st2 := [.long x3, .long x1]) (h2 := (sh_rep m.T m.I m.J)) rfl rfl rfl ?_
      refine sh_w (i := .lcmp) (len := 1) (pc2 := 30) (lv2 := [(0, .int x0), (1, .long x1), (3, .long x3)]) (st2 := [.int (lg_cmp x1 x3)]) (h2 := (sh_rep m.T m.I m.J)) rfl rfl rfl ?_
      exact kk
    rcases sh_ite e with ⟨c, e⟩ | ⟨c, e⟩
    · refine sh_Lk_lift (T := m.T) (I := m.I) (J := m.J) (s := m.s) (pc2 := 38) (lv2 := [(0, .int x0), (1, .long x1), (3, .long x3)]) (st2 := [.int 1]) (I2 := m.I) (J2 := m.J) (fun hT v kk => ?_) ?_
      · refine sh_j0 (c := .ge) (off := (7)) (pc2 := 33) false rfl (sh_Cgef c) rfl ?_
        refine sh_w (i := (.iconst 1)) (len := 1) (pc2 := 34) (lv2 := [(0, .int x0), (1, .long x1), (3, .long x3)]) (st2 := [.int 1]) (h2 := (sh_rep m.T m.I m.J)) rfl rfl rfl ?_
        refine sh_w (i := (.goto 4)) (len := 3) (pc2 := 38) (lv2 := [(0, .int x0), (1, .long x1), (3, .long x3)]) (st2 := [.int 1]) (h2 := (sh_rep m.T m.I m.J)) rfl rfl rfl ?_
        exact kk
      obtain rfl := e
      obtain ⟨rfl, rfl⟩ := tg
      exact sh_Lk_ret (i := .ireturn) rfl rfl rfl (Nat.le_of_ble_eq_true rfl) (Nat.le_of_ble_eq_true rfl)
    · refine sh_Lk_lift (T := m.T) (I := m.I) (J := m.J) (s := m.s) (pc2 := 38) (lv2 := [(0, .int x0), (1, .long x1), (3, .long x3)]) (st2 := [.int 0]) (I2 := m.I) (J2 := m.J) (fun hT v kk => ?_) ?_
      · refine sh_j0 (c := .ge) (off := (7)) (pc2 := 37) true rfl (sh_Cget c) rfl ?_
        refine sh_w (i := (.iconst 0)) (len := 1) (pc2 := 38) (lv2 := [(0, .int x0), (1, .long x1), (3, .long x3)]) (st2 := [.int 0]) (h2 := (sh_rep m.T m.I m.J)) rfl rfl rfl ?_
        exact kk
      obtain rfl := e
      obtain ⟨rfl, rfl⟩ := tg
      exact sh_Lk_ret (i := .ireturn) rfl rfl rfl (Nat.le_of_ble_eq_true rfl) (Nat.le_of_ble_eq_true rfl)
theorem sl_308 {x0 : Int32} {x1 : Int64} {x3 : Int64} {m m2 : sh_X} {o : Outcome} {z : Int64} (e : sf_308 x0 x1 x3 m = some z) (tg : (sh_tJc m o m2) z) : sh_Lk 308 0 [(0, .int x0), (1, .long x1), (3, .long x3)] [] m o m2 9 224 := by
  unfold sf_308 at e
  refine sh_Lk_lift (T := m.T) (I := m.I) (J := m.J) (s := m.s) (pc2 := 3) (lv2 := [(0, .int x0), (1, .long x1), (3, .long x3)]) (st2 := [.int (lg_cmp x3 0)]) (I2 := m.I) (J2 := m.J) (fun hT v kk => ?_) ?_
  · refine sh_w (i := (.lload_n 3)) (len := 1) (pc2 := 1) (lv2 := [(0, .int x0), (1, .long x1), (3, .long x3)]) (st2 := [.long x3]) (h2 := (sh_rep m.T m.I m.J)) rfl rfl rfl ?_
    refine sh_w (i := (.lconst 0)) (len := 1) (pc2 := 2) (lv2 := [(0, .int x0), (1, .long x1), (3, .long x3)]) (st2 := [.long 0, .long x3]) (h2 := (sh_rep m.T m.I m.J)) rfl rfl rfl ?_
    refine sh_w (i := .lcmp) (len := 1) (pc2 := 3) (lv2 := [(0, .int x0), (1, .long x1), (3, .long x3)]) (st2 := [.int (lg_cmp x3 0)]) (h2 := (sh_rep m.T m.I m.J)) rfl rfl rfl ?_
    exact kk
  rcases sh_ite e with ⟨c, e⟩ | ⟨c, e⟩
  · refine sh_Lk_lift (T := m.T) (I := m.I) (J := m.J) (s := m.s) (pc2 := 9) (lv2 := [(0, .int x0), (1, .long x1), (3, .long x3)]) (st2 := [.long (-1)]) (I2 := m.I) (J2 := m.J) (fun hT v kk => ?_) ?_
    · refine sh_j0 (c := .ne) (off := (7)) (pc2 := 6) false rfl (sh_Cnef c) rfl ?_
      refine sh_w (i := (.ldc2_w 466)) (len := 3) (pc2 := 9) (lv2 := [(0, .int x0), (1, .long x1), (3, .long x3)]) (st2 := [.long (-1)]) (h2 := (sh_rep m.T m.I m.J)) rfl rfl rfl ?_
      exact kk
    obtain rfl := Option.some.inj e
    obtain ⟨rfl, rfl⟩ := tg
    exact sh_Lk_ret (i := .lreturn) rfl rfl rfl (Nat.le_of_ble_eq_true rfl) (Nat.le_of_ble_eq_true rfl)
  · refine sh_Lk_lift (T := m.T) (I := m.I) (J := m.J) (s := m.s) (pc2 := 12) (lv2 := [(0, .int x0), (1, .long x1), (3, .long x3)]) (st2 := [.int 2, .int x0]) (I2 := m.I) (J2 := m.J) (fun hT v kk => ?_) ?_
    · refine sh_j0 (c := .ne) (off := (7)) (pc2 := 10) true rfl (sh_Cnet c) rfl ?_
      refine sh_w (i := (.iload_n 0)) (len := 1) (pc2 := 11) (lv2 := [(0, .int x0), (1, .long x1), (3, .long x3)]) (st2 := [.int x0]) (h2 := (sh_rep m.T m.I m.J)) rfl rfl rfl ?_
      refine sh_w (i := (.iconst 2)) (len := 1) (pc2 := 12) (lv2 := [(0, .int x0), (1, .long x1), (3, .long x3)]) (st2 := [.int 2, .int x0]) (h2 := (sh_rep m.T m.I m.J)) rfl rfl rfl ?_
      exact kk
    rcases sh_ite e with ⟨c, e⟩ | ⟨c, e⟩
    · refine sh_Lk_lift (T := m.T) (I := m.I) (J := m.J) (s := m.s) (pc2 := 20) (lv2 := [(0, .int x0), (1, .long x1), (3, .long x3)]) (st2 := [.int (lg_cmp x3 (-1))]) (I2 := m.I) (J2 := m.J) (fun hT v kk => ?_) ?_
      · refine sh_jc (c := .ne) (off := (20)) (pc2 := 15) false rfl (sh_Bnef c) rfl ?_
        refine sh_w (i := (.lload_n 3)) (len := 1) (pc2 := 16) (lv2 := [(0, .int x0), (1, .long x1), (3, .long x3)]) (st2 := [.long x3]) (h2 := (sh_rep m.T m.I m.J)) rfl rfl rfl ?_
        refine sh_w (i := (.ldc2_w 466)) (len := 3) (pc2 := 19) (lv2 := [(0, .int x0), (1, .long x1), (3, .long x3)]) (st2 := [.long (-1), .long x3]) (h2 := (sh_rep m.T m.I m.J)) rfl rfl rfl ?_
        refine sh_w (i := .lcmp) (len := 1) (pc2 := 20) (lv2 := [(0, .int x0), (1, .long x1), (3, .long x3)]) (st2 := [.int (lg_cmp x3 (-1))]) (h2 := (sh_rep m.T m.I m.J)) rfl rfl rfl ?_
        exact kk
      rcases sh_ite e with ⟨c, e⟩ | ⟨c, e⟩
      · refine sh_Lk_lift (T := m.T) (I := m.I) (J := m.J) (s := m.s) (pc2 := 31) (lv2 := [(0, .int x0), (1, .long x1), (3, .long x3)]) (st2 := [.long (-x1)]) (I2 := m.I) (J2 := m.J) (fun hT v kk => ?_) ?_
        · refine sh_j0 (c := .ne) (off := (8)) (pc2 := 23) false rfl (sh_Cnef c) rfl ?_
          refine sh_w (i := (.lload_n 1)) (len := 1) (pc2 := 24) (lv2 := [(0, .int x0), (1, .long x1), (3, .long x3)]) (st2 := [.long x1]) (h2 := (sh_rep m.T m.I m.J)) rfl rfl rfl ?_
          refine sh_w (i := .lneg) (len := 1) (pc2 := 25) (lv2 := [(0, .int x0), (1, .long x1), (3, .long x3)]) (st2 := [.long (-x1)]) (h2 := (sh_rep m.T m.I m.J)) rfl rfl rfl ?_
          refine sh_w (i := (.goto 6)) (len := 3) (pc2 := 31) (lv2 := [(0, .int x0), (1, .long x1), (3, .long x3)]) (st2 := [.long (-x1)]) (h2 := (sh_rep m.T m.I m.J)) rfl rfl rfl ?_
          exact kk
        obtain rfl := Option.some.inj e
        obtain ⟨rfl, rfl⟩ := tg
        exact sh_Lk_ret (i := .lreturn) rfl rfl rfl (Nat.le_of_ble_eq_true rfl) (Nat.le_of_ble_eq_true rfl)
      · refine sh_Lk_lift (T := m.T) (I := m.I) (J := m.J) (s := m.s) (pc2 := 30) (lv2 := [(0, .int x0), (1, .long x1), (3, .long x3)]) (st2 := [.long x3, .long x1]) (I2 := m.I) (J2 := m.J) (fun hT v kk => ?_) ?_
        · refine sh_j0 (c := .ne) (off := (8)) (pc2 := 28) true rfl (sh_Cnet c) rfl ?_
          refine sh_w (i := (.lload_n 1)) (len := 1) (pc2 := 29) (lv2 := [(0, .int x0), (1, .long x1), (3, .long x3)]) (st2 := [.long x1]) (h2 := (sh_rep m.T m.I m.J)) rfl rfl rfl ?_
          refine sh_w (i := (.lload_n 3)) (len := 1) (pc2 := 30) (lv2 := [(0, .int x0), (1, .long x1), (3, .long x3)]) (st2 := [.long x3, .long x1]) (h2 := (sh_rep m.T m.I m.J)) rfl rfl rfl ?_
          exact kk
        obtain ⟨c, e⟩ := sh_gd e
        refine sh_Lk_lift (T := m.T) (I := m.I) (J := m.J) (s := m.s) (pc2 := 31) (lv2 := [(0, .int x0), (1, .long x1), (3, .long x3)]) (st2 := [.long (x1 / x3)]) (I2 := m.I) (J2 := m.J) (fun hT v kk => ?_) ?_
        · refine sh_w (i := .ldiv) (len := 1) (pc2 := 31) (lv2 := [(0, .int x0), (1, .long x1), (3, .long x3)]) (st2 := [.long (x1 / x3)]) (h2 := (sh_rep m.T m.I m.J)) rfl rfl (sh_dv_ldiv c) ?_
          exact kk
        obtain rfl := Option.some.inj e
        obtain ⟨rfl, rfl⟩ := tg
        exact sh_Lk_ret (i := .lreturn) rfl rfl rfl (Nat.le_of_ble_eq_true rfl) (Nat.le_of_ble_eq_true rfl)
    · refine sh_Lk_lift (T := m.T) (I := m.I) (J := m.J) (s := m.s) (pc2 := 35) (lv2 := [(0, .int x0), (1, .long x1), (3, .long x3)]) (st2 := [.int (lg_cmp x3 0)]) (I2 := m.I) (J2 := m.J) (fun hT v kk => ?_) ?_
      · refine sh_jc (c := .ne) (off := (20)) (pc2 := 32) true rfl (sh_Bnet c) rfl ?_
        refine sh_w (i := (.lload_n 3)) (len := 1) (pc2 := 33) (lv2 := [(0, .int x0), (1, .long x1), (3, .long x3)]) (st2 := [.long x3]) (h2 := (sh_rep m.T m.I m.J)) rfl rfl rfl ?_
        refine sh_w (i := (.lconst 0)) (len := 1) (pc2 := 34) (lv2 := [(0, .int x0), (1, .long x1), (3, .long x3)]) (st2 := [.long 0, .long x3]) (h2 := (sh_rep m.T m.I m.J)) rfl rfl rfl ?_
        refine sh_w (i := .lcmp) (len := 1) (pc2 := 35) (lv2 := [(0, .int x0), (1, .long x1), (3, .long x3)]) (st2 := [.int (lg_cmp x3 0)]) (h2 := (sh_rep m.T m.I m.J)) rfl rfl rfl ?_
        exact kk
      rcases sh_ite e with ⟨c, e⟩ | ⟨c, e⟩
      · refine sh_Lk_lift (T := m.T) (I := m.I) (J := m.J) (s := m.s) (pc2 := 41) (lv2 := [(0, .int x0), (1, .long x1), (3, .long x3)]) (st2 := [.long x3, .long x1, .int 1]) (I2 := m.I) (J2 := m.J) (fun hT v kk => ?_) ?_
        · refine sh_j0 (c := .ge) (off := (18)) (pc2 := 38) false rfl (sh_Cgef c) rfl ?_
          refine sh_w (i := (.iconst 1)) (len := 1) (pc2 := 39) (lv2 := [(0, .int x0), (1, .long x1), (3, .long x3)]) (st2 := [.int 1]) (h2 := (sh_rep m.T m.I m.J)) rfl rfl rfl ?_
          refine sh_w (i := (.lload_n 1)) (len := 1) (pc2 := 40) (lv2 := [(0, .int x0), (1, .long x1), (3, .long x3)]) (st2 := [.long x1, .int 1]) (h2 := (sh_rep m.T m.I m.J)) rfl rfl rfl ?_
          refine sh_w (i := (.lload_n 3)) (len := 1) (pc2 := 41) (lv2 := [(0, .int x0), (1, .long x1), (3, .long x3)]) (st2 := [.long x3, .long x1, .int 1]) (h2 := (sh_rep m.T m.I m.J)) rfl rfl rfl ?_
          exact kk
        refine sh_Lk_cS (r := (some (.int (sh_b2 (sf_307 1 x1 x3))))) (st2 := [.int (sh_b2 (sf_307 1 x1 x3))]) (pc2 := 44) (k2 := 307) (as := [.int 1, .long x1, .long x3]) (rest := []) rfl rfl (by decide) (Nat.le_of_ble_eq_true rfl) rfl rfl ⟨Nat.le_of_ble_eq_true rfl, Nat.le_of_ble_eq_true rfl⟩ (sl_307 (m := m) rfl ⟨rfl, rfl⟩) rfl rfl (Nat.le_of_ble_eq_true rfl) (Nat.le_of_ble_eq_true rfl) ?_
        rcases sh_ite e with ⟨c, e⟩ | ⟨c, e⟩
        · refine sh_Lk_lift (T := m.T) (I := m.I) (J := m.J) (s := m.s) (pc2 := 52) (lv2 := [(0, .int x0), (1, .long x1), (3, .long x3)]) (st2 := [.long 0]) (I2 := m.I) (J2 := m.J) (fun hT v kk => ?_) ?_
          · refine sh_j0 (c := .eq) (off := (7)) (pc2 := 47) false rfl (sh_Zeqf c) rfl ?_
            refine sh_w (i := (.lconst 0)) (len := 1) (pc2 := 48) (lv2 := [(0, .int x0), (1, .long x1), (3, .long x3)]) (st2 := [.long 0]) (h2 := (sh_rep m.T m.I m.J)) rfl rfl rfl ?_
            refine sh_w (i := (.goto 4)) (len := 3) (pc2 := 52) (lv2 := [(0, .int x0), (1, .long x1), (3, .long x3)]) (st2 := [.long 0]) (h2 := (sh_rep m.T m.I m.J)) rfl rfl rfl ?_
            exact kk
          obtain rfl := Option.some.inj e
          obtain ⟨rfl, rfl⟩ := tg
          exact sh_Lk_ret (i := .lreturn) rfl rfl rfl (Nat.le_of_ble_eq_true rfl) (Nat.le_of_ble_eq_true rfl)
        · refine sh_Lk_lift (T := m.T) (I := m.I) (J := m.J) (s := m.s) (pc2 := 52) (lv2 := [(0, .int x0), (1, .long x1), (3, .long x3)]) (st2 := [.long 1]) (I2 := m.I) (J2 := m.J) (fun hT v kk => ?_) ?_
          · refine sh_j0 (c := .eq) (off := (7)) (pc2 := 51) true rfl (sh_Zeqt c) rfl ?_
            refine sh_w (i := (.lconst 1)) (len := 1) (pc2 := 52) (lv2 := [(0, .int x0), (1, .long x1), (3, .long x3)]) (st2 := [.long 1]) (h2 := (sh_rep m.T m.I m.J)) rfl rfl rfl ?_
            exact kk
          obtain rfl := Option.some.inj e
          obtain ⟨rfl, rfl⟩ := tg
          exact sh_Lk_ret (i := .lreturn) rfl rfl rfl (Nat.le_of_ble_eq_true rfl) (Nat.le_of_ble_eq_true rfl)
      · refine sh_Lk_lift (T := m.T) (I := m.I) (J := m.J) (s := m.s) (pc2 := 56) (lv2 := [(0, .int x0), (1, .long x1), (3, .long x3)]) (st2 := [.int (lg_cmp x1 0)]) (I2 := m.I) (J2 := m.J) (fun hT v kk => ?_) ?_
        · refine sh_j0 (c := .ge) (off := (18)) (pc2 := 53) true rfl (sh_Cget c) rfl ?_
          refine sh_w (i := (.lload_n 1)) (len := 1) (pc2 := 54) (lv2 := [(0, .int x0), (1, .long x1), (3, .long x3)]) (st2 := [.long x1]) (h2 := (sh_rep m.T m.I m.J)) rfl rfl rfl ?_
          refine sh_w (i := (.lconst 0)) (len := 1) (pc2 := 55) (lv2 := [(0, .int x0), (1, .long x1), (3, .long x3)]) (st2 := [.long 0, .long x1]) (h2 := (sh_rep m.T m.I m.J)) rfl rfl rfl ?_
          refine sh_w (i := .lcmp) (len := 1) (pc2 := 56) (lv2 := [(0, .int x0), (1, .long x1), (3, .long x3)]) (st2 := [.int (lg_cmp x1 0)]) (h2 := (sh_rep m.T m.I m.J)) rfl rfl rfl ?_
          exact kk
        rcases sh_ite e with ⟨c, e⟩ | ⟨c, e⟩
        · refine sh_Lk_lift (T := m.T) (I := m.I) (J := m.J) (s := m.s) (pc2 := 67) (lv2 := [(0, .int x0), (1, .long x1), (3, .long x3)]) (st2 := [.long x3, .long ((x1.toUInt64 >>> ((Int32.toInt64 1).toUInt64 &&& Int64.toUInt64 63)).toInt64)]) (I2 := m.I) (J2 := m.J) (fun hT v kk => ?_) ?_
          · refine sh_j0 (c := .lt) (off := (7)) (pc2 := 63) true rfl (sh_Cltt c) rfl ?_
            refine sh_w (i := (.lload_n 1)) (len := 1) (pc2 := 64) (lv2 := [(0, .int x0), (1, .long x1), (3, .long x3)]) (st2 := [.long x1]) (h2 := (sh_rep m.T m.I m.J)) rfl rfl rfl ?_
            refine sh_w (i := (.iconst 1)) (len := 1) (pc2 := 65) (lv2 := [(0, .int x0), (1, .long x1), (3, .long x3)]) (st2 := [.int 1, .long x1]) (h2 := (sh_rep m.T m.I m.J)) rfl rfl rfl ?_
            refine sh_w (i := .lushr) (len := 1) (pc2 := 66) (lv2 := [(0, .int x0), (1, .long x1), (3, .long x3)]) (st2 := [.long ((x1.toUInt64 >>> ((Int32.toInt64 1).toUInt64 &&& Int64.toUInt64 63)).toInt64)]) (h2 := (sh_rep m.T m.I m.J)) rfl rfl rfl ?_
            refine sh_w (i := (.lload_n 3)) (len := 1) (pc2 := 67) (lv2 := [(0, .int x0), (1, .long x1), (3, .long x3)]) (st2 := [.long x3, .long ((x1.toUInt64 >>> ((Int32.toInt64 1).toUInt64 &&& Int64.toUInt64 63)).toInt64)]) (h2 := (sh_rep m.T m.I m.J)) rfl rfl rfl ?_
            exact kk
          obtain ⟨c, e⟩ := sh_gd e
          refine sh_Lk_lift (T := m.T) (I := m.I) (J := m.J) (s := m.s) (pc2 := 80) (lv2 := [(5, .long ((((x1.toUInt64 >>> ((Int32.toInt64 1).toUInt64 &&& Int64.toUInt64 63)).toInt64) / x3) <<< (Int32.toInt64 1 &&& 63))), (0, .int x0), (1, .long x1), (3, .long x3)]) (st2 := [.long x3, .long (x1 - (((((x1.toUInt64 >>> ((Int32.toInt64 1).toUInt64 &&& Int64.toUInt64 63)).toInt64) / x3) <<< (Int32.toInt64 1 &&& 63)) * x3)), .int 1]) (I2 := m.I) (J2 := m.J) (fun hT v kk => ?_) ?_
          · refine sh_w (i := .ldiv) (len := 1) (pc2 := 68) (lv2 := [(0, .int x0), (1, .long x1), (3, .long x3)]) (st2 := [.long (((x1.toUInt64 >>> ((Int32.toInt64 1).toUInt64 &&& Int64.toUInt64 63)).toInt64) / x3)]) (h2 := (sh_rep m.T m.I m.J)) rfl rfl (sh_dv_ldiv c) ?_
            refine sh_w (i := (.iconst 1)) (len := 1) (pc2 := 69) (lv2 := [(0, .int x0), (1, .long x1), (3, .long x3)]) (st2 := [.int 1, .long (((x1.toUInt64 >>> ((Int32.toInt64 1).toUInt64 &&& Int64.toUInt64 63)).toInt64) / x3)]) (h2 := (sh_rep m.T m.I m.J)) rfl rfl rfl ?_
            refine sh_w (i := .lshl) (len := 1) (pc2 := 70) (lv2 := [(0, .int x0), (1, .long x1), (3, .long x3)]) (st2 := [.long ((((x1.toUInt64 >>> ((Int32.toInt64 1).toUInt64 &&& Int64.toUInt64 63)).toInt64) / x3) <<< (Int32.toInt64 1 &&& 63))]) (h2 := (sh_rep m.T m.I m.J)) rfl rfl rfl ?_
            refine sh_w (i := (.lstore 5)) (len := 2) (pc2 := 72) (lv2 := [(5, .long ((((x1.toUInt64 >>> ((Int32.toInt64 1).toUInt64 &&& Int64.toUInt64 63)).toInt64) / x3) <<< (Int32.toInt64 1 &&& 63))), (0, .int x0), (1, .long x1), (3, .long x3)]) (st2 := []) (h2 := (sh_rep m.T m.I m.J)) rfl rfl rfl ?_
            refine sh_w (i := (.iconst 1)) (len := 1) (pc2 := 73) (lv2 := [(5, .long ((((x1.toUInt64 >>> ((Int32.toInt64 1).toUInt64 &&& Int64.toUInt64 63)).toInt64) / x3) <<< (Int32.toInt64 1 &&& 63))), (0, .int x0), (1, .long x1), (3, .long x3)]) (st2 := [.int 1]) (h2 := (sh_rep m.T m.I m.J)) rfl rfl rfl ?_
            refine sh_w (i := (.lload_n 1)) (len := 1) (pc2 := 74) (lv2 := [(5, .long ((((x1.toUInt64 >>> ((Int32.toInt64 1).toUInt64 &&& Int64.toUInt64 63)).toInt64) / x3) <<< (Int32.toInt64 1 &&& 63))), (0, .int x0), (1, .long x1), (3, .long x3)]) (st2 := [.long x1, .int 1]) (h2 := (sh_rep m.T m.I m.J)) rfl rfl rfl ?_
            refine sh_w (i := (.lload 5)) (len := 2) (pc2 := 76) (lv2 := [(5, .long ((((x1.toUInt64 >>> ((Int32.toInt64 1).toUInt64 &&& Int64.toUInt64 63)).toInt64) / x3) <<< (Int32.toInt64 1 &&& 63))), (0, .int x0), (1, .long x1), (3, .long x3)]) (st2 := [.long ((((x1.toUInt64 >>> ((Int32.toInt64 1).toUInt64 &&& Int64.toUInt64 63)).toInt64) / x3) <<< (Int32.toInt64 1 &&& 63)), .long x1, .int 1]) (h2 := (sh_rep m.T m.I m.J)) rfl rfl rfl ?_
            refine sh_w (i := (.lload_n 3)) (len := 1) (pc2 := 77) (lv2 := [(5, .long ((((x1.toUInt64 >>> ((Int32.toInt64 1).toUInt64 &&& Int64.toUInt64 63)).toInt64) / x3) <<< (Int32.toInt64 1 &&& 63))), (0, .int x0), (1, .long x1), (3, .long x3)]) (st2 := [.long x3, .long ((((x1.toUInt64 >>> ((Int32.toInt64 1).toUInt64 &&& Int64.toUInt64 63)).toInt64) / x3) <<< (Int32.toInt64 1 &&& 63)), .long x1, .int 1]) (h2 := (sh_rep m.T m.I m.J)) rfl rfl rfl ?_
            refine sh_w (i := .lmul) (len := 1) (pc2 := 78) (lv2 := [(5, .long ((((x1.toUInt64 >>> ((Int32.toInt64 1).toUInt64 &&& Int64.toUInt64 63)).toInt64) / x3) <<< (Int32.toInt64 1 &&& 63))), (0, .int x0), (1, .long x1), (3, .long x3)]) (st2 := [.long (((((x1.toUInt64 >>> ((Int32.toInt64 1).toUInt64 &&& Int64.toUInt64 63)).toInt64) / x3) <<< (Int32.toInt64 1 &&& 63)) * x3), .long x1, .int 1]) (h2 := (sh_rep m.T m.I m.J)) rfl rfl rfl ?_
            refine sh_w (i := .lsub) (len := 1) (pc2 := 79) (lv2 := [(5, .long ((((x1.toUInt64 >>> ((Int32.toInt64 1).toUInt64 &&& Int64.toUInt64 63)).toInt64) / x3) <<< (Int32.toInt64 1 &&& 63))), (0, .int x0), (1, .long x1), (3, .long x3)]) (st2 := [.long (x1 - (((((x1.toUInt64 >>> ((Int32.toInt64 1).toUInt64 &&& Int64.toUInt64 63)).toInt64) / x3) <<< (Int32.toInt64 1 &&& 63)) * x3)), .int 1]) (h2 := (sh_rep m.T m.I m.J)) rfl rfl rfl ?_
            refine sh_w (i := (.lload_n 3)) (len := 1) (pc2 := 80) (lv2 := [(5, .long ((((x1.toUInt64 >>> ((Int32.toInt64 1).toUInt64 &&& Int64.toUInt64 63)).toInt64) / x3) <<< (Int32.toInt64 1 &&& 63))), (0, .int x0), (1, .long x1), (3, .long x3)]) (st2 := [.long x3, .long (x1 - (((((x1.toUInt64 >>> ((Int32.toInt64 1).toUInt64 &&& Int64.toUInt64 63)).toInt64) / x3) <<< (Int32.toInt64 1 &&& 63)) * x3)), .int 1]) (h2 := (sh_rep m.T m.I m.J)) rfl rfl rfl ?_
            exact kk
          refine sh_Lk_cS (r := (some (.int (sh_b2 (sf_307 1 (x1 - (((((x1.toUInt64 >>> ((Int32.toInt64 1).toUInt64 &&& Int64.toUInt64 63)).toInt64) / x3) <<< (Int32.toInt64 1 &&& 63)) * x3)) x3))))) (st2 := [.int (sh_b2 (sf_307 1 (x1 - (((((x1.toUInt64 >>> ((Int32.toInt64 1).toUInt64 &&& Int64.toUInt64 63)).toInt64) / x3) <<< (Int32.toInt64 1 &&& 63)) * x3)) x3))]) (pc2 := 83) (k2 := 307) (as := [.int 1, .long (x1 - (((((x1.toUInt64 >>> ((Int32.toInt64 1).toUInt64 &&& Int64.toUInt64 63)).toInt64) / x3) <<< (Int32.toInt64 1 &&& 63)) * x3)), .long x3]) (rest := []) rfl rfl (by decide) (Nat.le_of_ble_eq_true rfl) rfl rfl ⟨Nat.le_of_ble_eq_true rfl, Nat.le_of_ble_eq_true rfl⟩ (sl_307 (m := m) rfl ⟨rfl, rfl⟩) rfl rfl (Nat.le_of_ble_eq_true rfl) (Nat.le_of_ble_eq_true rfl) ?_
          rcases sh_ite e with ⟨c, e⟩ | ⟨c, e⟩
          · refine sh_Lk_lift (T := m.T) (I := m.I) (J := m.J) (s := m.s) (pc2 := 95) (lv2 := [(5, .long ((((x1.toUInt64 >>> ((Int32.toInt64 1).toUInt64 &&& Int64.toUInt64 63)).toInt64) / x3) <<< (Int32.toInt64 1 &&& 63))), (0, .int x0), (1, .long x1), (3, .long x3)]) (st2 := [.long ((((x1.toUInt64 >>> ((Int32.toInt64 1).toUInt64 &&& Int64.toUInt64 63)).toInt64) / x3) <<< (Int32.toInt64 1 &&& 63))]) (I2 := m.I) (J2 := m.J) (fun hT v kk => ?_) ?_
            · refine sh_j0 (c := .eq) (off := (8)) (pc2 := 86) false rfl (sh_Zeqf c) rfl ?_
              refine sh_w (i := (.lload 5)) (len := 2) (pc2 := 88) (lv2 := [(5, .long ((((x1.toUInt64 >>> ((Int32.toInt64 1).toUInt64 &&& Int64.toUInt64 63)).toInt64) / x3) <<< (Int32.toInt64 1 &&& 63))), (0, .int x0), (1, .long x1), (3, .long x3)]) (st2 := [.long ((((x1.toUInt64 >>> ((Int32.toInt64 1).toUInt64 &&& Int64.toUInt64 63)).toInt64) / x3) <<< (Int32.toInt64 1 &&& 63))]) (h2 := (sh_rep m.T m.I m.J)) rfl rfl rfl ?_
              refine sh_w (i := (.goto 7)) (len := 3) (pc2 := 95) (lv2 := [(5, .long ((((x1.toUInt64 >>> ((Int32.toInt64 1).toUInt64 &&& Int64.toUInt64 63)).toInt64) / x3) <<< (Int32.toInt64 1 &&& 63))), (0, .int x0), (1, .long x1), (3, .long x3)]) (st2 := [.long ((((x1.toUInt64 >>> ((Int32.toInt64 1).toUInt64 &&& Int64.toUInt64 63)).toInt64) / x3) <<< (Int32.toInt64 1 &&& 63))]) (h2 := (sh_rep m.T m.I m.J)) rfl rfl rfl ?_
              exact kk
            obtain rfl := Option.some.inj e
            obtain ⟨rfl, rfl⟩ := tg
            exact sh_Lk_ret (i := .lreturn) rfl rfl rfl (Nat.le_of_ble_eq_true rfl) (Nat.le_of_ble_eq_true rfl)
          · refine sh_Lk_lift (T := m.T) (I := m.I) (J := m.J) (s := m.s) (pc2 := 95) (lv2 := [(5, .long ((((x1.toUInt64 >>> ((Int32.toInt64 1).toUInt64 &&& Int64.toUInt64 63)).toInt64) / x3) <<< (Int32.toInt64 1 &&& 63))), (0, .int x0), (1, .long x1), (3, .long x3)]) (st2 := [.long (((((x1.toUInt64 >>> ((Int32.toInt64 1).toUInt64 &&& Int64.toUInt64 63)).toInt64) / x3) <<< (Int32.toInt64 1 &&& 63)) + (1 : Int64))]) (I2 := m.I) (J2 := m.J) (fun hT v kk => ?_) ?_
            · refine sh_j0 (c := .eq) (off := (8)) (pc2 := 91) true rfl (sh_Zeqt c) rfl ?_
              refine sh_w (i := (.lload 5)) (len := 2) (pc2 := 93) (lv2 := [(5, .long ((((x1.toUInt64 >>> ((Int32.toInt64 1).toUInt64 &&& Int64.toUInt64 63)).toInt64) / x3) <<< (Int32.toInt64 1 &&& 63))), (0, .int x0), (1, .long x1), (3, .long x3)]) (st2 := [.long ((((x1.toUInt64 >>> ((Int32.toInt64 1).toUInt64 &&& Int64.toUInt64 63)).toInt64) / x3) <<< (Int32.toInt64 1 &&& 63))]) (h2 := (sh_rep m.T m.I m.J)) rfl rfl rfl ?_
              refine sh_w (i := (.lconst 1)) (len := 1) (pc2 := 94) (lv2 := [(5, .long ((((x1.toUInt64 >>> ((Int32.toInt64 1).toUInt64 &&& Int64.toUInt64 63)).toInt64) / x3) <<< (Int32.toInt64 1 &&& 63))), (0, .int x0), (1, .long x1), (3, .long x3)]) (st2 := [.long 1, .long ((((x1.toUInt64 >>> ((Int32.toInt64 1).toUInt64 &&& Int64.toUInt64 63)).toInt64) / x3) <<< (Int32.toInt64 1 &&& 63))]) (h2 := (sh_rep m.T m.I m.J)) rfl rfl rfl ?_
              refine sh_w (i := .ladd) (len := 1) (pc2 := 95) (lv2 := [(5, .long ((((x1.toUInt64 >>> ((Int32.toInt64 1).toUInt64 &&& Int64.toUInt64 63)).toInt64) / x3) <<< (Int32.toInt64 1 &&& 63))), (0, .int x0), (1, .long x1), (3, .long x3)]) (st2 := [.long (((((x1.toUInt64 >>> ((Int32.toInt64 1).toUInt64 &&& Int64.toUInt64 63)).toInt64) / x3) <<< (Int32.toInt64 1 &&& 63)) + (1 : Int64))]) (h2 := (sh_rep m.T m.I m.J)) rfl rfl rfl ?_
              exact kk
            obtain rfl := Option.some.inj e
            obtain ⟨rfl, rfl⟩ := tg
            exact sh_Lk_ret (i := .lreturn) rfl rfl rfl (Nat.le_of_ble_eq_true rfl) (Nat.le_of_ble_eq_true rfl)
        · refine sh_Lk_lift (T := m.T) (I := m.I) (J := m.J) (s := m.s) (pc2 := 61) (lv2 := [(0, .int x0), (1, .long x1), (3, .long x3)]) (st2 := [.long x3, .long x1]) (I2 := m.I) (J2 := m.J) (fun hT v kk => ?_) ?_
          · refine sh_j0 (c := .lt) (off := (7)) (pc2 := 59) false rfl (sh_Cltf c) rfl ?_
            refine sh_w (i := (.lload_n 1)) (len := 1) (pc2 := 60) (lv2 := [(0, .int x0), (1, .long x1), (3, .long x3)]) (st2 := [.long x1]) (h2 := (sh_rep m.T m.I m.J)) rfl rfl rfl ?_
            refine sh_w (i := (.lload_n 3)) (len := 1) (pc2 := 61) (lv2 := [(0, .int x0), (1, .long x1), (3, .long x3)]) (st2 := [.long x3, .long x1]) (h2 := (sh_rep m.T m.I m.J)) rfl rfl rfl ?_
            exact kk
          obtain ⟨c, e⟩ := sh_gd e
          refine sh_Lk_lift (T := m.T) (I := m.I) (J := m.J) (s := m.s) (pc2 := 62) (lv2 := [(0, .int x0), (1, .long x1), (3, .long x3)]) (st2 := [.long (x1 / x3)]) (I2 := m.I) (J2 := m.J) (fun hT v kk => ?_) ?_
          · refine sh_w (i := .ldiv) (len := 1) (pc2 := 62) (lv2 := [(0, .int x0), (1, .long x1), (3, .long x3)]) (st2 := [.long (x1 / x3)]) (h2 := (sh_rep m.T m.I m.J)) rfl rfl (sh_dv_ldiv c) ?_
            exact kk
          obtain rfl := Option.some.inj e
          obtain ⟨rfl, rfl⟩ := tg
          exact sh_Lk_ret (i := .lreturn) rfl rfl rfl (Nat.le_of_ble_eq_true rfl) (Nat.le_of_ble_eq_true rfl)
theorem sl_305_150 {x3 : Int32} {x4 : Int64} {x6 : Int64} {y1 : Int32} {m m2 : sh_X} {o : Outcome} {z : (Unit × sh_X)} (e : sf_305_150 x3 x4 x6 y1 m = some z) (tg : (sh_tV o m2) z) : sh_Lk 305 150 [(3, .int x3), (4, .long x4), (6, .long x6)] [.int y1, .ref 67] m o m2 10 250 := by
  unfold sf_305_150 at e
  refine sh_Lk_lift (T := m.T) (I := m.I) (J := m.J) (s := m.s) (pc2 := 156) (lv2 := [(3, .int x3), (4, .long x4), (6, .long x6)]) (st2 := [.long (x4 ||| x6), .int x3, .int y1, .ref 67]) (I2 := m.I) (J2 := m.J) (fun hT v kk => ?_) ?_
  · refine sh_w (i := (.iload_n 3)) (len := 1) (pc2 := 151) (lv2 := [(3, .int x3), (4, .long x4), (6, .long x6)]) (st2 := [.int x3, .int y1, .ref 67]) (h2 := (sh_rep m.T m.I m.J)) rfl rfl rfl ?_
    refine sh_w (i := (.lload 4)) (len := 2) (pc2 := 153) (lv2 := [(3, .int x3), (4, .long x4), (6, .long x6)]) (st2 := [.long x4, .int x3, .int y1, .ref 67]) (h2 := (sh_rep m.T m.I m.J)) rfl rfl rfl ?_
    refine sh_w (i := (.lload 6)) (len := 2) (pc2 := 155) (lv2 := [(3, .int x3), (4, .long x4), (6, .long x6)]) (st2 := [.long x6, .long x4, .int x3, .int y1, .ref 67]) (h2 := (sh_rep m.T m.I m.J)) rfl rfl rfl ?_
    refine sh_w (i := .lor) (len := 1) (pc2 := 156) (lv2 := [(3, .int x3), (4, .long x4), (6, .long x6)]) (st2 := [.long (x4 ||| x6), .int x3, .int y1, .ref 67]) (h2 := (sh_rep m.T m.I m.J)) rfl rfl rfl ?_
    exact kk
  refine sh_Lk_cS (r := (some (.long (sf_288 y1 x3 (x4 ||| x6))))) (st2 := [.long (sf_288 y1 x3 (x4 ||| x6)), .ref 67]) (pc2 := 159) (k2 := 288) (as := [.int y1, .int x3, .long (x4 ||| x6)]) (rest := [.ref 67]) rfl rfl (by decide) (Nat.le_of_ble_eq_true rfl) rfl rfl ⟨Nat.le_of_ble_eq_true rfl, Nat.le_of_ble_eq_true rfl⟩ (sl_288 (m := m) rfl ⟨rfl, rfl⟩) rfl rfl (Nat.le_of_ble_eq_true rfl) (Nat.le_of_ble_eq_true rfl) ?_
  refine sh_Lk_lift (T := m.T) (I := m.I) (J := m.J) (s := m.s) (pc2 := 437) (lv2 := [(3, .int x3), (4, .long x4), (6, .long x6)]) (st2 := []) (I2 := m.I) (J2 := sh_u2 m.J 66 46 (sf_288 y1 x3 (x4 ||| x6))) (fun hT v kk => ?_) ?_
  · refine sh_pJ1 (x := sf_288 y1 x3 (x4 ||| x6)) (pc2 := 162) rfl rfl (sh_s66 hT.st) rfl rfl rfl rfl ?_
    refine sh_w (i := (.goto 275)) (len := 3) (pc2 := 437) (lv2 := [(3, .int x3), (4, .long x4), (6, .long x6)]) (st2 := []) (h2 := (sh_rep m.T m.I (sh_u2 m.J 66 46 (sf_288 y1 x3 (x4 ||| x6))))) rfl rfl rfl ?_
    exact kk
  obtain rfl := Option.some.inj e
  obtain ⟨rfl, rfl⟩ := tg
  exact sh_Lk_ret (i := .return_) rfl rfl rfl (Nat.le_of_ble_eq_true rfl) (Nat.le_of_ble_eq_true rfl)
theorem sl_305_175 {x3 : Int32} {x4 : Int64} {x6 : Int64} {y1 : Int32} {m m2 : sh_X} {o : Outcome} {z : (Unit × sh_X)} (e : sf_305_175 x3 x4 x6 y1 m = some z) (tg : (sh_tV o m2) z) : sh_Lk 305 175 [(3, .int x3), (4, .long x4), (6, .long x6)] [.int y1, .ref 67] m o m2 10 250 := by
  unfold sf_305_175 at e
  refine sh_Lk_lift (T := m.T) (I := m.I) (J := m.J) (s := m.s) (pc2 := 181) (lv2 := [(3, .int x3), (4, .long x4), (6, .long x6)]) (st2 := [.long (x4 &&& x6), .int x3, .int y1, .ref 67]) (I2 := m.I) (J2 := m.J) (fun hT v kk => ?_) ?_
  · refine sh_w (i := (.iload_n 3)) (len := 1) (pc2 := 176) (lv2 := [(3, .int x3), (4, .long x4), (6, .long x6)]) (st2 := [.int x3, .int y1, .ref 67]) (h2 := (sh_rep m.T m.I m.J)) rfl rfl rfl ?_
    refine sh_w (i := (.lload 4)) (len := 2) (pc2 := 178) (lv2 := [(3, .int x3), (4, .long x4), (6, .long x6)]) (st2 := [.long x4, .int x3, .int y1, .ref 67]) (h2 := (sh_rep m.T m.I m.J)) rfl rfl rfl ?_
    refine sh_w (i := (.lload 6)) (len := 2) (pc2 := 180) (lv2 := [(3, .int x3), (4, .long x4), (6, .long x6)]) (st2 := [.long x6, .long x4, .int x3, .int y1, .ref 67]) (h2 := (sh_rep m.T m.I m.J)) rfl rfl rfl ?_
    refine sh_w (i := .land) (len := 1) (pc2 := 181) (lv2 := [(3, .int x3), (4, .long x4), (6, .long x6)]) (st2 := [.long (x4 &&& x6), .int x3, .int y1, .ref 67]) (h2 := (sh_rep m.T m.I m.J)) rfl rfl rfl ?_
    exact kk
  refine sh_Lk_cS (r := (some (.long (sf_288 y1 x3 (x4 &&& x6))))) (st2 := [.long (sf_288 y1 x3 (x4 &&& x6)), .ref 67]) (pc2 := 184) (k2 := 288) (as := [.int y1, .int x3, .long (x4 &&& x6)]) (rest := [.ref 67]) rfl rfl (by decide) (Nat.le_of_ble_eq_true rfl) rfl rfl ⟨Nat.le_of_ble_eq_true rfl, Nat.le_of_ble_eq_true rfl⟩ (sl_288 (m := m) rfl ⟨rfl, rfl⟩) rfl rfl (Nat.le_of_ble_eq_true rfl) (Nat.le_of_ble_eq_true rfl) ?_
  refine sh_Lk_lift (T := m.T) (I := m.I) (J := m.J) (s := m.s) (pc2 := 437) (lv2 := [(3, .int x3), (4, .long x4), (6, .long x6)]) (st2 := []) (I2 := m.I) (J2 := sh_u2 m.J 66 46 (sf_288 y1 x3 (x4 &&& x6))) (fun hT v kk => ?_) ?_
  · refine sh_pJ1 (x := sf_288 y1 x3 (x4 &&& x6)) (pc2 := 187) rfl rfl (sh_s66 hT.st) rfl rfl rfl rfl ?_
    refine sh_w (i := (.goto 250)) (len := 3) (pc2 := 437) (lv2 := [(3, .int x3), (4, .long x4), (6, .long x6)]) (st2 := []) (h2 := (sh_rep m.T m.I (sh_u2 m.J 66 46 (sf_288 y1 x3 (x4 &&& x6))))) rfl rfl rfl ?_
    exact kk
  obtain rfl := Option.some.inj e
  obtain ⟨rfl, rfl⟩ := tg
  exact sh_Lk_ret (i := .return_) rfl rfl rfl (Nat.le_of_ble_eq_true rfl) (Nat.le_of_ble_eq_true rfl)
theorem sl_305_200 {x3 : Int32} {x4 : Int64} {x6 : Int64} {y1 : Int32} {m m2 : sh_X} {o : Outcome} {z : (Unit × sh_X)} (e : sf_305_200 x3 x4 x6 y1 m = some z) (tg : (sh_tV o m2) z) : sh_Lk 305 200 [(3, .int x3), (4, .long x4), (6, .long x6)] [.int y1, .ref 67] m o m2 10 250 := by
  unfold sf_305_200 at e
  refine sh_Lk_lift (T := m.T) (I := m.I) (J := m.J) (s := m.s) (pc2 := 206) (lv2 := [(3, .int x3), (4, .long x4), (6, .long x6)]) (st2 := [.long (x4 ^^^ x6), .int x3, .int y1, .ref 67]) (I2 := m.I) (J2 := m.J) (fun hT v kk => ?_) ?_
  · refine sh_w (i := (.iload_n 3)) (len := 1) (pc2 := 201) (lv2 := [(3, .int x3), (4, .long x4), (6, .long x6)]) (st2 := [.int x3, .int y1, .ref 67]) (h2 := (sh_rep m.T m.I m.J)) rfl rfl rfl ?_
    refine sh_w (i := (.lload 4)) (len := 2) (pc2 := 203) (lv2 := [(3, .int x3), (4, .long x4), (6, .long x6)]) (st2 := [.long x4, .int x3, .int y1, .ref 67]) (h2 := (sh_rep m.T m.I m.J)) rfl rfl rfl ?_
    refine sh_w (i := (.lload 6)) (len := 2) (pc2 := 205) (lv2 := [(3, .int x3), (4, .long x4), (6, .long x6)]) (st2 := [.long x6, .long x4, .int x3, .int y1, .ref 67]) (h2 := (sh_rep m.T m.I m.J)) rfl rfl rfl ?_
    refine sh_w (i := .lxor) (len := 1) (pc2 := 206) (lv2 := [(3, .int x3), (4, .long x4), (6, .long x6)]) (st2 := [.long (x4 ^^^ x6), .int x3, .int y1, .ref 67]) (h2 := (sh_rep m.T m.I m.J)) rfl rfl rfl ?_
    exact kk
  refine sh_Lk_cS (r := (some (.long (sf_288 y1 x3 (x4 ^^^ x6))))) (st2 := [.long (sf_288 y1 x3 (x4 ^^^ x6)), .ref 67]) (pc2 := 209) (k2 := 288) (as := [.int y1, .int x3, .long (x4 ^^^ x6)]) (rest := [.ref 67]) rfl rfl (by decide) (Nat.le_of_ble_eq_true rfl) rfl rfl ⟨Nat.le_of_ble_eq_true rfl, Nat.le_of_ble_eq_true rfl⟩ (sl_288 (m := m) rfl ⟨rfl, rfl⟩) rfl rfl (Nat.le_of_ble_eq_true rfl) (Nat.le_of_ble_eq_true rfl) ?_
  refine sh_Lk_lift (T := m.T) (I := m.I) (J := m.J) (s := m.s) (pc2 := 437) (lv2 := [(3, .int x3), (4, .long x4), (6, .long x6)]) (st2 := []) (I2 := m.I) (J2 := sh_u2 m.J 66 46 (sf_288 y1 x3 (x4 ^^^ x6))) (fun hT v kk => ?_) ?_
  · refine sh_pJ1 (x := sf_288 y1 x3 (x4 ^^^ x6)) (pc2 := 212) rfl rfl (sh_s66 hT.st) rfl rfl rfl rfl ?_
    refine sh_w (i := (.goto 225)) (len := 3) (pc2 := 437) (lv2 := [(3, .int x3), (4, .long x4), (6, .long x6)]) (st2 := []) (h2 := (sh_rep m.T m.I (sh_u2 m.J 66 46 (sf_288 y1 x3 (x4 ^^^ x6))))) rfl rfl rfl ?_
    exact kk
  obtain rfl := Option.some.inj e
  obtain ⟨rfl, rfl⟩ := tg
  exact sh_Lk_ret (i := .return_) rfl rfl rfl (Nat.le_of_ble_eq_true rfl) (Nat.le_of_ble_eq_true rfl)
theorem sl_305_229 {y1 : Bool} {m m2 : sh_X} {o : Outcome} {z : (Unit × sh_X)} (e : sf_305_229 y1 m = some z) (tg : (sh_tV o m2) z) : sh_Lk 305 229 [] [.int (sh_b2 y1), .ref 67] m o m2 10 250 := by
  unfold sf_305_229 at e
  obtain ⟨r1, m11, e1, e⟩ := sh_bn_e e
  refine sh_Lk_cV (r := none) (st2 := []) (pc2 := 232) (k2 := 306) (a := 66) (as := [.ref 67, .int (sh_b2 y1)]) (rest := []) rfl rfl rfl (fun hT => (sh_s66 hT.st)) rfl rfl ⟨Nat.le_of_ble_eq_true rfl, Nat.le_of_ble_eq_true rfl⟩ (sl_306 e1 ⟨rfl, rfl⟩) rfl rfl (Nat.le_of_ble_eq_true rfl) (Nat.le_of_ble_eq_true rfl) ?_
  refine sh_Lk_lift (T := m11.T) (I := m11.I) (J := m11.J) (s := m11.s) (pc2 := 437) (lv2 := []) (st2 := []) (I2 := m11.I) (J2 := m11.J) (fun hT v kk => ?_) ?_
  · refine sh_w (i := (.goto 205)) (len := 3) (pc2 := 437) (lv2 := []) (st2 := []) (h2 := (sh_rep m11.T m11.I m11.J)) rfl rfl rfl ?_
    exact kk
  obtain rfl := Option.some.inj e
  obtain ⟨rfl, rfl⟩ := tg
  exact sh_Lk_ret (i := .return_) rfl rfl rfl (Nat.le_of_ble_eq_true rfl) (Nat.le_of_ble_eq_true rfl)
theorem sl_305_249 {y1 : Bool} {m m2 : sh_X} {o : Outcome} {z : (Unit × sh_X)} (e : sf_305_249 y1 m = some z) (tg : (sh_tV o m2) z) : sh_Lk 305 249 [] [.int (sh_b2 y1), .ref 67] m o m2 10 250 := by
  unfold sf_305_249 at e
  obtain ⟨r1, m11, e1, e⟩ := sh_bn_e e
  refine sh_Lk_cV (r := none) (st2 := []) (pc2 := 252) (k2 := 306) (a := 66) (as := [.ref 67, .int (sh_b2 y1)]) (rest := []) rfl rfl rfl (fun hT => (sh_s66 hT.st)) rfl rfl ⟨Nat.le_of_ble_eq_true rfl, Nat.le_of_ble_eq_true rfl⟩ (sl_306 e1 ⟨rfl, rfl⟩) rfl rfl (Nat.le_of_ble_eq_true rfl) (Nat.le_of_ble_eq_true rfl) ?_
  refine sh_Lk_lift (T := m11.T) (I := m11.I) (J := m11.J) (s := m11.s) (pc2 := 437) (lv2 := []) (st2 := []) (I2 := m11.I) (J2 := m11.J) (fun hT v kk => ?_) ?_
  · refine sh_w (i := (.goto 185)) (len := 3) (pc2 := 437) (lv2 := []) (st2 := []) (h2 := (sh_rep m11.T m11.I m11.J)) rfl rfl rfl ?_
    exact kk
  obtain rfl := Option.some.inj e
  obtain ⟨rfl, rfl⟩ := tg
  exact sh_Lk_ret (i := .return_) rfl rfl rfl (Nat.le_of_ble_eq_true rfl) (Nat.le_of_ble_eq_true rfl)
theorem sl_305_302 {y1 : Bool} {m m2 : sh_X} {o : Outcome} {z : (Unit × sh_X)} (e : sf_305_302 y1 m = some z) (tg : (sh_tV o m2) z) : sh_Lk 305 302 [] [.int (sh_b2 y1), .ref 67] m o m2 10 250 := by
  unfold sf_305_302 at e
  obtain ⟨r1, m11, e1, e⟩ := sh_bn_e e
  refine sh_Lk_cV (r := none) (st2 := []) (pc2 := 305) (k2 := 306) (a := 66) (as := [.ref 67, .int (sh_b2 y1)]) (rest := []) rfl rfl rfl (fun hT => (sh_s66 hT.st)) rfl rfl ⟨Nat.le_of_ble_eq_true rfl, Nat.le_of_ble_eq_true rfl⟩ (sl_306 e1 ⟨rfl, rfl⟩) rfl rfl (Nat.le_of_ble_eq_true rfl) (Nat.le_of_ble_eq_true rfl) ?_
  refine sh_Lk_lift (T := m11.T) (I := m11.I) (J := m11.J) (s := m11.s) (pc2 := 437) (lv2 := []) (st2 := []) (I2 := m11.I) (J2 := m11.J) (fun hT v kk => ?_) ?_
  · refine sh_w (i := (.goto 132)) (len := 3) (pc2 := 437) (lv2 := []) (st2 := []) (h2 := (sh_rep m11.T m11.I m11.J)) rfl rfl rfl ?_
    exact kk
  obtain rfl := Option.some.inj e
  obtain ⟨rfl, rfl⟩ := tg
  exact sh_Lk_ret (i := .return_) rfl rfl rfl (Nat.le_of_ble_eq_true rfl) (Nat.le_of_ble_eq_true rfl)
theorem sl_305_325 {y1 : Bool} {m m2 : sh_X} {o : Outcome} {z : (Unit × sh_X)} (e : sf_305_325 y1 m = some z) (tg : (sh_tV o m2) z) : sh_Lk 305 325 [] [.int (sh_b2 y1), .ref 67] m o m2 10 250 := by
  unfold sf_305_325 at e
  obtain ⟨r1, m11, e1, e⟩ := sh_bn_e e
  refine sh_Lk_cV (r := none) (st2 := []) (pc2 := 328) (k2 := 306) (a := 66) (as := [.ref 67, .int (sh_b2 y1)]) (rest := []) rfl rfl rfl (fun hT => (sh_s66 hT.st)) rfl rfl ⟨Nat.le_of_ble_eq_true rfl, Nat.le_of_ble_eq_true rfl⟩ (sl_306 e1 ⟨rfl, rfl⟩) rfl rfl (Nat.le_of_ble_eq_true rfl) (Nat.le_of_ble_eq_true rfl) ?_
  refine sh_Lk_lift (T := m11.T) (I := m11.I) (J := m11.J) (s := m11.s) (pc2 := 437) (lv2 := []) (st2 := []) (I2 := m11.I) (J2 := m11.J) (fun hT v kk => ?_) ?_
  · refine sh_w (i := (.goto 109)) (len := 3) (pc2 := 437) (lv2 := []) (st2 := []) (h2 := (sh_rep m11.T m11.I m11.J)) rfl rfl rfl ?_
    exact kk
  obtain rfl := Option.some.inj e
  obtain ⟨rfl, rfl⟩ := tg
  exact sh_Lk_ret (i := .return_) rfl rfl rfl (Nat.le_of_ble_eq_true rfl) (Nat.le_of_ble_eq_true rfl)
theorem sl_305_431 {y1 : Int32} {y2 : Int32} {y3 : Int64} {m m2 : sh_X} {o : Outcome} {z : (Unit × sh_X)} (e : sf_305_431 y1 y2 y3 m = some z) (tg : (sh_tV o m2) z) : sh_Lk 305 431 [] [.long y3, .int y2, .int y1, .ref 67] m o m2 10 250 := by
  unfold sf_305_431 at e
  refine sh_Lk_cS (r := (some (.long (sf_288 y1 y2 y3)))) (st2 := [.long (sf_288 y1 y2 y3), .ref 67]) (pc2 := 434) (k2 := 288) (as := [.int y1, .int y2, .long y3]) (rest := [.ref 67]) rfl rfl (by decide) (Nat.le_of_ble_eq_true rfl) rfl rfl ⟨Nat.le_of_ble_eq_true rfl, Nat.le_of_ble_eq_true rfl⟩ (sl_288 (m := m) rfl ⟨rfl, rfl⟩) rfl rfl (Nat.le_of_ble_eq_true rfl) (Nat.le_of_ble_eq_true rfl) ?_
  refine sh_Lk_lift (T := m.T) (I := m.I) (J := m.J) (s := m.s) (pc2 := 437) (lv2 := []) (st2 := []) (I2 := m.I) (J2 := sh_u2 m.J 66 46 (sf_288 y1 y2 y3)) (fun hT v kk => ?_) ?_
  · refine sh_pJ1 (x := sf_288 y1 y2 y3) (pc2 := 437) rfl rfl (sh_s66 hT.st) rfl rfl rfl rfl ?_
    exact kk
  obtain rfl := Option.some.inj e
  obtain ⟨rfl, rfl⟩ := tg
  exact sh_Lk_ret (i := .return_) rfl rfl rfl (Nat.le_of_ble_eq_true rfl) (Nat.le_of_ble_eq_true rfl)
theorem sl_305 {x1 : Int32} {x2 : Int32} {x3 : Int32} {x4 : Int64} {x6 : Int64} {m m2 : sh_X} {o : Outcome} {z : (Unit × sh_X)} (e : sf_305 x1 x2 x3 x4 x6 m = some z) (tg : (sh_tV o m2) z) : sh_Lk 305 0 [(0, .ref 67), (1, .int x1), (2, .int x2), (3, .int x3), (4, .long x4), (6, .long x6)] [] m o m2 10 250 := by
  unfold sf_305 at e
  refine sh_Lk_lift (T := m.T) (I := m.I) (J := m.J) (s := m.s) (pc2 := 11) (lv2 := [(0, .ref 67), (1, .int x1), (2, .int x2), (3, .int x3), (4, .long x4), (6, .long x6)]) (st2 := [.int x1]) (I2 := sh_u2 (sh_u2 m.I 66 43 x2) 66 44 x3) (J2 := m.J) (fun hT v kk => ?_) ?_
  · refine sh_w (i := (.aload_n 0)) (len := 1) (pc2 := 1) (lv2 := [(0, .ref 67), (1, .int x1), (2, .int x2), (3, .int x3), (4, .long x4), (6, .long x6)]) (st2 := [.ref 67]) (h2 := (sh_rep m.T m.I m.J)) rfl rfl rfl ?_
    refine sh_w (i := (.iload_n 2)) (len := 1) (pc2 := 2) (lv2 := [(0, .ref 67), (1, .int x1), (2, .int x2), (3, .int x3), (4, .long x4), (6, .long x6)]) (st2 := [.int x2, .ref 67]) (h2 := (sh_rep m.T m.I m.J)) rfl rfl rfl ?_
    refine sh_pI1 (x := x2) (pc2 := 5) rfl rfl (sh_s66 hT.st) rfl rfl rfl rfl ?_
    refine sh_w (i := (.aload_n 0)) (len := 1) (pc2 := 6) (lv2 := [(0, .ref 67), (1, .int x1), (2, .int x2), (3, .int x3), (4, .long x4), (6, .long x6)]) (st2 := [.ref 67]) (h2 := (sh_rep m.T (sh_u2 m.I 66 43 x2) m.J)) rfl rfl rfl ?_
    refine sh_w (i := (.iload_n 3)) (len := 1) (pc2 := 7) (lv2 := [(0, .ref 67), (1, .int x1), (2, .int x2), (3, .int x3), (4, .long x4), (6, .long x6)]) (st2 := [.int x3, .ref 67]) (h2 := (sh_rep m.T (sh_u2 m.I 66 43 x2) m.J)) rfl rfl rfl ?_
    refine sh_pI1 (x := x3) (pc2 := 10) rfl rfl (sh_s66 hT.st) rfl rfl rfl rfl ?_
    refine sh_w (i := (.iload_n 1)) (len := 1) (pc2 := 11) (lv2 := [(0, .ref 67), (1, .int x1), (2, .int x2), (3, .int x3), (4, .long x4), (6, .long x6)]) (st2 := [.int x1]) (h2 := (sh_rep m.T (sh_u2 (sh_u2 m.I 66 43 x2) 66 44 x3) m.J)) rfl rfl rfl ?_
    exact kk
  rcases sh_ite e with ⟨c, e⟩ | ⟨c0, e⟩
  · refine sh_Lk_lift (T := m.T) (I := sh_u2 (sh_u2 m.I 66 43 x2) 66 44 x3) (J := m.J) (s := m.s) (pc2 := 167) (lv2 := [(0, .ref 67), (1, .int x1), (2, .int x2), (3, .int x3), (4, .long x4), (6, .long x6)]) (st2 := [.int x2, .ref 67]) (I2 := sh_u2 (sh_u2 m.I 66 43 x2) 66 44 x3) (J2 := m.J) (fun hT v kk => ?_) ?_
    · refine sh_w (i := (.lookupswitch 391 #[(38, 154), (42, 354), (43, 320), (45, 337), (47, 371), (60, 244), (62, 259), (94, 179), (124, 129), (8509, 224), (9766, 154), (15421, 274), (15677, 204), (15933, 297), (31868, 129)])) (len := 129) (pc2 := 165) (lv2 := [(0, .ref 67), (1, .int x1), (2, .int x2), (3, .int x3), (4, .long x4), (6, .long x6)]) (st2 := []) (h2 := (sh_rep m.T (sh_u2 (sh_u2 m.I 66 43 x2) 66 44 x3) m.J)) rfl rfl (c.elim (fun c => sh_sw c rfl) (fun c => sh_sw c rfl)) ?_
      refine sh_w (i := (.aload_n 0)) (len := 1) (pc2 := 166) (lv2 := [(0, .ref 67), (1, .int x1), (2, .int x2), (3, .int x3), (4, .long x4), (6, .long x6)]) (st2 := [.ref 67]) (h2 := (sh_rep m.T (sh_u2 (sh_u2 m.I 66 43 x2) 66 44 x3) m.J)) rfl rfl rfl ?_
      refine sh_w (i := (.iload_n 2)) (len := 1) (pc2 := 167) (lv2 := [(0, .ref 67), (1, .int x1), (2, .int x2), (3, .int x3), (4, .long x4), (6, .long x6)]) (st2 := [.int x2, .ref 67]) (h2 := (sh_rep m.T (sh_u2 (sh_u2 m.I 66 43 x2) 66 44 x3) m.J)) rfl rfl rfl ?_
      exact kk
    rcases sh_ite e with ⟨c, e⟩ | ⟨c, e⟩
    · refine sh_Lk_lift (T := m.T) (I := sh_u2 (sh_u2 m.I 66 43 x2) 66 44 x3) (J := m.J) (s := m.s) (pc2 := 175) (lv2 := [(0, .ref 67), (1, .int x1), (2, .int x2), (3, .int x3), (4, .long x4), (6, .long x6)]) (st2 := [.int 1, .ref 67]) (I2 := sh_u2 (sh_u2 m.I 66 43 x2) 66 44 x3) (J2 := m.J) (fun hT v kk => ?_) ?_
      · refine sh_j0 (c := .ne) (off := (7)) (pc2 := 170) false rfl (sh_Bnef c) rfl ?_
        refine sh_w (i := (.iconst 1)) (len := 1) (pc2 := 171) (lv2 := [(0, .ref 67), (1, .int x1), (2, .int x2), (3, .int x3), (4, .long x4), (6, .long x6)]) (st2 := [.int 1, .ref 67]) (h2 := (sh_rep m.T (sh_u2 (sh_u2 m.I 66 43 x2) 66 44 x3) m.J)) rfl rfl rfl ?_
        refine sh_w (i := (.goto 4)) (len := 3) (pc2 := 175) (lv2 := [(0, .ref 67), (1, .int x1), (2, .int x2), (3, .int x3), (4, .long x4), (6, .long x6)]) (st2 := [.int 1, .ref 67]) (h2 := (sh_rep m.T (sh_u2 (sh_u2 m.I 66 43 x2) 66 44 x3) m.J)) rfl rfl rfl ?_
        exact kk
      exact sh_Lk_sub (sh_sub_c rfl (sh_sub_c rfl (sh_sub_c rfl (sh_sub_n)))) (sl_305_175 e tg)
    · refine sh_Lk_lift (T := m.T) (I := sh_u2 (sh_u2 m.I 66 43 x2) 66 44 x3) (J := m.J) (s := m.s) (pc2 := 175) (lv2 := [(0, .ref 67), (1, .int x1), (2, .int x2), (3, .int x3), (4, .long x4), (6, .long x6)]) (st2 := [.int x2, .ref 67]) (I2 := sh_u2 (sh_u2 m.I 66 43 x2) 66 44 x3) (J2 := m.J) (fun hT v kk => ?_) ?_
      · refine sh_j0 (c := .ne) (off := (7)) (pc2 := 174) true rfl (sh_Bnet c) rfl ?_
        refine sh_w (i := (.iload_n 2)) (len := 1) (pc2 := 175) (lv2 := [(0, .ref 67), (1, .int x1), (2, .int x2), (3, .int x3), (4, .long x4), (6, .long x6)]) (st2 := [.int x2, .ref 67]) (h2 := (sh_rep m.T (sh_u2 (sh_u2 m.I 66 43 x2) 66 44 x3) m.J)) rfl rfl rfl ?_
        exact kk
      exact sh_Lk_sub (sh_sub_c rfl (sh_sub_c rfl (sh_sub_c rfl (sh_sub_n)))) (sl_305_175 e tg)
  rcases sh_ite e with ⟨c, e⟩ | ⟨c1, e⟩
  · refine sh_Lk_lift (T := m.T) (I := sh_u2 (sh_u2 m.I 66 43 x2) 66 44 x3) (J := m.J) (s := m.s) (pc2 := 373) (lv2 := [(0, .ref 67), (1, .int x1), (2, .int x2), (3, .int x3), (4, .long x4), (6, .long x6)]) (st2 := [.long (x4 * x6), .int x3, .int x2, .ref 67]) (I2 := sh_u2 (sh_u2 m.I 66 43 x2) 66 44 x3) (J2 := m.J) (fun hT v kk => ?_) ?_
    · refine sh_w (i := (.lookupswitch 391 #[(38, 154), (42, 354), (43, 320), (45, 337), (47, 371), (60, 244), (62, 259), (94, 179), (124, 129), (8509, 224), (9766, 154), (15421, 274), (15677, 204), (15933, 297), (31868, 129)])) (len := 129) (pc2 := 365) (lv2 := [(0, .ref 67), (1, .int x1), (2, .int x2), (3, .int x3), (4, .long x4), (6, .long x6)]) (st2 := []) (h2 := (sh_rep m.T (sh_u2 (sh_u2 m.I 66 43 x2) 66 44 x3) m.J)) rfl rfl (sh_sw c rfl) ?_
      refine sh_w (i := (.aload_n 0)) (len := 1) (pc2 := 366) (lv2 := [(0, .ref 67), (1, .int x1), (2, .int x2), (3, .int x3), (4, .long x4), (6, .long x6)]) (st2 := [.ref 67]) (h2 := (sh_rep m.T (sh_u2 (sh_u2 m.I 66 43 x2) 66 44 x3) m.J)) rfl rfl rfl ?_
      refine sh_w (i := (.iload_n 2)) (len := 1) (pc2 := 367) (lv2 := [(0, .ref 67), (1, .int x1), (2, .int x2), (3, .int x3), (4, .long x4), (6, .long x6)]) (st2 := [.int x2, .ref 67]) (h2 := (sh_rep m.T (sh_u2 (sh_u2 m.I 66 43 x2) 66 44 x3) m.J)) rfl rfl rfl ?_
      refine sh_w (i := (.iload_n 3)) (len := 1) (pc2 := 368) (lv2 := [(0, .ref 67), (1, .int x1), (2, .int x2), (3, .int x3), (4, .long x4), (6, .long x6)]) (st2 := [.int x3, .int x2, .ref 67]) (h2 := (sh_rep m.T (sh_u2 (sh_u2 m.I 66 43 x2) 66 44 x3) m.J)) rfl rfl rfl ?_
      refine sh_w (i := (.lload 4)) (len := 2) (pc2 := 370) (lv2 := [(0, .ref 67), (1, .int x1), (2, .int x2), (3, .int x3), (4, .long x4), (6, .long x6)]) (st2 := [.long x4, .int x3, .int x2, .ref 67]) (h2 := (sh_rep m.T (sh_u2 (sh_u2 m.I 66 43 x2) 66 44 x3) m.J)) rfl rfl rfl ?_
      refine sh_w (i := (.lload 6)) (len := 2) (pc2 := 372) (lv2 := [(0, .ref 67), (1, .int x1), (2, .int x2), (3, .int x3), (4, .long x4), (6, .long x6)]) (st2 := [.long x6, .long x4, .int x3, .int x2, .ref 67]) (h2 := (sh_rep m.T (sh_u2 (sh_u2 m.I 66 43 x2) 66 44 x3) m.J)) rfl rfl rfl ?_
      refine sh_w (i := .lmul) (len := 1) (pc2 := 373) (lv2 := [(0, .ref 67), (1, .int x1), (2, .int x2), (3, .int x3), (4, .long x4), (6, .long x6)]) (st2 := [.long (x4 * x6), .int x3, .int x2, .ref 67]) (h2 := (sh_rep m.T (sh_u2 (sh_u2 m.I 66 43 x2) 66 44 x3) m.J)) rfl rfl rfl ?_
      exact kk
    refine sh_Lk_cS (r := (some (.long (sf_288 x2 x3 (x4 * x6))))) (st2 := [.long (sf_288 x2 x3 (x4 * x6)), .ref 67]) (pc2 := 376) (k2 := 288) (as := [.int x2, .int x3, .long (x4 * x6)]) (rest := [.ref 67]) rfl rfl (by decide) (Nat.le_of_ble_eq_true rfl) rfl rfl ⟨Nat.le_of_ble_eq_true rfl, Nat.le_of_ble_eq_true rfl⟩ (sl_288 (m := ⟨m.T, sh_u2 (sh_u2 m.I 66 43 x2) 66 44 x3, m.J, m.s⟩) rfl ⟨rfl, rfl⟩) rfl rfl (Nat.le_of_ble_eq_true rfl) (Nat.le_of_ble_eq_true rfl) ?_
    refine sh_Lk_lift (T := m.T) (I := sh_u2 (sh_u2 m.I 66 43 x2) 66 44 x3) (J := m.J) (s := m.s) (pc2 := 437) (lv2 := [(0, .ref 67), (1, .int x1), (2, .int x2), (3, .int x3), (4, .long x4), (6, .long x6)]) (st2 := []) (I2 := sh_u2 (sh_u2 m.I 66 43 x2) 66 44 x3) (J2 := sh_u2 m.J 66 46 (sf_288 x2 x3 (x4 * x6))) (fun hT v kk => ?_) ?_
    · refine sh_pJ1 (x := sf_288 x2 x3 (x4 * x6)) (pc2 := 379) rfl rfl (sh_s66 hT.st) rfl rfl rfl rfl ?_
      refine sh_w (i := (.goto 58)) (len := 3) (pc2 := 437) (lv2 := [(0, .ref 67), (1, .int x1), (2, .int x2), (3, .int x3), (4, .long x4), (6, .long x6)]) (st2 := []) (h2 := (sh_rep m.T (sh_u2 (sh_u2 m.I 66 43 x2) 66 44 x3) (sh_u2 m.J 66 46 (sf_288 x2 x3 (x4 * x6))))) rfl rfl rfl ?_
      exact kk
    obtain rfl := Option.some.inj e
    obtain ⟨rfl, rfl⟩ := tg
    exact sh_Lk_ret (i := .return_) rfl rfl rfl (Nat.le_of_ble_eq_true rfl) (Nat.le_of_ble_eq_true rfl)
  rcases sh_ite e with ⟨c, e⟩ | ⟨c2, e⟩
  · refine sh_Lk_lift (T := m.T) (I := sh_u2 (sh_u2 m.I 66 43 x2) 66 44 x3) (J := m.J) (s := m.s) (pc2 := 339) (lv2 := [(0, .ref 67), (1, .int x1), (2, .int x2), (3, .int x3), (4, .long x4), (6, .long x6)]) (st2 := [.long (x4 + x6), .int x3, .int x2, .ref 67]) (I2 := sh_u2 (sh_u2 m.I 66 43 x2) 66 44 x3) (J2 := m.J) (fun hT v kk => ?_) ?_
    · refine sh_w (i := (.lookupswitch 391 #[(38, 154), (42, 354), (43, 320), (45, 337), (47, 371), (60, 244), (62, 259), (94, 179), (124, 129), (8509, 224), (9766, 154), (15421, 274), (15677, 204), (15933, 297), (31868, 129)])) (len := 129) (pc2 := 331) (lv2 := [(0, .ref 67), (1, .int x1), (2, .int x2), (3, .int x3), (4, .long x4), (6, .long x6)]) (st2 := []) (h2 := (sh_rep m.T (sh_u2 (sh_u2 m.I 66 43 x2) 66 44 x3) m.J)) rfl rfl (sh_sw c rfl) ?_
      refine sh_w (i := (.aload_n 0)) (len := 1) (pc2 := 332) (lv2 := [(0, .ref 67), (1, .int x1), (2, .int x2), (3, .int x3), (4, .long x4), (6, .long x6)]) (st2 := [.ref 67]) (h2 := (sh_rep m.T (sh_u2 (sh_u2 m.I 66 43 x2) 66 44 x3) m.J)) rfl rfl rfl ?_
      refine sh_w (i := (.iload_n 2)) (len := 1) (pc2 := 333) (lv2 := [(0, .ref 67), (1, .int x1), (2, .int x2), (3, .int x3), (4, .long x4), (6, .long x6)]) (st2 := [.int x2, .ref 67]) (h2 := (sh_rep m.T (sh_u2 (sh_u2 m.I 66 43 x2) 66 44 x3) m.J)) rfl rfl rfl ?_
      refine sh_w (i := (.iload_n 3)) (len := 1) (pc2 := 334) (lv2 := [(0, .ref 67), (1, .int x1), (2, .int x2), (3, .int x3), (4, .long x4), (6, .long x6)]) (st2 := [.int x3, .int x2, .ref 67]) (h2 := (sh_rep m.T (sh_u2 (sh_u2 m.I 66 43 x2) 66 44 x3) m.J)) rfl rfl rfl ?_
      refine sh_w (i := (.lload 4)) (len := 2) (pc2 := 336) (lv2 := [(0, .ref 67), (1, .int x1), (2, .int x2), (3, .int x3), (4, .long x4), (6, .long x6)]) (st2 := [.long x4, .int x3, .int x2, .ref 67]) (h2 := (sh_rep m.T (sh_u2 (sh_u2 m.I 66 43 x2) 66 44 x3) m.J)) rfl rfl rfl ?_
      refine sh_w (i := (.lload 6)) (len := 2) (pc2 := 338) (lv2 := [(0, .ref 67), (1, .int x1), (2, .int x2), (3, .int x3), (4, .long x4), (6, .long x6)]) (st2 := [.long x6, .long x4, .int x3, .int x2, .ref 67]) (h2 := (sh_rep m.T (sh_u2 (sh_u2 m.I 66 43 x2) 66 44 x3) m.J)) rfl rfl rfl ?_
      refine sh_w (i := .ladd) (len := 1) (pc2 := 339) (lv2 := [(0, .ref 67), (1, .int x1), (2, .int x2), (3, .int x3), (4, .long x4), (6, .long x6)]) (st2 := [.long (x4 + x6), .int x3, .int x2, .ref 67]) (h2 := (sh_rep m.T (sh_u2 (sh_u2 m.I 66 43 x2) 66 44 x3) m.J)) rfl rfl rfl ?_
      exact kk
    refine sh_Lk_cS (r := (some (.long (sf_288 x2 x3 (x4 + x6))))) (st2 := [.long (sf_288 x2 x3 (x4 + x6)), .ref 67]) (pc2 := 342) (k2 := 288) (as := [.int x2, .int x3, .long (x4 + x6)]) (rest := [.ref 67]) rfl rfl (by decide) (Nat.le_of_ble_eq_true rfl) rfl rfl ⟨Nat.le_of_ble_eq_true rfl, Nat.le_of_ble_eq_true rfl⟩ (sl_288 (m := ⟨m.T, sh_u2 (sh_u2 m.I 66 43 x2) 66 44 x3, m.J, m.s⟩) rfl ⟨rfl, rfl⟩) rfl rfl (Nat.le_of_ble_eq_true rfl) (Nat.le_of_ble_eq_true rfl) ?_
    refine sh_Lk_lift (T := m.T) (I := sh_u2 (sh_u2 m.I 66 43 x2) 66 44 x3) (J := m.J) (s := m.s) (pc2 := 437) (lv2 := [(0, .ref 67), (1, .int x1), (2, .int x2), (3, .int x3), (4, .long x4), (6, .long x6)]) (st2 := []) (I2 := sh_u2 (sh_u2 m.I 66 43 x2) 66 44 x3) (J2 := sh_u2 m.J 66 46 (sf_288 x2 x3 (x4 + x6))) (fun hT v kk => ?_) ?_
    · refine sh_pJ1 (x := sf_288 x2 x3 (x4 + x6)) (pc2 := 345) rfl rfl (sh_s66 hT.st) rfl rfl rfl rfl ?_
      refine sh_w (i := (.goto 92)) (len := 3) (pc2 := 437) (lv2 := [(0, .ref 67), (1, .int x1), (2, .int x2), (3, .int x3), (4, .long x4), (6, .long x6)]) (st2 := []) (h2 := (sh_rep m.T (sh_u2 (sh_u2 m.I 66 43 x2) 66 44 x3) (sh_u2 m.J 66 46 (sf_288 x2 x3 (x4 + x6))))) rfl rfl rfl ?_
      exact kk
    obtain rfl := Option.some.inj e
    obtain ⟨rfl, rfl⟩ := tg
    exact sh_Lk_ret (i := .return_) rfl rfl rfl (Nat.le_of_ble_eq_true rfl) (Nat.le_of_ble_eq_true rfl)
  rcases sh_ite e with ⟨c, e⟩ | ⟨c3, e⟩
  · refine sh_Lk_lift (T := m.T) (I := sh_u2 (sh_u2 m.I 66 43 x2) 66 44 x3) (J := m.J) (s := m.s) (pc2 := 356) (lv2 := [(0, .ref 67), (1, .int x1), (2, .int x2), (3, .int x3), (4, .long x4), (6, .long x6)]) (st2 := [.long (x4 - x6), .int x3, .int x2, .ref 67]) (I2 := sh_u2 (sh_u2 m.I 66 43 x2) 66 44 x3) (J2 := m.J) (fun hT v kk => ?_) ?_
    · refine sh_w (i := (.lookupswitch 391 #[(38, 154), (42, 354), (43, 320), (45, 337), (47, 371), (60, 244), (62, 259), (94, 179), (124, 129), (8509, 224), (9766, 154), (15421, 274), (15677, 204), (15933, 297), (31868, 129)])) (len := 129) (pc2 := 348) (lv2 := [(0, .ref 67), (1, .int x1), (2, .int x2), (3, .int x3), (4, .long x4), (6, .long x6)]) (st2 := []) (h2 := (sh_rep m.T (sh_u2 (sh_u2 m.I 66 43 x2) 66 44 x3) m.J)) rfl rfl (sh_sw c rfl) ?_
      refine sh_w (i := (.aload_n 0)) (len := 1) (pc2 := 349) (lv2 := [(0, .ref 67), (1, .int x1), (2, .int x2), (3, .int x3), (4, .long x4), (6, .long x6)]) (st2 := [.ref 67]) (h2 := (sh_rep m.T (sh_u2 (sh_u2 m.I 66 43 x2) 66 44 x3) m.J)) rfl rfl rfl ?_
      refine sh_w (i := (.iload_n 2)) (len := 1) (pc2 := 350) (lv2 := [(0, .ref 67), (1, .int x1), (2, .int x2), (3, .int x3), (4, .long x4), (6, .long x6)]) (st2 := [.int x2, .ref 67]) (h2 := (sh_rep m.T (sh_u2 (sh_u2 m.I 66 43 x2) 66 44 x3) m.J)) rfl rfl rfl ?_
      refine sh_w (i := (.iload_n 3)) (len := 1) (pc2 := 351) (lv2 := [(0, .ref 67), (1, .int x1), (2, .int x2), (3, .int x3), (4, .long x4), (6, .long x6)]) (st2 := [.int x3, .int x2, .ref 67]) (h2 := (sh_rep m.T (sh_u2 (sh_u2 m.I 66 43 x2) 66 44 x3) m.J)) rfl rfl rfl ?_
      refine sh_w (i := (.lload 4)) (len := 2) (pc2 := 353) (lv2 := [(0, .ref 67), (1, .int x1), (2, .int x2), (3, .int x3), (4, .long x4), (6, .long x6)]) (st2 := [.long x4, .int x3, .int x2, .ref 67]) (h2 := (sh_rep m.T (sh_u2 (sh_u2 m.I 66 43 x2) 66 44 x3) m.J)) rfl rfl rfl ?_
      refine sh_w (i := (.lload 6)) (len := 2) (pc2 := 355) (lv2 := [(0, .ref 67), (1, .int x1), (2, .int x2), (3, .int x3), (4, .long x4), (6, .long x6)]) (st2 := [.long x6, .long x4, .int x3, .int x2, .ref 67]) (h2 := (sh_rep m.T (sh_u2 (sh_u2 m.I 66 43 x2) 66 44 x3) m.J)) rfl rfl rfl ?_
      refine sh_w (i := .lsub) (len := 1) (pc2 := 356) (lv2 := [(0, .ref 67), (1, .int x1), (2, .int x2), (3, .int x3), (4, .long x4), (6, .long x6)]) (st2 := [.long (x4 - x6), .int x3, .int x2, .ref 67]) (h2 := (sh_rep m.T (sh_u2 (sh_u2 m.I 66 43 x2) 66 44 x3) m.J)) rfl rfl rfl ?_
      exact kk
    refine sh_Lk_cS (r := (some (.long (sf_288 x2 x3 (x4 - x6))))) (st2 := [.long (sf_288 x2 x3 (x4 - x6)), .ref 67]) (pc2 := 359) (k2 := 288) (as := [.int x2, .int x3, .long (x4 - x6)]) (rest := [.ref 67]) rfl rfl (by decide) (Nat.le_of_ble_eq_true rfl) rfl rfl ⟨Nat.le_of_ble_eq_true rfl, Nat.le_of_ble_eq_true rfl⟩ (sl_288 (m := ⟨m.T, sh_u2 (sh_u2 m.I 66 43 x2) 66 44 x3, m.J, m.s⟩) rfl ⟨rfl, rfl⟩) rfl rfl (Nat.le_of_ble_eq_true rfl) (Nat.le_of_ble_eq_true rfl) ?_
    refine sh_Lk_lift (T := m.T) (I := sh_u2 (sh_u2 m.I 66 43 x2) 66 44 x3) (J := m.J) (s := m.s) (pc2 := 437) (lv2 := [(0, .ref 67), (1, .int x1), (2, .int x2), (3, .int x3), (4, .long x4), (6, .long x6)]) (st2 := []) (I2 := sh_u2 (sh_u2 m.I 66 43 x2) 66 44 x3) (J2 := sh_u2 m.J 66 46 (sf_288 x2 x3 (x4 - x6))) (fun hT v kk => ?_) ?_
    · refine sh_pJ1 (x := sf_288 x2 x3 (x4 - x6)) (pc2 := 362) rfl rfl (sh_s66 hT.st) rfl rfl rfl rfl ?_
      refine sh_w (i := (.goto 75)) (len := 3) (pc2 := 437) (lv2 := [(0, .ref 67), (1, .int x1), (2, .int x2), (3, .int x3), (4, .long x4), (6, .long x6)]) (st2 := []) (h2 := (sh_rep m.T (sh_u2 (sh_u2 m.I 66 43 x2) 66 44 x3) (sh_u2 m.J 66 46 (sf_288 x2 x3 (x4 - x6))))) rfl rfl rfl ?_
      exact kk
    obtain rfl := Option.some.inj e
    obtain ⟨rfl, rfl⟩ := tg
    exact sh_Lk_ret (i := .return_) rfl rfl rfl (Nat.le_of_ble_eq_true rfl) (Nat.le_of_ble_eq_true rfl)
  rcases sh_ite e with ⟨c, e⟩ | ⟨c4, e⟩
  · refine sh_Lk_lift (T := m.T) (I := sh_u2 (sh_u2 m.I 66 43 x2) 66 44 x3) (J := m.J) (s := m.s) (pc2 := 390) (lv2 := [(0, .ref 67), (1, .int x1), (2, .int x2), (3, .int x3), (4, .long x4), (6, .long x6)]) (st2 := [.long x6, .long x4, .int x2, .int x3, .int x2, .ref 67]) (I2 := sh_u2 (sh_u2 m.I 66 43 x2) 66 44 x3) (J2 := m.J) (fun hT v kk => ?_) ?_
    · refine sh_w (i := (.lookupswitch 391 #[(38, 154), (42, 354), (43, 320), (45, 337), (47, 371), (60, 244), (62, 259), (94, 179), (124, 129), (8509, 224), (9766, 154), (15421, 274), (15677, 204), (15933, 297), (31868, 129)])) (len := 129) (pc2 := 382) (lv2 := [(0, .ref 67), (1, .int x1), (2, .int x2), (3, .int x3), (4, .long x4), (6, .long x6)]) (st2 := []) (h2 := (sh_rep m.T (sh_u2 (sh_u2 m.I 66 43 x2) 66 44 x3) m.J)) rfl rfl (sh_sw c rfl) ?_
      refine sh_w (i := (.aload_n 0)) (len := 1) (pc2 := 383) (lv2 := [(0, .ref 67), (1, .int x1), (2, .int x2), (3, .int x3), (4, .long x4), (6, .long x6)]) (st2 := [.ref 67]) (h2 := (sh_rep m.T (sh_u2 (sh_u2 m.I 66 43 x2) 66 44 x3) m.J)) rfl rfl rfl ?_
      refine sh_w (i := (.iload_n 2)) (len := 1) (pc2 := 384) (lv2 := [(0, .ref 67), (1, .int x1), (2, .int x2), (3, .int x3), (4, .long x4), (6, .long x6)]) (st2 := [.int x2, .ref 67]) (h2 := (sh_rep m.T (sh_u2 (sh_u2 m.I 66 43 x2) 66 44 x3) m.J)) rfl rfl rfl ?_
      refine sh_w (i := (.iload_n 3)) (len := 1) (pc2 := 385) (lv2 := [(0, .ref 67), (1, .int x1), (2, .int x2), (3, .int x3), (4, .long x4), (6, .long x6)]) (st2 := [.int x3, .int x2, .ref 67]) (h2 := (sh_rep m.T (sh_u2 (sh_u2 m.I 66 43 x2) 66 44 x3) m.J)) rfl rfl rfl ?_
      refine sh_w (i := (.iload_n 2)) (len := 1) (pc2 := 386) (lv2 := [(0, .ref 67), (1, .int x1), (2, .int x2), (3, .int x3), (4, .long x4), (6, .long x6)]) (st2 := [.int x2, .int x3, .int x2, .ref 67]) (h2 := (sh_rep m.T (sh_u2 (sh_u2 m.I 66 43 x2) 66 44 x3) m.J)) rfl rfl rfl ?_
      refine sh_w (i := (.lload 4)) (len := 2) (pc2 := 388) (lv2 := [(0, .ref 67), (1, .int x1), (2, .int x2), (3, .int x3), (4, .long x4), (6, .long x6)]) (st2 := [.long x4, .int x2, .int x3, .int x2, .ref 67]) (h2 := (sh_rep m.T (sh_u2 (sh_u2 m.I 66 43 x2) 66 44 x3) m.J)) rfl rfl rfl ?_
      refine sh_w (i := (.lload 6)) (len := 2) (pc2 := 390) (lv2 := [(0, .ref 67), (1, .int x1), (2, .int x2), (3, .int x3), (4, .long x4), (6, .long x6)]) (st2 := [.long x6, .long x4, .int x2, .int x3, .int x2, .ref 67]) (h2 := (sh_rep m.T (sh_u2 (sh_u2 m.I 66 43 x2) 66 44 x3) m.J)) rfl rfl rfl ?_
      exact kk
    obtain ⟨r4, e4, e⟩ := sh_bc_e e
    refine sh_Lk_cS (r := (some (.long r4))) (st2 := [.long r4, .int x3, .int x2, .ref 67]) (pc2 := 393) (k2 := 308) (as := [.int x2, .long x4, .long x6]) (rest := [.int x3, .int x2, .ref 67]) rfl rfl (by decide) (Nat.le_of_ble_eq_true rfl) rfl rfl ⟨Nat.le_of_ble_eq_true rfl, Nat.le_of_ble_eq_true rfl⟩ (sl_308 e4 ⟨rfl, rfl⟩) rfl rfl (Nat.le_of_ble_eq_true rfl) (Nat.le_of_ble_eq_true rfl) ?_
    refine sh_Lk_cS (r := (some (.long (sf_288 x2 x3 r4)))) (st2 := [.long (sf_288 x2 x3 r4), .ref 67]) (pc2 := 396) (k2 := 288) (as := [.int x2, .int x3, .long r4]) (rest := [.ref 67]) rfl rfl (by decide) (Nat.le_of_ble_eq_true rfl) rfl rfl ⟨Nat.le_of_ble_eq_true rfl, Nat.le_of_ble_eq_true rfl⟩ (sl_288 (m := ⟨m.T, sh_u2 (sh_u2 m.I 66 43 x2) 66 44 x3, m.J, m.s⟩) rfl ⟨rfl, rfl⟩) rfl rfl (Nat.le_of_ble_eq_true rfl) (Nat.le_of_ble_eq_true rfl) ?_
    refine sh_Lk_lift (T := m.T) (I := sh_u2 (sh_u2 m.I 66 43 x2) 66 44 x3) (J := m.J) (s := m.s) (pc2 := 437) (lv2 := [(0, .ref 67), (1, .int x1), (2, .int x2), (3, .int x3), (4, .long x4), (6, .long x6)]) (st2 := []) (I2 := sh_u2 (sh_u2 m.I 66 43 x2) 66 44 x3) (J2 := sh_u2 m.J 66 46 (sf_288 x2 x3 r4)) (fun hT v kk => ?_) ?_
    · refine sh_pJ1 (x := sf_288 x2 x3 r4) (pc2 := 399) rfl rfl (sh_s66 hT.st) rfl rfl rfl rfl ?_
      refine sh_w (i := (.goto 38)) (len := 3) (pc2 := 437) (lv2 := [(0, .ref 67), (1, .int x1), (2, .int x2), (3, .int x3), (4, .long x4), (6, .long x6)]) (st2 := []) (h2 := (sh_rep m.T (sh_u2 (sh_u2 m.I 66 43 x2) 66 44 x3) (sh_u2 m.J 66 46 (sf_288 x2 x3 r4)))) rfl rfl rfl ?_
      exact kk
    obtain rfl := Option.some.inj e
    obtain ⟨rfl, rfl⟩ := tg
    exact sh_Lk_ret (i := .return_) rfl rfl rfl (Nat.le_of_ble_eq_true rfl) (Nat.le_of_ble_eq_true rfl)
  rcases sh_ite e with ⟨c, e⟩ | ⟨c5, e⟩
  · refine sh_Lk_lift (T := m.T) (I := sh_u2 (sh_u2 m.I 66 43 x2) 66 44 x3) (J := m.J) (s := m.s) (pc2 := 261) (lv2 := [(0, .ref 67), (1, .int x1), (2, .int x2), (3, .int x3), (4, .long x4), (6, .long x6)]) (st2 := [.long x6, .long x4, .int x2, .ref 67]) (I2 := sh_u2 (sh_u2 m.I 66 43 x2) 66 44 x3) (J2 := m.J) (fun hT v kk => ?_) ?_
    · refine sh_w (i := (.lookupswitch 391 #[(38, 154), (42, 354), (43, 320), (45, 337), (47, 371), (60, 244), (62, 259), (94, 179), (124, 129), (8509, 224), (9766, 154), (15421, 274), (15677, 204), (15933, 297), (31868, 129)])) (len := 129) (pc2 := 255) (lv2 := [(0, .ref 67), (1, .int x1), (2, .int x2), (3, .int x3), (4, .long x4), (6, .long x6)]) (st2 := []) (h2 := (sh_rep m.T (sh_u2 (sh_u2 m.I 66 43 x2) 66 44 x3) m.J)) rfl rfl (sh_sw c rfl) ?_
      refine sh_w (i := (.aload_n 0)) (len := 1) (pc2 := 256) (lv2 := [(0, .ref 67), (1, .int x1), (2, .int x2), (3, .int x3), (4, .long x4), (6, .long x6)]) (st2 := [.ref 67]) (h2 := (sh_rep m.T (sh_u2 (sh_u2 m.I 66 43 x2) 66 44 x3) m.J)) rfl rfl rfl ?_
      refine sh_w (i := (.iload_n 2)) (len := 1) (pc2 := 257) (lv2 := [(0, .ref 67), (1, .int x1), (2, .int x2), (3, .int x3), (4, .long x4), (6, .long x6)]) (st2 := [.int x2, .ref 67]) (h2 := (sh_rep m.T (sh_u2 (sh_u2 m.I 66 43 x2) 66 44 x3) m.J)) rfl rfl rfl ?_
      refine sh_w (i := (.lload 4)) (len := 2) (pc2 := 259) (lv2 := [(0, .ref 67), (1, .int x1), (2, .int x2), (3, .int x3), (4, .long x4), (6, .long x6)]) (st2 := [.long x4, .int x2, .ref 67]) (h2 := (sh_rep m.T (sh_u2 (sh_u2 m.I 66 43 x2) 66 44 x3) m.J)) rfl rfl rfl ?_
      refine sh_w (i := (.lload 6)) (len := 2) (pc2 := 261) (lv2 := [(0, .ref 67), (1, .int x1), (2, .int x2), (3, .int x3), (4, .long x4), (6, .long x6)]) (st2 := [.long x6, .long x4, .int x2, .ref 67]) (h2 := (sh_rep m.T (sh_u2 (sh_u2 m.I 66 43 x2) 66 44 x3) m.J)) rfl rfl rfl ?_
      exact kk
    refine sh_Lk_cS (r := (some (.int (sh_b2 (sf_307 x2 x4 x6))))) (st2 := [.int (sh_b2 (sf_307 x2 x4 x6)), .ref 67]) (pc2 := 264) (k2 := 307) (as := [.int x2, .long x4, .long x6]) (rest := [.ref 67]) rfl rfl (by decide) (Nat.le_of_ble_eq_true rfl) rfl rfl ⟨Nat.le_of_ble_eq_true rfl, Nat.le_of_ble_eq_true rfl⟩ (sl_307 (m := ⟨m.T, sh_u2 (sh_u2 m.I 66 43 x2) 66 44 x3, m.J, m.s⟩) rfl ⟨rfl, rfl⟩) rfl rfl (Nat.le_of_ble_eq_true rfl) (Nat.le_of_ble_eq_true rfl) ?_
    obtain ⟨r7, m17, e7, e⟩ := sh_bn_e e
    refine sh_Lk_cV (r := none) (st2 := []) (pc2 := 267) (k2 := 306) (a := 66) (as := [.ref 67, .int (sh_b2 (sf_307 x2 x4 x6))]) (rest := []) rfl rfl rfl (fun hT => (sh_s66 hT.st)) rfl rfl ⟨Nat.le_of_ble_eq_true rfl, Nat.le_of_ble_eq_true rfl⟩ (sl_306 e7 ⟨rfl, rfl⟩) rfl rfl (Nat.le_of_ble_eq_true rfl) (Nat.le_of_ble_eq_true rfl) ?_
    refine sh_Lk_lift (T := m17.T) (I := m17.I) (J := m17.J) (s := m17.s) (pc2 := 437) (lv2 := [(0, .ref 67), (1, .int x1), (2, .int x2), (3, .int x3), (4, .long x4), (6, .long x6)]) (st2 := []) (I2 := m17.I) (J2 := m17.J) (fun hT v kk => ?_) ?_
    · refine sh_w (i := (.goto 170)) (len := 3) (pc2 := 437) (lv2 := [(0, .ref 67), (1, .int x1), (2, .int x2), (3, .int x3), (4, .long x4), (6, .long x6)]) (st2 := []) (h2 := (sh_rep m17.T m17.I m17.J)) rfl rfl rfl ?_
      exact kk
    obtain rfl := Option.some.inj e
    obtain ⟨rfl, rfl⟩ := tg
    exact sh_Lk_ret (i := .return_) rfl rfl rfl (Nat.le_of_ble_eq_true rfl) (Nat.le_of_ble_eq_true rfl)
  rcases sh_ite e with ⟨c, e⟩ | ⟨c6, e⟩
  · refine sh_Lk_lift (T := m.T) (I := sh_u2 (sh_u2 m.I 66 43 x2) 66 44 x3) (J := m.J) (s := m.s) (pc2 := 276) (lv2 := [(0, .ref 67), (1, .int x1), (2, .int x2), (3, .int x3), (4, .long x4), (6, .long x6)]) (st2 := [.long x4, .long x6, .int x2, .ref 67]) (I2 := sh_u2 (sh_u2 m.I 66 43 x2) 66 44 x3) (J2 := m.J) (fun hT v kk => ?_) ?_
    · refine sh_w (i := (.lookupswitch 391 #[(38, 154), (42, 354), (43, 320), (45, 337), (47, 371), (60, 244), (62, 259), (94, 179), (124, 129), (8509, 224), (9766, 154), (15421, 274), (15677, 204), (15933, 297), (31868, 129)])) (len := 129) (pc2 := 270) (lv2 := [(0, .ref 67), (1, .int x1), (2, .int x2), (3, .int x3), (4, .long x4), (6, .long x6)]) (st2 := []) (h2 := (sh_rep m.T (sh_u2 (sh_u2 m.I 66 43 x2) 66 44 x3) m.J)) rfl rfl (sh_sw c rfl) ?_
      refine sh_w (i := (.aload_n 0)) (len := 1) (pc2 := 271) (lv2 := [(0, .ref 67), (1, .int x1), (2, .int x2), (3, .int x3), (4, .long x4), (6, .long x6)]) (st2 := [.ref 67]) (h2 := (sh_rep m.T (sh_u2 (sh_u2 m.I 66 43 x2) 66 44 x3) m.J)) rfl rfl rfl ?_
      refine sh_w (i := (.iload_n 2)) (len := 1) (pc2 := 272) (lv2 := [(0, .ref 67), (1, .int x1), (2, .int x2), (3, .int x3), (4, .long x4), (6, .long x6)]) (st2 := [.int x2, .ref 67]) (h2 := (sh_rep m.T (sh_u2 (sh_u2 m.I 66 43 x2) 66 44 x3) m.J)) rfl rfl rfl ?_
      refine sh_w (i := (.lload 6)) (len := 2) (pc2 := 274) (lv2 := [(0, .ref 67), (1, .int x1), (2, .int x2), (3, .int x3), (4, .long x4), (6, .long x6)]) (st2 := [.long x6, .int x2, .ref 67]) (h2 := (sh_rep m.T (sh_u2 (sh_u2 m.I 66 43 x2) 66 44 x3) m.J)) rfl rfl rfl ?_
      refine sh_w (i := (.lload 4)) (len := 2) (pc2 := 276) (lv2 := [(0, .ref 67), (1, .int x1), (2, .int x2), (3, .int x3), (4, .long x4), (6, .long x6)]) (st2 := [.long x4, .long x6, .int x2, .ref 67]) (h2 := (sh_rep m.T (sh_u2 (sh_u2 m.I 66 43 x2) 66 44 x3) m.J)) rfl rfl rfl ?_
      exact kk
    refine sh_Lk_cS (r := (some (.int (sh_b2 (sf_307 x2 x6 x4))))) (st2 := [.int (sh_b2 (sf_307 x2 x6 x4)), .ref 67]) (pc2 := 279) (k2 := 307) (as := [.int x2, .long x6, .long x4]) (rest := [.ref 67]) rfl rfl (by decide) (Nat.le_of_ble_eq_true rfl) rfl rfl ⟨Nat.le_of_ble_eq_true rfl, Nat.le_of_ble_eq_true rfl⟩ (sl_307 (m := ⟨m.T, sh_u2 (sh_u2 m.I 66 43 x2) 66 44 x3, m.J, m.s⟩) rfl ⟨rfl, rfl⟩) rfl rfl (Nat.le_of_ble_eq_true rfl) (Nat.le_of_ble_eq_true rfl) ?_
    obtain ⟨r9, m19, e9, e⟩ := sh_bn_e e
    refine sh_Lk_cV (r := none) (st2 := []) (pc2 := 282) (k2 := 306) (a := 66) (as := [.ref 67, .int (sh_b2 (sf_307 x2 x6 x4))]) (rest := []) rfl rfl rfl (fun hT => (sh_s66 hT.st)) rfl rfl ⟨Nat.le_of_ble_eq_true rfl, Nat.le_of_ble_eq_true rfl⟩ (sl_306 e9 ⟨rfl, rfl⟩) rfl rfl (Nat.le_of_ble_eq_true rfl) (Nat.le_of_ble_eq_true rfl) ?_
    refine sh_Lk_lift (T := m19.T) (I := m19.I) (J := m19.J) (s := m19.s) (pc2 := 437) (lv2 := [(0, .ref 67), (1, .int x1), (2, .int x2), (3, .int x3), (4, .long x4), (6, .long x6)]) (st2 := []) (I2 := m19.I) (J2 := m19.J) (fun hT v kk => ?_) ?_
    · refine sh_w (i := (.goto 155)) (len := 3) (pc2 := 437) (lv2 := [(0, .ref 67), (1, .int x1), (2, .int x2), (3, .int x3), (4, .long x4), (6, .long x6)]) (st2 := []) (h2 := (sh_rep m19.T m19.I m19.J)) rfl rfl rfl ?_
      exact kk
    obtain rfl := Option.some.inj e
    obtain ⟨rfl, rfl⟩ := tg
    exact sh_Lk_ret (i := .return_) rfl rfl rfl (Nat.le_of_ble_eq_true rfl) (Nat.le_of_ble_eq_true rfl)
  rcases sh_ite e with ⟨c, e⟩ | ⟨c7, e⟩
  · refine sh_Lk_lift (T := m.T) (I := sh_u2 (sh_u2 m.I 66 43 x2) 66 44 x3) (J := m.J) (s := m.s) (pc2 := 192) (lv2 := [(0, .ref 67), (1, .int x1), (2, .int x2), (3, .int x3), (4, .long x4), (6, .long x6)]) (st2 := [.int x2, .ref 67]) (I2 := sh_u2 (sh_u2 m.I 66 43 x2) 66 44 x3) (J2 := m.J) (fun hT v kk => ?_) ?_
    · refine sh_w (i := (.lookupswitch 391 #[(38, 154), (42, 354), (43, 320), (45, 337), (47, 371), (60, 244), (62, 259), (94, 179), (124, 129), (8509, 224), (9766, 154), (15421, 274), (15677, 204), (15933, 297), (31868, 129)])) (len := 129) (pc2 := 190) (lv2 := [(0, .ref 67), (1, .int x1), (2, .int x2), (3, .int x3), (4, .long x4), (6, .long x6)]) (st2 := []) (h2 := (sh_rep m.T (sh_u2 (sh_u2 m.I 66 43 x2) 66 44 x3) m.J)) rfl rfl (sh_sw c rfl) ?_
      refine sh_w (i := (.aload_n 0)) (len := 1) (pc2 := 191) (lv2 := [(0, .ref 67), (1, .int x1), (2, .int x2), (3, .int x3), (4, .long x4), (6, .long x6)]) (st2 := [.ref 67]) (h2 := (sh_rep m.T (sh_u2 (sh_u2 m.I 66 43 x2) 66 44 x3) m.J)) rfl rfl rfl ?_
      refine sh_w (i := (.iload_n 2)) (len := 1) (pc2 := 192) (lv2 := [(0, .ref 67), (1, .int x1), (2, .int x2), (3, .int x3), (4, .long x4), (6, .long x6)]) (st2 := [.int x2, .ref 67]) (h2 := (sh_rep m.T (sh_u2 (sh_u2 m.I 66 43 x2) 66 44 x3) m.J)) rfl rfl rfl ?_
      exact kk
    rcases sh_ite e with ⟨c, e⟩ | ⟨c, e⟩
    · refine sh_Lk_lift (T := m.T) (I := sh_u2 (sh_u2 m.I 66 43 x2) 66 44 x3) (J := m.J) (s := m.s) (pc2 := 200) (lv2 := [(0, .ref 67), (1, .int x1), (2, .int x2), (3, .int x3), (4, .long x4), (6, .long x6)]) (st2 := [.int 1, .ref 67]) (I2 := sh_u2 (sh_u2 m.I 66 43 x2) 66 44 x3) (J2 := m.J) (fun hT v kk => ?_) ?_
      · refine sh_j0 (c := .ne) (off := (7)) (pc2 := 195) false rfl (sh_Bnef c) rfl ?_
        refine sh_w (i := (.iconst 1)) (len := 1) (pc2 := 196) (lv2 := [(0, .ref 67), (1, .int x1), (2, .int x2), (3, .int x3), (4, .long x4), (6, .long x6)]) (st2 := [.int 1, .ref 67]) (h2 := (sh_rep m.T (sh_u2 (sh_u2 m.I 66 43 x2) 66 44 x3) m.J)) rfl rfl rfl ?_
        refine sh_w (i := (.goto 4)) (len := 3) (pc2 := 200) (lv2 := [(0, .ref 67), (1, .int x1), (2, .int x2), (3, .int x3), (4, .long x4), (6, .long x6)]) (st2 := [.int 1, .ref 67]) (h2 := (sh_rep m.T (sh_u2 (sh_u2 m.I 66 43 x2) 66 44 x3) m.J)) rfl rfl rfl ?_
        exact kk
      exact sh_Lk_sub (sh_sub_c rfl (sh_sub_c rfl (sh_sub_c rfl (sh_sub_n)))) (sl_305_200 e tg)
    · refine sh_Lk_lift (T := m.T) (I := sh_u2 (sh_u2 m.I 66 43 x2) 66 44 x3) (J := m.J) (s := m.s) (pc2 := 200) (lv2 := [(0, .ref 67), (1, .int x1), (2, .int x2), (3, .int x3), (4, .long x4), (6, .long x6)]) (st2 := [.int x2, .ref 67]) (I2 := sh_u2 (sh_u2 m.I 66 43 x2) 66 44 x3) (J2 := m.J) (fun hT v kk => ?_) ?_
      · refine sh_j0 (c := .ne) (off := (7)) (pc2 := 199) true rfl (sh_Bnet c) rfl ?_
        refine sh_w (i := (.iload_n 2)) (len := 1) (pc2 := 200) (lv2 := [(0, .ref 67), (1, .int x1), (2, .int x2), (3, .int x3), (4, .long x4), (6, .long x6)]) (st2 := [.int x2, .ref 67]) (h2 := (sh_rep m.T (sh_u2 (sh_u2 m.I 66 43 x2) 66 44 x3) m.J)) rfl rfl rfl ?_
        exact kk
      exact sh_Lk_sub (sh_sub_c rfl (sh_sub_c rfl (sh_sub_c rfl (sh_sub_n)))) (sl_305_200 e tg)
  rcases sh_ite e with ⟨c, e⟩ | ⟨c8, e⟩
  · refine sh_Lk_lift (T := m.T) (I := sh_u2 (sh_u2 m.I 66 43 x2) 66 44 x3) (J := m.J) (s := m.s) (pc2 := 142) (lv2 := [(0, .ref 67), (1, .int x1), (2, .int x2), (3, .int x3), (4, .long x4), (6, .long x6)]) (st2 := [.int x2, .ref 67]) (I2 := sh_u2 (sh_u2 m.I 66 43 x2) 66 44 x3) (J2 := m.J) (fun hT v kk => ?_) ?_
    · refine sh_w (i := (.lookupswitch 391 #[(38, 154), (42, 354), (43, 320), (45, 337), (47, 371), (60, 244), (62, 259), (94, 179), (124, 129), (8509, 224), (9766, 154), (15421, 274), (15677, 204), (15933, 297), (31868, 129)])) (len := 129) (pc2 := 140) (lv2 := [(0, .ref 67), (1, .int x1), (2, .int x2), (3, .int x3), (4, .long x4), (6, .long x6)]) (st2 := []) (h2 := (sh_rep m.T (sh_u2 (sh_u2 m.I 66 43 x2) 66 44 x3) m.J)) rfl rfl (c.elim (fun c => sh_sw c rfl) (fun c => sh_sw c rfl)) ?_
      refine sh_w (i := (.aload_n 0)) (len := 1) (pc2 := 141) (lv2 := [(0, .ref 67), (1, .int x1), (2, .int x2), (3, .int x3), (4, .long x4), (6, .long x6)]) (st2 := [.ref 67]) (h2 := (sh_rep m.T (sh_u2 (sh_u2 m.I 66 43 x2) 66 44 x3) m.J)) rfl rfl rfl ?_
      refine sh_w (i := (.iload_n 2)) (len := 1) (pc2 := 142) (lv2 := [(0, .ref 67), (1, .int x1), (2, .int x2), (3, .int x3), (4, .long x4), (6, .long x6)]) (st2 := [.int x2, .ref 67]) (h2 := (sh_rep m.T (sh_u2 (sh_u2 m.I 66 43 x2) 66 44 x3) m.J)) rfl rfl rfl ?_
      exact kk
    rcases sh_ite e with ⟨c, e⟩ | ⟨c, e⟩
    · refine sh_Lk_lift (T := m.T) (I := sh_u2 (sh_u2 m.I 66 43 x2) 66 44 x3) (J := m.J) (s := m.s) (pc2 := 150) (lv2 := [(0, .ref 67), (1, .int x1), (2, .int x2), (3, .int x3), (4, .long x4), (6, .long x6)]) (st2 := [.int 1, .ref 67]) (I2 := sh_u2 (sh_u2 m.I 66 43 x2) 66 44 x3) (J2 := m.J) (fun hT v kk => ?_) ?_
      · refine sh_j0 (c := .ne) (off := (7)) (pc2 := 145) false rfl (sh_Bnef c) rfl ?_
        refine sh_w (i := (.iconst 1)) (len := 1) (pc2 := 146) (lv2 := [(0, .ref 67), (1, .int x1), (2, .int x2), (3, .int x3), (4, .long x4), (6, .long x6)]) (st2 := [.int 1, .ref 67]) (h2 := (sh_rep m.T (sh_u2 (sh_u2 m.I 66 43 x2) 66 44 x3) m.J)) rfl rfl rfl ?_
        refine sh_w (i := (.goto 4)) (len := 3) (pc2 := 150) (lv2 := [(0, .ref 67), (1, .int x1), (2, .int x2), (3, .int x3), (4, .long x4), (6, .long x6)]) (st2 := [.int 1, .ref 67]) (h2 := (sh_rep m.T (sh_u2 (sh_u2 m.I 66 43 x2) 66 44 x3) m.J)) rfl rfl rfl ?_
        exact kk
      exact sh_Lk_sub (sh_sub_c rfl (sh_sub_c rfl (sh_sub_c rfl (sh_sub_n)))) (sl_305_150 e tg)
    · refine sh_Lk_lift (T := m.T) (I := sh_u2 (sh_u2 m.I 66 43 x2) 66 44 x3) (J := m.J) (s := m.s) (pc2 := 150) (lv2 := [(0, .ref 67), (1, .int x1), (2, .int x2), (3, .int x3), (4, .long x4), (6, .long x6)]) (st2 := [.int x2, .ref 67]) (I2 := sh_u2 (sh_u2 m.I 66 43 x2) 66 44 x3) (J2 := m.J) (fun hT v kk => ?_) ?_
      · refine sh_j0 (c := .ne) (off := (7)) (pc2 := 149) true rfl (sh_Bnet c) rfl ?_
        refine sh_w (i := (.iload_n 2)) (len := 1) (pc2 := 150) (lv2 := [(0, .ref 67), (1, .int x1), (2, .int x2), (3, .int x3), (4, .long x4), (6, .long x6)]) (st2 := [.int x2, .ref 67]) (h2 := (sh_rep m.T (sh_u2 (sh_u2 m.I 66 43 x2) 66 44 x3) m.J)) rfl rfl rfl ?_
        exact kk
      exact sh_Lk_sub (sh_sub_c rfl (sh_sub_c rfl (sh_sub_c rfl (sh_sub_n)))) (sl_305_150 e tg)
  rcases sh_ite e with ⟨c, e⟩ | ⟨c9, e⟩
  · refine sh_Lk_lift (T := m.T) (I := sh_u2 (sh_u2 m.I 66 43 x2) 66 44 x3) (J := m.J) (s := m.s) (pc2 := 241) (lv2 := [(0, .ref 67), (1, .int x1), (2, .int x2), (3, .int x3), (4, .long x4), (6, .long x6)]) (st2 := [.int (lg_cmp x4 x6), .ref 67]) (I2 := sh_u2 (sh_u2 m.I 66 43 x2) 66 44 x3) (J2 := m.J) (fun hT v kk => ?_) ?_
    · refine sh_w (i := (.lookupswitch 391 #[(38, 154), (42, 354), (43, 320), (45, 337), (47, 371), (60, 244), (62, 259), (94, 179), (124, 129), (8509, 224), (9766, 154), (15421, 274), (15677, 204), (15933, 297), (31868, 129)])) (len := 129) (pc2 := 235) (lv2 := [(0, .ref 67), (1, .int x1), (2, .int x2), (3, .int x3), (4, .long x4), (6, .long x6)]) (st2 := []) (h2 := (sh_rep m.T (sh_u2 (sh_u2 m.I 66 43 x2) 66 44 x3) m.J)) rfl rfl (sh_sw c rfl) ?_
      refine sh_w (i := (.aload_n 0)) (len := 1) (pc2 := 236) (lv2 := [(0, .ref 67), (1, .int x1), (2, .int x2), (3, .int x3), (4, .long x4), (6, .long x6)]) (st2 := [.ref 67]) (h2 := (sh_rep m.T (sh_u2 (sh_u2 m.I 66 43 x2) 66 44 x3) m.J)) rfl rfl rfl ?_
      refine sh_w (i := (.lload 4)) (len := 2) (pc2 := 238) (lv2 := [(0, .ref 67), (1, .int x1), (2, .int x2), (3, .int x3), (4, .long x4), (6, .long x6)]) (st2 := [.long x4, .ref 67]) (h2 := (sh_rep m.T (sh_u2 (sh_u2 m.I 66 43 x2) 66 44 x3) m.J)) rfl rfl rfl ?_
      refine sh_w (i := (.lload 6)) (len := 2) (pc2 := 240) (lv2 := [(0, .ref 67), (1, .int x1), (2, .int x2), (3, .int x3), (4, .long x4), (6, .long x6)]) (st2 := [.long x6, .long x4, .ref 67]) (h2 := (sh_rep m.T (sh_u2 (sh_u2 m.I 66 43 x2) 66 44 x3) m.J)) rfl rfl rfl ?_
      refine sh_w (i := .lcmp) (len := 1) (pc2 := 241) (lv2 := [(0, .ref 67), (1, .int x1), (2, .int x2), (3, .int x3), (4, .long x4), (6, .long x6)]) (st2 := [.int (lg_cmp x4 x6), .ref 67]) (h2 := (sh_rep m.T (sh_u2 (sh_u2 m.I 66 43 x2) 66 44 x3) m.J)) rfl rfl rfl ?_
      exact kk
    rcases sh_ite e with ⟨c, e⟩ | ⟨c, e⟩
    · refine sh_Lk_lift (T := m.T) (I := sh_u2 (sh_u2 m.I 66 43 x2) 66 44 x3) (J := m.J) (s := m.s) (pc2 := 249) (lv2 := [(0, .ref 67), (1, .int x1), (2, .int x2), (3, .int x3), (4, .long x4), (6, .long x6)]) (st2 := [.int 0, .ref 67]) (I2 := sh_u2 (sh_u2 m.I 66 43 x2) 66 44 x3) (J2 := m.J) (fun hT v kk => ?_) ?_
      · refine sh_j0 (c := .eq) (off := (7)) (pc2 := 248) true rfl (sh_Ceqt c) rfl ?_
        refine sh_w (i := (.iconst 0)) (len := 1) (pc2 := 249) (lv2 := [(0, .ref 67), (1, .int x1), (2, .int x2), (3, .int x3), (4, .long x4), (6, .long x6)]) (st2 := [.int 0, .ref 67]) (h2 := (sh_rep m.T (sh_u2 (sh_u2 m.I 66 43 x2) 66 44 x3) m.J)) rfl rfl rfl ?_
        exact kk
      exact sh_Lk_sub (sh_sub_n) (sl_305_249 e tg)
    · refine sh_Lk_lift (T := m.T) (I := sh_u2 (sh_u2 m.I 66 43 x2) 66 44 x3) (J := m.J) (s := m.s) (pc2 := 249) (lv2 := [(0, .ref 67), (1, .int x1), (2, .int x2), (3, .int x3), (4, .long x4), (6, .long x6)]) (st2 := [.int 1, .ref 67]) (I2 := sh_u2 (sh_u2 m.I 66 43 x2) 66 44 x3) (J2 := m.J) (fun hT v kk => ?_) ?_
      · refine sh_j0 (c := .eq) (off := (7)) (pc2 := 244) false rfl (sh_Ceqf c) rfl ?_
        refine sh_w (i := (.iconst 1)) (len := 1) (pc2 := 245) (lv2 := [(0, .ref 67), (1, .int x1), (2, .int x2), (3, .int x3), (4, .long x4), (6, .long x6)]) (st2 := [.int 1, .ref 67]) (h2 := (sh_rep m.T (sh_u2 (sh_u2 m.I 66 43 x2) 66 44 x3) m.J)) rfl rfl rfl ?_
        refine sh_w (i := (.goto 4)) (len := 3) (pc2 := 249) (lv2 := [(0, .ref 67), (1, .int x1), (2, .int x2), (3, .int x3), (4, .long x4), (6, .long x6)]) (st2 := [.int 1, .ref 67]) (h2 := (sh_rep m.T (sh_u2 (sh_u2 m.I 66 43 x2) 66 44 x3) m.J)) rfl rfl rfl ?_
        exact kk
      exact sh_Lk_sub (sh_sub_n) (sl_305_249 e tg)
  rcases sh_ite e with ⟨c, e⟩ | ⟨c10, e⟩
  · refine sh_Lk_lift (T := m.T) (I := sh_u2 (sh_u2 m.I 66 43 x2) 66 44 x3) (J := m.J) (s := m.s) (pc2 := 291) (lv2 := [(0, .ref 67), (1, .int x1), (2, .int x2), (3, .int x3), (4, .long x4), (6, .long x6)]) (st2 := [.long x4, .long x6, .int x2, .ref 67]) (I2 := sh_u2 (sh_u2 m.I 66 43 x2) 66 44 x3) (J2 := m.J) (fun hT v kk => ?_) ?_
    · refine sh_w (i := (.lookupswitch 391 #[(38, 154), (42, 354), (43, 320), (45, 337), (47, 371), (60, 244), (62, 259), (94, 179), (124, 129), (8509, 224), (9766, 154), (15421, 274), (15677, 204), (15933, 297), (31868, 129)])) (len := 129) (pc2 := 285) (lv2 := [(0, .ref 67), (1, .int x1), (2, .int x2), (3, .int x3), (4, .long x4), (6, .long x6)]) (st2 := []) (h2 := (sh_rep m.T (sh_u2 (sh_u2 m.I 66 43 x2) 66 44 x3) m.J)) rfl rfl (sh_sw c rfl) ?_
      refine sh_w (i := (.aload_n 0)) (len := 1) (pc2 := 286) (lv2 := [(0, .ref 67), (1, .int x1), (2, .int x2), (3, .int x3), (4, .long x4), (6, .long x6)]) (st2 := [.ref 67]) (h2 := (sh_rep m.T (sh_u2 (sh_u2 m.I 66 43 x2) 66 44 x3) m.J)) rfl rfl rfl ?_
      refine sh_w (i := (.iload_n 2)) (len := 1) (pc2 := 287) (lv2 := [(0, .ref 67), (1, .int x1), (2, .int x2), (3, .int x3), (4, .long x4), (6, .long x6)]) (st2 := [.int x2, .ref 67]) (h2 := (sh_rep m.T (sh_u2 (sh_u2 m.I 66 43 x2) 66 44 x3) m.J)) rfl rfl rfl ?_
      refine sh_w (i := (.lload 6)) (len := 2) (pc2 := 289) (lv2 := [(0, .ref 67), (1, .int x1), (2, .int x2), (3, .int x3), (4, .long x4), (6, .long x6)]) (st2 := [.long x6, .int x2, .ref 67]) (h2 := (sh_rep m.T (sh_u2 (sh_u2 m.I 66 43 x2) 66 44 x3) m.J)) rfl rfl rfl ?_
      refine sh_w (i := (.lload 4)) (len := 2) (pc2 := 291) (lv2 := [(0, .ref 67), (1, .int x1), (2, .int x2), (3, .int x3), (4, .long x4), (6, .long x6)]) (st2 := [.long x4, .long x6, .int x2, .ref 67]) (h2 := (sh_rep m.T (sh_u2 (sh_u2 m.I 66 43 x2) 66 44 x3) m.J)) rfl rfl rfl ?_
      exact kk
    refine sh_Lk_cS (r := (some (.int (sh_b2 (sf_307 x2 x6 x4))))) (st2 := [.int (sh_b2 (sf_307 x2 x6 x4)), .ref 67]) (pc2 := 294) (k2 := 307) (as := [.int x2, .long x6, .long x4]) (rest := [.ref 67]) rfl rfl (by decide) (Nat.le_of_ble_eq_true rfl) rfl rfl ⟨Nat.le_of_ble_eq_true rfl, Nat.le_of_ble_eq_true rfl⟩ (sl_307 (m := ⟨m.T, sh_u2 (sh_u2 m.I 66 43 x2) 66 44 x3, m.J, m.s⟩) rfl ⟨rfl, rfl⟩) rfl rfl (Nat.le_of_ble_eq_true rfl) (Nat.le_of_ble_eq_true rfl) ?_
    rcases sh_ite e with ⟨c, e⟩ | ⟨c, e⟩
    · refine sh_Lk_lift (T := m.T) (I := sh_u2 (sh_u2 m.I 66 43 x2) 66 44 x3) (J := m.J) (s := m.s) (pc2 := 302) (lv2 := [(0, .ref 67), (1, .int x1), (2, .int x2), (3, .int x3), (4, .long x4), (6, .long x6)]) (st2 := [.int 0, .ref 67]) (I2 := sh_u2 (sh_u2 m.I 66 43 x2) 66 44 x3) (J2 := m.J) (fun hT v kk => ?_) ?_
      · refine sh_j0 (c := .ne) (off := (7)) (pc2 := 301) true rfl (sh_Znet c) rfl ?_
        refine sh_w (i := (.iconst 0)) (len := 1) (pc2 := 302) (lv2 := [(0, .ref 67), (1, .int x1), (2, .int x2), (3, .int x3), (4, .long x4), (6, .long x6)]) (st2 := [.int 0, .ref 67]) (h2 := (sh_rep m.T (sh_u2 (sh_u2 m.I 66 43 x2) 66 44 x3) m.J)) rfl rfl rfl ?_
        exact kk
      exact sh_Lk_sub (sh_sub_n) (sl_305_302 e tg)
    · refine sh_Lk_lift (T := m.T) (I := sh_u2 (sh_u2 m.I 66 43 x2) 66 44 x3) (J := m.J) (s := m.s) (pc2 := 302) (lv2 := [(0, .ref 67), (1, .int x1), (2, .int x2), (3, .int x3), (4, .long x4), (6, .long x6)]) (st2 := [.int 1, .ref 67]) (I2 := sh_u2 (sh_u2 m.I 66 43 x2) 66 44 x3) (J2 := m.J) (fun hT v kk => ?_) ?_
      · refine sh_j0 (c := .ne) (off := (7)) (pc2 := 297) false rfl (sh_Znef c) rfl ?_
        refine sh_w (i := (.iconst 1)) (len := 1) (pc2 := 298) (lv2 := [(0, .ref 67), (1, .int x1), (2, .int x2), (3, .int x3), (4, .long x4), (6, .long x6)]) (st2 := [.int 1, .ref 67]) (h2 := (sh_rep m.T (sh_u2 (sh_u2 m.I 66 43 x2) 66 44 x3) m.J)) rfl rfl rfl ?_
        refine sh_w (i := (.goto 4)) (len := 3) (pc2 := 302) (lv2 := [(0, .ref 67), (1, .int x1), (2, .int x2), (3, .int x3), (4, .long x4), (6, .long x6)]) (st2 := [.int 1, .ref 67]) (h2 := (sh_rep m.T (sh_u2 (sh_u2 m.I 66 43 x2) 66 44 x3) m.J)) rfl rfl rfl ?_
        exact kk
      exact sh_Lk_sub (sh_sub_n) (sl_305_302 e tg)
  rcases sh_ite e with ⟨c, e⟩ | ⟨c11, e⟩
  · refine sh_Lk_lift (T := m.T) (I := sh_u2 (sh_u2 m.I 66 43 x2) 66 44 x3) (J := m.J) (s := m.s) (pc2 := 221) (lv2 := [(0, .ref 67), (1, .int x1), (2, .int x2), (3, .int x3), (4, .long x4), (6, .long x6)]) (st2 := [.int (lg_cmp x4 x6), .ref 67]) (I2 := sh_u2 (sh_u2 m.I 66 43 x2) 66 44 x3) (J2 := m.J) (fun hT v kk => ?_) ?_
    · refine sh_w (i := (.lookupswitch 391 #[(38, 154), (42, 354), (43, 320), (45, 337), (47, 371), (60, 244), (62, 259), (94, 179), (124, 129), (8509, 224), (9766, 154), (15421, 274), (15677, 204), (15933, 297), (31868, 129)])) (len := 129) (pc2 := 215) (lv2 := [(0, .ref 67), (1, .int x1), (2, .int x2), (3, .int x3), (4, .long x4), (6, .long x6)]) (st2 := []) (h2 := (sh_rep m.T (sh_u2 (sh_u2 m.I 66 43 x2) 66 44 x3) m.J)) rfl rfl (sh_sw c rfl) ?_
      refine sh_w (i := (.aload_n 0)) (len := 1) (pc2 := 216) (lv2 := [(0, .ref 67), (1, .int x1), (2, .int x2), (3, .int x3), (4, .long x4), (6, .long x6)]) (st2 := [.ref 67]) (h2 := (sh_rep m.T (sh_u2 (sh_u2 m.I 66 43 x2) 66 44 x3) m.J)) rfl rfl rfl ?_
      refine sh_w (i := (.lload 4)) (len := 2) (pc2 := 218) (lv2 := [(0, .ref 67), (1, .int x1), (2, .int x2), (3, .int x3), (4, .long x4), (6, .long x6)]) (st2 := [.long x4, .ref 67]) (h2 := (sh_rep m.T (sh_u2 (sh_u2 m.I 66 43 x2) 66 44 x3) m.J)) rfl rfl rfl ?_
      refine sh_w (i := (.lload 6)) (len := 2) (pc2 := 220) (lv2 := [(0, .ref 67), (1, .int x1), (2, .int x2), (3, .int x3), (4, .long x4), (6, .long x6)]) (st2 := [.long x6, .long x4, .ref 67]) (h2 := (sh_rep m.T (sh_u2 (sh_u2 m.I 66 43 x2) 66 44 x3) m.J)) rfl rfl rfl ?_
      refine sh_w (i := .lcmp) (len := 1) (pc2 := 221) (lv2 := [(0, .ref 67), (1, .int x1), (2, .int x2), (3, .int x3), (4, .long x4), (6, .long x6)]) (st2 := [.int (lg_cmp x4 x6), .ref 67]) (h2 := (sh_rep m.T (sh_u2 (sh_u2 m.I 66 43 x2) 66 44 x3) m.J)) rfl rfl rfl ?_
      exact kk
    rcases sh_ite e with ⟨c, e⟩ | ⟨c, e⟩
    · refine sh_Lk_lift (T := m.T) (I := sh_u2 (sh_u2 m.I 66 43 x2) 66 44 x3) (J := m.J) (s := m.s) (pc2 := 229) (lv2 := [(0, .ref 67), (1, .int x1), (2, .int x2), (3, .int x3), (4, .long x4), (6, .long x6)]) (st2 := [.int 1, .ref 67]) (I2 := sh_u2 (sh_u2 m.I 66 43 x2) 66 44 x3) (J2 := m.J) (fun hT v kk => ?_) ?_
      · refine sh_j0 (c := .ne) (off := (7)) (pc2 := 224) false rfl (sh_Cnef c) rfl ?_
        refine sh_w (i := (.iconst 1)) (len := 1) (pc2 := 225) (lv2 := [(0, .ref 67), (1, .int x1), (2, .int x2), (3, .int x3), (4, .long x4), (6, .long x6)]) (st2 := [.int 1, .ref 67]) (h2 := (sh_rep m.T (sh_u2 (sh_u2 m.I 66 43 x2) 66 44 x3) m.J)) rfl rfl rfl ?_
        refine sh_w (i := (.goto 4)) (len := 3) (pc2 := 229) (lv2 := [(0, .ref 67), (1, .int x1), (2, .int x2), (3, .int x3), (4, .long x4), (6, .long x6)]) (st2 := [.int 1, .ref 67]) (h2 := (sh_rep m.T (sh_u2 (sh_u2 m.I 66 43 x2) 66 44 x3) m.J)) rfl rfl rfl ?_
        exact kk
      exact sh_Lk_sub (sh_sub_n) (sl_305_229 e tg)
    · refine sh_Lk_lift (T := m.T) (I := sh_u2 (sh_u2 m.I 66 43 x2) 66 44 x3) (J := m.J) (s := m.s) (pc2 := 229) (lv2 := [(0, .ref 67), (1, .int x1), (2, .int x2), (3, .int x3), (4, .long x4), (6, .long x6)]) (st2 := [.int 0, .ref 67]) (I2 := sh_u2 (sh_u2 m.I 66 43 x2) 66 44 x3) (J2 := m.J) (fun hT v kk => ?_) ?_
      · refine sh_j0 (c := .ne) (off := (7)) (pc2 := 228) true rfl (sh_Cnet c) rfl ?_
        refine sh_w (i := (.iconst 0)) (len := 1) (pc2 := 229) (lv2 := [(0, .ref 67), (1, .int x1), (2, .int x2), (3, .int x3), (4, .long x4), (6, .long x6)]) (st2 := [.int 0, .ref 67]) (h2 := (sh_rep m.T (sh_u2 (sh_u2 m.I 66 43 x2) 66 44 x3) m.J)) rfl rfl rfl ?_
        exact kk
      exact sh_Lk_sub (sh_sub_n) (sl_305_229 e tg)
  rcases sh_ite e with ⟨c, e⟩ | ⟨c12, e⟩
  · refine sh_Lk_lift (T := m.T) (I := sh_u2 (sh_u2 m.I 66 43 x2) 66 44 x3) (J := m.J) (s := m.s) (pc2 := 314) (lv2 := [(0, .ref 67), (1, .int x1), (2, .int x2), (3, .int x3), (4, .long x4), (6, .long x6)]) (st2 := [.long x6, .long x4, .int x2, .ref 67]) (I2 := sh_u2 (sh_u2 m.I 66 43 x2) 66 44 x3) (J2 := m.J) (fun hT v kk => ?_) ?_
    · refine sh_w (i := (.lookupswitch 391 #[(38, 154), (42, 354), (43, 320), (45, 337), (47, 371), (60, 244), (62, 259), (94, 179), (124, 129), (8509, 224), (9766, 154), (15421, 274), (15677, 204), (15933, 297), (31868, 129)])) (len := 129) (pc2 := 308) (lv2 := [(0, .ref 67), (1, .int x1), (2, .int x2), (3, .int x3), (4, .long x4), (6, .long x6)]) (st2 := []) (h2 := (sh_rep m.T (sh_u2 (sh_u2 m.I 66 43 x2) 66 44 x3) m.J)) rfl rfl (sh_sw c rfl) ?_
      refine sh_w (i := (.aload_n 0)) (len := 1) (pc2 := 309) (lv2 := [(0, .ref 67), (1, .int x1), (2, .int x2), (3, .int x3), (4, .long x4), (6, .long x6)]) (st2 := [.ref 67]) (h2 := (sh_rep m.T (sh_u2 (sh_u2 m.I 66 43 x2) 66 44 x3) m.J)) rfl rfl rfl ?_
      refine sh_w (i := (.iload_n 2)) (len := 1) (pc2 := 310) (lv2 := [(0, .ref 67), (1, .int x1), (2, .int x2), (3, .int x3), (4, .long x4), (6, .long x6)]) (st2 := [.int x2, .ref 67]) (h2 := (sh_rep m.T (sh_u2 (sh_u2 m.I 66 43 x2) 66 44 x3) m.J)) rfl rfl rfl ?_
      refine sh_w (i := (.lload 4)) (len := 2) (pc2 := 312) (lv2 := [(0, .ref 67), (1, .int x1), (2, .int x2), (3, .int x3), (4, .long x4), (6, .long x6)]) (st2 := [.long x4, .int x2, .ref 67]) (h2 := (sh_rep m.T (sh_u2 (sh_u2 m.I 66 43 x2) 66 44 x3) m.J)) rfl rfl rfl ?_
      refine sh_w (i := (.lload 6)) (len := 2) (pc2 := 314) (lv2 := [(0, .ref 67), (1, .int x1), (2, .int x2), (3, .int x3), (4, .long x4), (6, .long x6)]) (st2 := [.long x6, .long x4, .int x2, .ref 67]) (h2 := (sh_rep m.T (sh_u2 (sh_u2 m.I 66 43 x2) 66 44 x3) m.J)) rfl rfl rfl ?_
      exact kk
    refine sh_Lk_cS (r := (some (.int (sh_b2 (sf_307 x2 x4 x6))))) (st2 := [.int (sh_b2 (sf_307 x2 x4 x6)), .ref 67]) (pc2 := 317) (k2 := 307) (as := [.int x2, .long x4, .long x6]) (rest := [.ref 67]) rfl rfl (by decide) (Nat.le_of_ble_eq_true rfl) rfl rfl ⟨Nat.le_of_ble_eq_true rfl, Nat.le_of_ble_eq_true rfl⟩ (sl_307 (m := ⟨m.T, sh_u2 (sh_u2 m.I 66 43 x2) 66 44 x3, m.J, m.s⟩) rfl ⟨rfl, rfl⟩) rfl rfl (Nat.le_of_ble_eq_true rfl) (Nat.le_of_ble_eq_true rfl) ?_
    rcases sh_ite e with ⟨c, e⟩ | ⟨c, e⟩
    · refine sh_Lk_lift (T := m.T) (I := sh_u2 (sh_u2 m.I 66 43 x2) 66 44 x3) (J := m.J) (s := m.s) (pc2 := 325) (lv2 := [(0, .ref 67), (1, .int x1), (2, .int x2), (3, .int x3), (4, .long x4), (6, .long x6)]) (st2 := [.int 0, .ref 67]) (I2 := sh_u2 (sh_u2 m.I 66 43 x2) 66 44 x3) (J2 := m.J) (fun hT v kk => ?_) ?_
      · refine sh_j0 (c := .ne) (off := (7)) (pc2 := 324) true rfl (sh_Znet c) rfl ?_
        refine sh_w (i := (.iconst 0)) (len := 1) (pc2 := 325) (lv2 := [(0, .ref 67), (1, .int x1), (2, .int x2), (3, .int x3), (4, .long x4), (6, .long x6)]) (st2 := [.int 0, .ref 67]) (h2 := (sh_rep m.T (sh_u2 (sh_u2 m.I 66 43 x2) 66 44 x3) m.J)) rfl rfl rfl ?_
        exact kk
      exact sh_Lk_sub (sh_sub_n) (sl_305_325 e tg)
    · refine sh_Lk_lift (T := m.T) (I := sh_u2 (sh_u2 m.I 66 43 x2) 66 44 x3) (J := m.J) (s := m.s) (pc2 := 325) (lv2 := [(0, .ref 67), (1, .int x1), (2, .int x2), (3, .int x3), (4, .long x4), (6, .long x6)]) (st2 := [.int 1, .ref 67]) (I2 := sh_u2 (sh_u2 m.I 66 43 x2) 66 44 x3) (J2 := m.J) (fun hT v kk => ?_) ?_
      · refine sh_j0 (c := .ne) (off := (7)) (pc2 := 320) false rfl (sh_Znef c) rfl ?_
        refine sh_w (i := (.iconst 1)) (len := 1) (pc2 := 321) (lv2 := [(0, .ref 67), (1, .int x1), (2, .int x2), (3, .int x3), (4, .long x4), (6, .long x6)]) (st2 := [.int 1, .ref 67]) (h2 := (sh_rep m.T (sh_u2 (sh_u2 m.I 66 43 x2) 66 44 x3) m.J)) rfl rfl rfl ?_
        refine sh_w (i := (.goto 4)) (len := 3) (pc2 := 325) (lv2 := [(0, .ref 67), (1, .int x1), (2, .int x2), (3, .int x3), (4, .long x4), (6, .long x6)]) (st2 := [.int 1, .ref 67]) (h2 := (sh_rep m.T (sh_u2 (sh_u2 m.I 66 43 x2) 66 44 x3) m.J)) rfl rfl rfl ?_
        exact kk
      exact sh_Lk_sub (sh_sub_n) (sl_305_325 e tg)
  refine sh_Lk_lift (T := m.T) (I := sh_u2 (sh_u2 m.I 66 43 x2) 66 44 x3) (J := m.J) (s := m.s) (pc2 := 409) (lv2 := [(0, .ref 67), (1, .int x1), (2, .int x2), (3, .int x3), (4, .long x4), (6, .long x6)]) (st2 := [.int (lg_cmp x6 0), .int x3, .int x2, .ref 67]) (I2 := sh_u2 (sh_u2 m.I 66 43 x2) 66 44 x3) (J2 := m.J) (fun hT v kk => ?_) ?_
  · refine sh_w (i := (.lookupswitch 391 #[(38, 154), (42, 354), (43, 320), (45, 337), (47, 371), (60, 244), (62, 259), (94, 179), (124, 129), (8509, 224), (9766, 154), (15421, 274), (15677, 204), (15933, 297), (31868, 129)])) (len := 129) (pc2 := 402) (lv2 := [(0, .ref 67), (1, .int x1), (2, .int x2), (3, .int x3), (4, .long x4), (6, .long x6)]) (st2 := []) (h2 := (sh_rep m.T (sh_u2 (sh_u2 m.I 66 43 x2) 66 44 x3) m.J)) rfl rfl (sh_swl rfl (sh_fc (fun h => c0 (Or.inl h)) (sh_fc (fun h => c1 (h)) (sh_fc (fun h => c2 (h)) (sh_fc (fun h => c3 (h)) (sh_fc (fun h => c4 (h)) (sh_fc (fun h => c5 (h)) (sh_fc (fun h => c6 (h)) (sh_fc (fun h => c7 (h)) (sh_fc (fun h => c8 (Or.inl h)) (sh_fc (fun h => c9 (h)) (sh_fc (fun h => c0 (Or.inr (h))) (sh_fc (fun h => c10 (h)) (sh_fc (fun h => c11 (h)) (sh_fc (fun h => c12 (h)) (sh_fc (fun h => c8 (Or.inr (h))) sh_fn))))))))))))))) rfl) ?_
    refine sh_w (i := (.aload_n 0)) (len := 1) (pc2 := 403) (lv2 := [(0, .ref 67), (1, .int x1), (2, .int x2), (3, .int x3), (4, .long x4), (6, .long x6)]) (st2 := [.ref 67]) (h2 := (sh_rep m.T (sh_u2 (sh_u2 m.I 66 43 x2) 66 44 x3) m.J)) rfl rfl rfl ?_
    refine sh_w (i := (.iload_n 2)) (len := 1) (pc2 := 404) (lv2 := [(0, .ref 67), (1, .int x1), (2, .int x2), (3, .int x3), (4, .long x4), (6, .long x6)]) (st2 := [.int x2, .ref 67]) (h2 := (sh_rep m.T (sh_u2 (sh_u2 m.I 66 43 x2) 66 44 x3) m.J)) rfl rfl rfl ?_
    refine sh_w (i := (.iload_n 3)) (len := 1) (pc2 := 405) (lv2 := [(0, .ref 67), (1, .int x1), (2, .int x2), (3, .int x3), (4, .long x4), (6, .long x6)]) (st2 := [.int x3, .int x2, .ref 67]) (h2 := (sh_rep m.T (sh_u2 (sh_u2 m.I 66 43 x2) 66 44 x3) m.J)) rfl rfl rfl ?_
    refine sh_w (i := (.lload 6)) (len := 2) (pc2 := 407) (lv2 := [(0, .ref 67), (1, .int x1), (2, .int x2), (3, .int x3), (4, .long x4), (6, .long x6)]) (st2 := [.long x6, .int x3, .int x2, .ref 67]) (h2 := (sh_rep m.T (sh_u2 (sh_u2 m.I 66 43 x2) 66 44 x3) m.J)) rfl rfl rfl ?_
    refine sh_w (i := (.lconst 0)) (len := 1) (pc2 := 408) (lv2 := [(0, .ref 67), (1, .int x1), (2, .int x2), (3, .int x3), (4, .long x4), (6, .long x6)]) (st2 := [.long 0, .long x6, .int x3, .int x2, .ref 67]) (h2 := (sh_rep m.T (sh_u2 (sh_u2 m.I 66 43 x2) 66 44 x3) m.J)) rfl rfl rfl ?_
    refine sh_w (i := .lcmp) (len := 1) (pc2 := 409) (lv2 := [(0, .ref 67), (1, .int x1), (2, .int x2), (3, .int x3), (4, .long x4), (6, .long x6)]) (st2 := [.int (lg_cmp x6 0), .int x3, .int x2, .ref 67]) (h2 := (sh_rep m.T (sh_u2 (sh_u2 m.I 66 43 x2) 66 44 x3) m.J)) rfl rfl rfl ?_
    exact kk
  rcases sh_ite e with ⟨c, e⟩ | ⟨c, e⟩
  · refine sh_Lk_lift (T := m.T) (I := sh_u2 (sh_u2 m.I 66 43 x2) 66 44 x3) (J := m.J) (s := m.s) (pc2 := 431) (lv2 := [(0, .ref 67), (1, .int x1), (2, .int x2), (3, .int x3), (4, .long x4), (6, .long x6)]) (st2 := [.long x4, .int x3, .int x2, .ref 67]) (I2 := sh_u2 (sh_u2 m.I 66 43 x2) 66 44 x3) (J2 := m.J) (fun hT v kk => ?_) ?_
    · refine sh_j0 (c := .ne) (off := (8)) (pc2 := 412) false rfl (sh_Cnef c) rfl ?_
      refine sh_w (i := (.lload 4)) (len := 2) (pc2 := 414) (lv2 := [(0, .ref 67), (1, .int x1), (2, .int x2), (3, .int x3), (4, .long x4), (6, .long x6)]) (st2 := [.long x4, .int x3, .int x2, .ref 67]) (h2 := (sh_rep m.T (sh_u2 (sh_u2 m.I 66 43 x2) 66 44 x3) m.J)) rfl rfl rfl ?_
      refine sh_w (i := (.goto 17)) (len := 3) (pc2 := 431) (lv2 := [(0, .ref 67), (1, .int x1), (2, .int x2), (3, .int x3), (4, .long x4), (6, .long x6)]) (st2 := [.long x4, .int x3, .int x2, .ref 67]) (h2 := (sh_rep m.T (sh_u2 (sh_u2 m.I 66 43 x2) 66 44 x3) m.J)) rfl rfl rfl ?_
      exact kk
    exact sh_Lk_sub (sh_sub_n) (sl_305_431 e tg)
  · refine sh_Lk_lift (T := m.T) (I := sh_u2 (sh_u2 m.I 66 43 x2) 66 44 x3) (J := m.J) (s := m.s) (pc2 := 424) (lv2 := [(0, .ref 67), (1, .int x1), (2, .int x2), (3, .int x3), (4, .long x4), (6, .long x6)]) (st2 := [.long x6, .long x4, .int x2, .long x4, .int x3, .int x2, .ref 67]) (I2 := sh_u2 (sh_u2 m.I 66 43 x2) 66 44 x3) (J2 := m.J) (fun hT v kk => ?_) ?_
    · refine sh_j0 (c := .ne) (off := (8)) (pc2 := 417) true rfl (sh_Cnet c) rfl ?_
      refine sh_w (i := (.lload 4)) (len := 2) (pc2 := 419) (lv2 := [(0, .ref 67), (1, .int x1), (2, .int x2), (3, .int x3), (4, .long x4), (6, .long x6)]) (st2 := [.long x4, .int x3, .int x2, .ref 67]) (h2 := (sh_rep m.T (sh_u2 (sh_u2 m.I 66 43 x2) 66 44 x3) m.J)) rfl rfl rfl ?_
      refine sh_w (i := (.iload_n 2)) (len := 1) (pc2 := 420) (lv2 := [(0, .ref 67), (1, .int x1), (2, .int x2), (3, .int x3), (4, .long x4), (6, .long x6)]) (st2 := [.int x2, .long x4, .int x3, .int x2, .ref 67]) (h2 := (sh_rep m.T (sh_u2 (sh_u2 m.I 66 43 x2) 66 44 x3) m.J)) rfl rfl rfl ?_
      refine sh_w (i := (.lload 4)) (len := 2) (pc2 := 422) (lv2 := [(0, .ref 67), (1, .int x1), (2, .int x2), (3, .int x3), (4, .long x4), (6, .long x6)]) (st2 := [.long x4, .int x2, .long x4, .int x3, .int x2, .ref 67]) (h2 := (sh_rep m.T (sh_u2 (sh_u2 m.I 66 43 x2) 66 44 x3) m.J)) rfl rfl rfl ?_
      refine sh_w (i := (.lload 6)) (len := 2) (pc2 := 424) (lv2 := [(0, .ref 67), (1, .int x1), (2, .int x2), (3, .int x3), (4, .long x4), (6, .long x6)]) (st2 := [.long x6, .long x4, .int x2, .long x4, .int x3, .int x2, .ref 67]) (h2 := (sh_rep m.T (sh_u2 (sh_u2 m.I 66 43 x2) 66 44 x3) m.J)) rfl rfl rfl ?_
      exact kk
    obtain ⟨r12, e12, e⟩ := sh_bc_e e
    refine sh_Lk_cS (r := (some (.long r12))) (st2 := [.long r12, .long x4, .int x3, .int x2, .ref 67]) (pc2 := 427) (k2 := 308) (as := [.int x2, .long x4, .long x6]) (rest := [.long x4, .int x3, .int x2, .ref 67]) rfl rfl (by decide) (Nat.le_of_ble_eq_true rfl) rfl rfl ⟨Nat.le_of_ble_eq_true rfl, Nat.le_of_ble_eq_true rfl⟩ (sl_308 e12 ⟨rfl, rfl⟩) rfl rfl (Nat.le_of_ble_eq_true rfl) (Nat.le_of_ble_eq_true rfl) ?_
    refine sh_Lk_lift (T := m.T) (I := sh_u2 (sh_u2 m.I 66 43 x2) 66 44 x3) (J := m.J) (s := m.s) (pc2 := 431) (lv2 := [(0, .ref 67), (1, .int x1), (2, .int x2), (3, .int x3), (4, .long x4), (6, .long x6)]) (st2 := [.long (x4 - (r12 * x6)), .int x3, .int x2, .ref 67]) (I2 := sh_u2 (sh_u2 m.I 66 43 x2) 66 44 x3) (J2 := m.J) (fun hT v kk => ?_) ?_
    · refine sh_w (i := (.lload 6)) (len := 2) (pc2 := 429) (lv2 := [(0, .ref 67), (1, .int x1), (2, .int x2), (3, .int x3), (4, .long x4), (6, .long x6)]) (st2 := [.long x6, .long r12, .long x4, .int x3, .int x2, .ref 67]) (h2 := (sh_rep m.T (sh_u2 (sh_u2 m.I 66 43 x2) 66 44 x3) m.J)) rfl rfl rfl ?_
      refine sh_w (i := .lmul) (len := 1) (pc2 := 430) (lv2 := [(0, .ref 67), (1, .int x1), (2, .int x2), (3, .int x3), (4, .long x4), (6, .long x6)]) (st2 := [.long (r12 * x6), .long x4, .int x3, .int x2, .ref 67]) (h2 := (sh_rep m.T (sh_u2 (sh_u2 m.I 66 43 x2) 66 44 x3) m.J)) rfl rfl rfl ?_
      refine sh_w (i := .lsub) (len := 1) (pc2 := 431) (lv2 := [(0, .ref 67), (1, .int x1), (2, .int x2), (3, .int x3), (4, .long x4), (6, .long x6)]) (st2 := [.long (x4 - (r12 * x6)), .int x3, .int x2, .ref 67]) (h2 := (sh_rep m.T (sh_u2 (sh_u2 m.I 66 43 x2) 66 44 x3) m.J)) rfl rfl rfl ?_
      exact kk
    exact sh_Lk_sub (sh_sub_n) (sl_305_431 e tg)
