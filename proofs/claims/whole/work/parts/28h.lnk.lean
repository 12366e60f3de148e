/-! LINKS, printed by gen27.py -/
theorem sl_266 {x1 : Int32} {x2 : Int32} {x3 : Int32} {x4 : Int32} {m m2 : sh_X} {o : Outcome} {z : (Int32 × sh_X)} (e : sf_266 x1 x2 x3 x4 m = some z) (tg : (sh_tI o m2) z) : sh_Lk 266 0 [(0, .ref 67), (1, .int x1), (2, .int x2), (3, .int x3), (4, .int x4)] [] m o m2 8 200 := by
  unfold sf_266 at e
  refine sh_Lk_lift (T := m.T) (I := m.I) (J := m.J) (s := m.s) (pc2 := 9) (lv2 := [(0, .ref 67), (1, .int x1), (2, .int x2), (3, .int x3), (4, .int x4)]) (st2 := [.int x1, .int (m.I 66 20), .ref 73]) (I2 := m.I) (J2 := m.J) (fun hT v kk => ?_) ?_
  · refine sh_w (i := (.aload_n 0)) (len := 1) (pc2 := 1) (lv2 := [(0, .ref 67), (1, .int x1), (2, .int x2), (3, .int x3), (4, .int x4)]) (st2 := [.ref 67]) (h2 := (sh_rep m.T m.I m.J)) rfl rfl rfl ?_
    refine sh_gR1 (len := 3) (x := .ref 73) (pc2 := 4) rfl rfl (sh_s66 hT.st) rfl rfl ?_
    refine sh_w (i := (.aload_n 0)) (len := 1) (pc2 := 5) (lv2 := [(0, .ref 67), (1, .int x1), (2, .int x2), (3, .int x3), (4, .int x4)]) (st2 := [.ref 67, .ref 73]) (h2 := (sh_rep m.T m.I m.J)) rfl rfl rfl ?_
    refine sh_gI1 (len := 3) (x := m.I 66 20) (pc2 := 8) rfl rfl (sh_s66 hT.st) rfl rfl rfl ?_
    refine sh_w (i := (.iload_n 1)) (len := 1) (pc2 := 9) (lv2 := [(0, .ref 67), (1, .int x1), (2, .int x2), (3, .int x3), (4, .int x4)]) (st2 := [.int x1, .int (m.I 66 20), .ref 73]) (h2 := (sh_rep m.T m.I m.J)) rfl rfl rfl ?_
    exact kk
  obtain ⟨c, e⟩ := sh_gd e
  refine sh_Lk_lift (T := m.T) (I := m.I) (J := m.J) (s := m.s) (pc2 := 19) (lv2 := [(0, .ref 67), (1, .int x1), (2, .int x2), (3, .int x3), (4, .int x4)]) (st2 := [.int x2, .int (m.I 66 20), .ref 74]) (I2 := sh_u2 m.I 72 (Int32.toNatClampNeg (m.I 66 20)) x1) (J2 := m.J) (fun hT v kk => ?_) ?_
  · refine sh_is1 (x := x1) (i := m.I 66 20) (pc2 := 10) rfl (sh_s72 hT.st) (sh_okb1 c) (sh_okb2 c) rfl ?_
    refine sh_w (i := (.aload_n 0)) (len := 1) (pc2 := 11) (lv2 := [(0, .ref 67), (1, .int x1), (2, .int x2), (3, .int x3), (4, .int x4)]) (st2 := [.ref 67]) (h2 := (sh_rep m.T (sh_u2 m.I 72 (Int32.toNatClampNeg (m.I 66 20)) x1) m.J)) rfl rfl rfl ?_
    refine sh_gR1 (len := 3) (x := .ref 74) (pc2 := 14) rfl rfl (sh_s66 hT.st) rfl rfl ?_
    refine sh_w (i := (.aload_n 0)) (len := 1) (pc2 := 15) (lv2 := [(0, .ref 67), (1, .int x1), (2, .int x2), (3, .int x3), (4, .int x4)]) (st2 := [.ref 67, .ref 74]) (h2 := (sh_rep m.T (sh_u2 m.I 72 (Int32.toNatClampNeg (m.I 66 20)) x1) m.J)) rfl rfl rfl ?_
    refine sh_gI1 (len := 3) (x := m.I 66 20) (pc2 := 18) rfl rfl (sh_s66 hT.st) rfl rfl rfl ?_
    refine sh_w (i := (.iload_n 2)) (len := 1) (pc2 := 19) (lv2 := [(0, .ref 67), (1, .int x1), (2, .int x2), (3, .int x3), (4, .int x4)]) (st2 := [.int x2, .int (m.I 66 20), .ref 74]) (h2 := (sh_rep m.T (sh_u2 m.I 72 (Int32.toNatClampNeg (m.I 66 20)) x1) m.J)) rfl rfl rfl ?_
    exact kk
  obtain ⟨c, e⟩ := sh_gd e
  refine sh_Lk_lift (T := m.T) (I := sh_u2 m.I 72 (Int32.toNatClampNeg (m.I 66 20)) x1) (J := m.J) (s := m.s) (pc2 := 29) (lv2 := [(0, .ref 67), (1, .int x1), (2, .int x2), (3, .int x3), (4, .int x4)]) (st2 := [.int x3, .int (m.I 66 20), .ref 75]) (I2 := sh_u2 (sh_u2 m.I 72 (Int32.toNatClampNeg (m.I 66 20)) x1) 73 (Int32.toNatClampNeg (m.I 66 20)) x2) (J2 := m.J) (fun hT v kk => ?_) ?_
  · refine sh_is1 (x := x2) (i := m.I 66 20) (pc2 := 20) rfl (sh_s73 hT.st) (sh_okb1 c) (sh_okb2 c) rfl ?_
    refine sh_w (i := (.aload_n 0)) (len := 1) (pc2 := 21) (lv2 := [(0, .ref 67), (1, .int x1), (2, .int x2), (3, .int x3), (4, .int x4)]) (st2 := [.ref 67]) (h2 := (sh_rep m.T (sh_u2 (sh_u2 m.I 72 (Int32.toNatClampNeg (m.I 66 20)) x1) 73 (Int32.toNatClampNeg (m.I 66 20)) x2) m.J)) rfl rfl rfl ?_
    refine sh_gR1 (len := 3) (x := .ref 75) (pc2 := 24) rfl rfl (sh_s66 hT.st) rfl rfl ?_
    refine sh_w (i := (.aload_n 0)) (len := 1) (pc2 := 25) (lv2 := [(0, .ref 67), (1, .int x1), (2, .int x2), (3, .int x3), (4, .int x4)]) (st2 := [.ref 67, .ref 75]) (h2 := (sh_rep m.T (sh_u2 (sh_u2 m.I 72 (Int32.toNatClampNeg (m.I 66 20)) x1) 73 (Int32.toNatClampNeg (m.I 66 20)) x2) m.J)) rfl rfl rfl ?_
    refine sh_gI1 (len := 3) (x := m.I 66 20) (pc2 := 28) rfl rfl (sh_s66 hT.st) rfl rfl rfl ?_
    refine sh_w (i := (.iload_n 3)) (len := 1) (pc2 := 29) (lv2 := [(0, .ref 67), (1, .int x1), (2, .int x2), (3, .int x3), (4, .int x4)]) (st2 := [.int x3, .int (m.I 66 20), .ref 75]) (h2 := (sh_rep m.T (sh_u2 (sh_u2 m.I 72 (Int32.toNatClampNeg (m.I 66 20)) x1) 73 (Int32.toNatClampNeg (m.I 66 20)) x2) m.J)) rfl rfl rfl ?_
    exact kk
  obtain ⟨c, e⟩ := sh_gd e
  refine sh_Lk_lift (T := m.T) (I := sh_u2 (sh_u2 m.I 72 (Int32.toNatClampNeg (m.I 66 20)) x1) 73 (Int32.toNatClampNeg (m.I 66 20)) x2) (J := m.J) (s := m.s) (pc2 := 40) (lv2 := [(0, .ref 67), (1, .int x1), (2, .int x2), (3, .int x3), (4, .int x4)]) (st2 := [.int x4, .int (m.I 66 20), .ref 76]) (I2 := sh_u2 (sh_u2 (sh_u2 m.I 72 (Int32.toNatClampNeg (m.I 66 20)) x1) 73 (Int32.toNatClampNeg (m.I 66 20)) x2) 74 (Int32.toNatClampNeg (m.I 66 20)) x3) (J2 := m.J) (fun hT v kk => ?_) ?_
  · refine sh_is1 (x := x3) (i := m.I 66 20) (pc2 := 30) rfl (sh_s74 hT.st) (sh_okb1 c) (sh_okb2 c) rfl ?_
    refine sh_w (i := (.aload_n 0)) (len := 1) (pc2 := 31) (lv2 := [(0, .ref 67), (1, .int x1), (2, .int x2), (3, .int x3), (4, .int x4)]) (st2 := [.ref 67]) (h2 := (sh_rep m.T (sh_u2 (sh_u2 (sh_u2 m.I 72 (Int32.toNatClampNeg (m.I 66 20)) x1) 73 (Int32.toNatClampNeg (m.I 66 20)) x2) 74 (Int32.toNatClampNeg (m.I 66 20)) x3) m.J)) rfl rfl rfl ?_
    refine sh_gR1 (len := 3) (x := .ref 76) (pc2 := 34) rfl rfl (sh_s66 hT.st) rfl rfl ?_
    refine sh_w (i := (.aload_n 0)) (len := 1) (pc2 := 35) (lv2 := [(0, .ref 67), (1, .int x1), (2, .int x2), (3, .int x3), (4, .int x4)]) (st2 := [.ref 67, .ref 76]) (h2 := (sh_rep m.T (sh_u2 (sh_u2 (sh_u2 m.I 72 (Int32.toNatClampNeg (m.I 66 20)) x1) 73 (Int32.toNatClampNeg (m.I 66 20)) x2) 74 (Int32.toNatClampNeg (m.I 66 20)) x3) m.J)) rfl rfl rfl ?_
    refine sh_gI1 (len := 3) (x := m.I 66 20) (pc2 := 38) rfl rfl (sh_s66 hT.st) rfl rfl rfl ?_
    refine sh_w (i := (.iload 4)) (len := 2) (pc2 := 40) (lv2 := [(0, .ref 67), (1, .int x1), (2, .int x2), (3, .int x3), (4, .int x4)]) (st2 := [.int x4, .int (m.I 66 20), .ref 76]) (h2 := (sh_rep m.T (sh_u2 (sh_u2 (sh_u2 m.I 72 (Int32.toNatClampNeg (m.I 66 20)) x1) 73 (Int32.toNatClampNeg (m.I 66 20)) x2) 74 (Int32.toNatClampNeg (m.I 66 20)) x3) m.J)) rfl rfl rfl ?_
    exact kk
  obtain ⟨c, e⟩ := sh_gd e
  refine sh_Lk_lift (T := m.T) (I := sh_u2 (sh_u2 (sh_u2 m.I 72 (Int32.toNatClampNeg (m.I 66 20)) x1) 73 (Int32.toNatClampNeg (m.I 66 20)) x2) 74 (Int32.toNatClampNeg (m.I 66 20)) x3) (J := m.J) (s := m.s) (pc2 := 50) (lv2 := [(0, .ref 67), (1, .int x1), (2, .int x2), (3, .int x3), (4, .int x4)]) (st2 := [.int (-1), .int (m.I 66 20), .ref 77]) (I2 := sh_u2 (sh_u2 (sh_u2 (sh_u2 m.I 72 (Int32.toNatClampNeg (m.I 66 20)) x1) 73 (Int32.toNatClampNeg (m.I 66 20)) x2) 74 (Int32.toNatClampNeg (m.I 66 20)) x3) 75 (Int32.toNatClampNeg (m.I 66 20)) x4) (J2 := m.J) (fun hT v kk => ?_) ?_
  · refine sh_is1 (x := x4) (i := m.I 66 20) (pc2 := 41) rfl (sh_s75 hT.st) (sh_okb1 c) (sh_okb2 c) rfl ?_
    refine sh_w (i := (.aload_n 0)) (len := 1) (pc2 := 42) (lv2 := [(0, .ref 67), (1, .int x1), (2, .int x2), (3, .int x3), (4, .int x4)]) (st2 := [.ref 67]) (h2 := (sh_rep m.T (sh_u2 (sh_u2 (sh_u2 (sh_u2 m.I 72 (Int32.toNatClampNeg (m.I 66 20)) x1) 73 (Int32.toNatClampNeg (m.I 66 20)) x2) 74 (Int32.toNatClampNeg (m.I 66 20)) x3) 75 (Int32.toNatClampNeg (m.I 66 20)) x4) m.J)) rfl rfl rfl ?_
    refine sh_gR1 (len := 3) (x := .ref 77) (pc2 := 45) rfl rfl (sh_s66 hT.st) rfl rfl ?_
    refine sh_w (i := (.aload_n 0)) (len := 1) (pc2 := 46) (lv2 := [(0, .ref 67), (1, .int x1), (2, .int x2), (3, .int x3), (4, .int x4)]) (st2 := [.ref 67, .ref 77]) (h2 := (sh_rep m.T (sh_u2 (sh_u2 (sh_u2 (sh_u2 m.I 72 (Int32.toNatClampNeg (m.I 66 20)) x1) 73 (Int32.toNatClampNeg (m.I 66 20)) x2) 74 (Int32.toNatClampNeg (m.I 66 20)) x3) 75 (Int32.toNatClampNeg (m.I 66 20)) x4) m.J)) rfl rfl rfl ?_
    refine sh_gI1 (len := 3) (x := m.I 66 20) (pc2 := 49) rfl rfl (sh_s66 hT.st) rfl rfl rfl ?_
    refine sh_w (i := (.iconst (-1))) (len := 1) (pc2 := 50) (lv2 := [(0, .ref 67), (1, .int x1), (2, .int x2), (3, .int x3), (4, .int x4)]) (st2 := [.int (-1), .int (m.I 66 20), .ref 77]) (h2 := (sh_rep m.T (sh_u2 (sh_u2 (sh_u2 (sh_u2 m.I 72 (Int32.toNatClampNeg (m.I 66 20)) x1) 73 (Int32.toNatClampNeg (m.I 66 20)) x2) 74 (Int32.toNatClampNeg (m.I 66 20)) x3) 75 (Int32.toNatClampNeg (m.I 66 20)) x4) m.J)) rfl rfl rfl ?_
    exact kk
  obtain ⟨c, e⟩ := sh_gd e
  refine sh_Lk_lift (T := m.T) (I := sh_u2 (sh_u2 (sh_u2 (sh_u2 m.I 72 (Int32.toNatClampNeg (m.I 66 20)) x1) 73 (Int32.toNatClampNeg (m.I 66 20)) x2) 74 (Int32.toNatClampNeg (m.I 66 20)) x3) 75 (Int32.toNatClampNeg (m.I 66 20)) x4) (J := m.J) (s := m.s) (pc2 := 60) (lv2 := [(0, .ref 67), (1, .int x1), (2, .int x2), (3, .int x3), (4, .int x4)]) (st2 := [.int (-1), .int (m.I 66 20), .ref 78]) (I2 := sh_u2 (sh_u2 (sh_u2 (sh_u2 (sh_u2 m.I 72 (Int32.toNatClampNeg (m.I 66 20)) x1) 73 (Int32.toNatClampNeg (m.I 66 20)) x2) 74 (Int32.toNatClampNeg (m.I 66 20)) x3) 75 (Int32.toNatClampNeg (m.I 66 20)) x4) 76 (Int32.toNatClampNeg (m.I 66 20)) (-1)) (J2 := m.J) (fun hT v kk => ?_) ?_
  · refine sh_is1 (x := (-1)) (i := m.I 66 20) (pc2 := 51) rfl (sh_s76 hT.st) (sh_okb1 c) (sh_okb2 c) rfl ?_
    refine sh_w (i := (.aload_n 0)) (len := 1) (pc2 := 52) (lv2 := [(0, .ref 67), (1, .int x1), (2, .int x2), (3, .int x3), (4, .int x4)]) (st2 := [.ref 67]) (h2 := (sh_rep m.T (sh_u2 (sh_u2 (sh_u2 (sh_u2 (sh_u2 m.I 72 (Int32.toNatClampNeg (m.I 66 20)) x1) 73 (Int32.toNatClampNeg (m.I 66 20)) x2) 74 (Int32.toNatClampNeg (m.I 66 20)) x3) 75 (Int32.toNatClampNeg (m.I 66 20)) x4) 76 (Int32.toNatClampNeg (m.I 66 20)) (-1)) m.J)) rfl rfl rfl ?_
    refine sh_gR1 (len := 3) (x := .ref 78) (pc2 := 55) rfl rfl (sh_s66 hT.st) rfl rfl ?_
    refine sh_w (i := (.aload_n 0)) (len := 1) (pc2 := 56) (lv2 := [(0, .ref 67), (1, .int x1), (2, .int x2), (3, .int x3), (4, .int x4)]) (st2 := [.ref 67, .ref 78]) (h2 := (sh_rep m.T (sh_u2 (sh_u2 (sh_u2 (sh_u2 (sh_u2 m.I 72 (Int32.toNatClampNeg (m.I 66 20)) x1) 73 (Int32.toNatClampNeg (m.I 66 20)) x2) 74 (Int32.toNatClampNeg (m.I 66 20)) x3) 75 (Int32.toNatClampNeg (m.I 66 20)) x4) 76 (Int32.toNatClampNeg (m.I 66 20)) (-1)) m.J)) rfl rfl rfl ?_
    refine sh_gI1 (len := 3) (x := m.I 66 20) (pc2 := 59) rfl rfl (sh_s66 hT.st) rfl rfl rfl ?_
    refine sh_w (i := (.iconst (-1))) (len := 1) (pc2 := 60) (lv2 := [(0, .ref 67), (1, .int x1), (2, .int x2), (3, .int x3), (4, .int x4)]) (st2 := [.int (-1), .int (m.I 66 20), .ref 78]) (h2 := (sh_rep m.T (sh_u2 (sh_u2 (sh_u2 (sh_u2 (sh_u2 m.I 72 (Int32.toNatClampNeg (m.I 66 20)) x1) 73 (Int32.toNatClampNeg (m.I 66 20)) x2) 74 (Int32.toNatClampNeg (m.I 66 20)) x3) 75 (Int32.toNatClampNeg (m.I 66 20)) x4) 76 (Int32.toNatClampNeg (m.I 66 20)) (-1)) m.J)) rfl rfl rfl ?_
    exact kk
  obtain ⟨c, e⟩ := sh_gd e
  refine sh_Lk_lift (T := m.T) (I := sh_u2 (sh_u2 (sh_u2 (sh_u2 (sh_u2 m.I 72 (Int32.toNatClampNeg (m.I 66 20)) x1) 73 (Int32.toNatClampNeg (m.I 66 20)) x2) 74 (Int32.toNatClampNeg (m.I 66 20)) x3) 75 (Int32.toNatClampNeg (m.I 66 20)) x4) 76 (Int32.toNatClampNeg (m.I 66 20)) (-1)) (J := m.J) (s := m.s) (pc2 := 70) (lv2 := [(0, .ref 67), (1, .int x1), (2, .int x2), (3, .int x3), (4, .int x4)]) (st2 := [.int x2, .int (m.I 66 20), .ref 79]) (I2 := sh_u2 (sh_u2 (sh_u2 (sh_u2 (sh_u2 (sh_u2 m.I 72 (Int32.toNatClampNeg (m.I 66 20)) x1) 73 (Int32.toNatClampNeg (m.I 66 20)) x2) 74 (Int32.toNatClampNeg (m.I 66 20)) x3) 75 (Int32.toNatClampNeg (m.I 66 20)) x4) 76 (Int32.toNatClampNeg (m.I 66 20)) (-1)) 77 (Int32.toNatClampNeg (m.I 66 20)) (-1)) (J2 := m.J) (fun hT v kk => ?_) ?_
  · refine sh_is1 (x := (-1)) (i := m.I 66 20) (pc2 := 61) rfl (sh_s77 hT.st) (sh_okb1 c) (sh_okb2 c) rfl ?_
    refine sh_w (i := (.aload_n 0)) (len := 1) (pc2 := 62) (lv2 := [(0, .ref 67), (1, .int x1), (2, .int x2), (3, .int x3), (4, .int x4)]) (st2 := [.ref 67]) (h2 := (sh_rep m.T (sh_u2 (sh_u2 (sh_u2 (sh_u2 (sh_u2 (sh_u2 m.I 72 (Int32.toNatClampNeg (m.I 66 20)) x1) 73 (Int32.toNatClampNeg (m.I 66 20)) x2) 74 (Int32.toNatClampNeg (m.I 66 20)) x3) 75 (Int32.toNatClampNeg (m.I 66 20)) x4) 76 (Int32.toNatClampNeg (m.I 66 20)) (-1)) 77 (Int32.toNatClampNeg (m.I 66 20)) (-1)) m.J)) rfl rfl rfl ?_
    refine sh_gR1 (len := 3) (x := .ref 79) (pc2 := 65) rfl rfl (sh_s66 hT.st) rfl rfl ?_
    refine sh_w (i := (.aload_n 0)) (len := 1) (pc2 := 66) (lv2 := [(0, .ref 67), (1, .int x1), (2, .int x2), (3, .int x3), (4, .int x4)]) (st2 := [.ref 67, .ref 79]) (h2 := (sh_rep m.T (sh_u2 (sh_u2 (sh_u2 (sh_u2 (sh_u2 (sh_u2 m.I 72 (Int32.toNatClampNeg (m.I 66 20)) x1) 73 (Int32.toNatClampNeg (m.I 66 20)) x2) 74 (Int32.toNatClampNeg (m.I 66 20)) x3) 75 (Int32.toNatClampNeg (m.I 66 20)) x4) 76 (Int32.toNatClampNeg (m.I 66 20)) (-1)) 77 (Int32.toNatClampNeg (m.I 66 20)) (-1)) m.J)) rfl rfl rfl ?_
    refine sh_gI1 (len := 3) (x := m.I 66 20) (pc2 := 69) rfl rfl (sh_s66 hT.st) rfl rfl rfl ?_
    refine sh_w (i := (.iload_n 2)) (len := 1) (pc2 := 70) (lv2 := [(0, .ref 67), (1, .int x1), (2, .int x2), (3, .int x3), (4, .int x4)]) (st2 := [.int x2, .int (m.I 66 20), .ref 79]) (h2 := (sh_rep m.T (sh_u2 (sh_u2 (sh_u2 (sh_u2 (sh_u2 (sh_u2 m.I 72 (Int32.toNatClampNeg (m.I 66 20)) x1) 73 (Int32.toNatClampNeg (m.I 66 20)) x2) 74 (Int32.toNatClampNeg (m.I 66 20)) x3) 75 (Int32.toNatClampNeg (m.I 66 20)) x4) 76 (Int32.toNatClampNeg (m.I 66 20)) (-1)) 77 (Int32.toNatClampNeg (m.I 66 20)) (-1)) m.J)) rfl rfl rfl ?_
    exact kk
  obtain ⟨c, e⟩ := sh_gd e
  refine sh_Lk_lift (T := m.T) (I := sh_u2 (sh_u2 (sh_u2 (sh_u2 (sh_u2 (sh_u2 m.I 72 (Int32.toNatClampNeg (m.I 66 20)) x1) 73 (Int32.toNatClampNeg (m.I 66 20)) x2) 74 (Int32.toNatClampNeg (m.I 66 20)) x3) 75 (Int32.toNatClampNeg (m.I 66 20)) x4) 76 (Int32.toNatClampNeg (m.I 66 20)) (-1)) 77 (Int32.toNatClampNeg (m.I 66 20)) (-1)) (J := m.J) (s := m.s) (pc2 := 87) (lv2 := [(0, .ref 67), (1, .int x1), (2, .int x2), (3, .int x3), (4, .int x4)]) (st2 := [.int (((m.I 66 20) + 1) - 1)]) (I2 := sh_u2 (sh_u2 (sh_u2 (sh_u2 (sh_u2 (sh_u2 (sh_u2 (sh_u2 m.I 72 (Int32.toNatClampNeg (m.I 66 20)) x1) 73 (Int32.toNatClampNeg (m.I 66 20)) x2) 74 (Int32.toNatClampNeg (m.I 66 20)) x3) 75 (Int32.toNatClampNeg (m.I 66 20)) x4) 76 (Int32.toNatClampNeg (m.I 66 20)) (-1)) 77 (Int32.toNatClampNeg (m.I 66 20)) (-1)) 78 (Int32.toNatClampNeg (m.I 66 20)) x2) 66 20 ((m.I 66 20) + 1)) (J2 := m.J) (fun hT v kk => ?_) ?_
  · refine sh_is1 (x := x2) (i := m.I 66 20) (pc2 := 71) rfl (sh_s78 hT.st) (sh_okb1 c) (sh_okb2 c) rfl ?_
    refine sh_w (i := (.aload_n 0)) (len := 1) (pc2 := 72) (lv2 := [(0, .ref 67), (1, .int x1), (2, .int x2), (3, .int x3), (4, .int x4)]) (st2 := [.ref 67]) (h2 := (sh_rep m.T (sh_u2 (sh_u2 (sh_u2 (sh_u2 (sh_u2 (sh_u2 (sh_u2 m.I 72 (Int32.toNatClampNeg (m.I 66 20)) x1) 73 (Int32.toNatClampNeg (m.I 66 20)) x2) 74 (Int32.toNatClampNeg (m.I 66 20)) x3) 75 (Int32.toNatClampNeg (m.I 66 20)) x4) 76 (Int32.toNatClampNeg (m.I 66 20)) (-1)) 77 (Int32.toNatClampNeg (m.I 66 20)) (-1)) 78 (Int32.toNatClampNeg (m.I 66 20)) x2) m.J)) rfl rfl rfl ?_
    refine sh_w (i := .dup) (len := 1) (pc2 := 73) (lv2 := [(0, .ref 67), (1, .int x1), (2, .int x2), (3, .int x3), (4, .int x4)]) (st2 := [.ref 67, .ref 67]) (h2 := (sh_rep m.T (sh_u2 (sh_u2 (sh_u2 (sh_u2 (sh_u2 (sh_u2 (sh_u2 m.I 72 (Int32.toNatClampNeg (m.I 66 20)) x1) 73 (Int32.toNatClampNeg (m.I 66 20)) x2) 74 (Int32.toNatClampNeg (m.I 66 20)) x3) 75 (Int32.toNatClampNeg (m.I 66 20)) x4) 76 (Int32.toNatClampNeg (m.I 66 20)) (-1)) 77 (Int32.toNatClampNeg (m.I 66 20)) (-1)) 78 (Int32.toNatClampNeg (m.I 66 20)) x2) m.J)) rfl rfl rfl ?_
    refine sh_gI1 (len := 3) (x := m.I 66 20) (pc2 := 76) rfl rfl (sh_s66 hT.st) rfl rfl rfl ?_
    refine sh_w (i := (.iconst 1)) (len := 1) (pc2 := 77) (lv2 := [(0, .ref 67), (1, .int x1), (2, .int x2), (3, .int x3), (4, .int x4)]) (st2 := [.int 1, .int (m.I 66 20), .ref 67]) (h2 := (sh_rep m.T (sh_u2 (sh_u2 (sh_u2 (sh_u2 (sh_u2 (sh_u2 (sh_u2 m.I 72 (Int32.toNatClampNeg (m.I 66 20)) x1) 73 (Int32.toNatClampNeg (m.I 66 20)) x2) 74 (Int32.toNatClampNeg (m.I 66 20)) x3) 75 (Int32.toNatClampNeg (m.I 66 20)) x4) 76 (Int32.toNatClampNeg (m.I 66 20)) (-1)) 77 (Int32.toNatClampNeg (m.I 66 20)) (-1)) 78 (Int32.toNatClampNeg (m.I 66 20)) x2) m.J)) rfl rfl rfl ?_
    refine sh_w (i := .iadd) (len := 1) (pc2 := 78) (lv2 := [(0, .ref 67), (1, .int x1), (2, .int x2), (3, .int x3), (4, .int x4)]) (st2 := [.int ((m.I 66 20) + 1), .ref 67]) (h2 := (sh_rep m.T (sh_u2 (sh_u2 (sh_u2 (sh_u2 (sh_u2 (sh_u2 (sh_u2 m.I 72 (Int32.toNatClampNeg (m.I 66 20)) x1) 73 (Int32.toNatClampNeg (m.I 66 20)) x2) 74 (Int32.toNatClampNeg (m.I 66 20)) x3) 75 (Int32.toNatClampNeg (m.I 66 20)) x4) 76 (Int32.toNatClampNeg (m.I 66 20)) (-1)) 77 (Int32.toNatClampNeg (m.I 66 20)) (-1)) 78 (Int32.toNatClampNeg (m.I 66 20)) x2) m.J)) rfl rfl rfl ?_
    refine sh_pI1 (x := (m.I 66 20) + 1) (pc2 := 81) rfl rfl (sh_s66 hT.st) rfl rfl rfl rfl ?_
    refine sh_w (i := (.aload_n 0)) (len := 1) (pc2 := 82) (lv2 := [(0, .ref 67), (1, .int x1), (2, .int x2), (3, .int x3), (4, .int x4)]) (st2 := [.ref 67]) (h2 := (sh_rep m.T (sh_u2 (sh_u2 (sh_u2 (sh_u2 (sh_u2 (sh_u2 (sh_u2 (sh_u2 m.I 72 (Int32.toNatClampNeg (m.I 66 20)) x1) 73 (Int32.toNatClampNeg (m.I 66 20)) x2) 74 (Int32.toNatClampNeg (m.I 66 20)) x3) 75 (Int32.toNatClampNeg (m.I 66 20)) x4) 76 (Int32.toNatClampNeg (m.I 66 20)) (-1)) 77 (Int32.toNatClampNeg (m.I 66 20)) (-1)) 78 (Int32.toNatClampNeg (m.I 66 20)) x2) 66 20 ((m.I 66 20) + 1)) m.J)) rfl rfl rfl ?_
    refine sh_gI1 (len := 3) (x := (m.I 66 20) + 1) (pc2 := 85) rfl rfl (sh_s66 hT.st) rfl rfl rfl ?_
    refine sh_w (i := (.iconst 1)) (len := 1) (pc2 := 86) (lv2 := [(0, .ref 67), (1, .int x1), (2, .int x2), (3, .int x3), (4, .int x4)]) (st2 := [.int 1, .int ((m.I 66 20) + 1)]) (h2 := (sh_rep m.T (sh_u2 (sh_u2 (sh_u2 (sh_u2 (sh_u2 (sh_u2 (sh_u2 (sh_u2 m.I 72 (Int32.toNatClampNeg (m.I 66 20)) x1) 73 (Int32.toNatClampNeg (m.I 66 20)) x2) 74 (Int32.toNatClampNeg (m.I 66 20)) x3) 75 (Int32.toNatClampNeg (m.I 66 20)) x4) 76 (Int32.toNatClampNeg (m.I 66 20)) (-1)) 77 (Int32.toNatClampNeg (m.I 66 20)) (-1)) 78 (Int32.toNatClampNeg (m.I 66 20)) x2) 66 20 ((m.I 66 20) + 1)) m.J)) rfl rfl rfl ?_
    refine sh_w (i := .isub) (len := 1) (pc2 := 87) (lv2 := [(0, .ref 67), (1, .int x1), (2, .int x2), (3, .int x3), (4, .int x4)]) (st2 := [.int (((m.I 66 20) + 1) - 1)]) (h2 := (sh_rep m.T (sh_u2 (sh_u2 (sh_u2 (sh_u2 (sh_u2 (sh_u2 (sh_u2 (sh_u2 m.I 72 (Int32.toNatClampNeg (m.I 66 20)) x1) 73 (Int32.toNatClampNeg (m.I 66 20)) x2) 74 (Int32.toNatClampNeg (m.I 66 20)) x3) 75 (Int32.toNatClampNeg (m.I 66 20)) x4) 76 (Int32.toNatClampNeg (m.I 66 20)) (-1)) 77 (Int32.toNatClampNeg (m.I 66 20)) (-1)) 78 (Int32.toNatClampNeg (m.I 66 20)) x2) 66 20 ((m.I 66 20) + 1)) m.J)) rfl rfl rfl ?_
    exact kk
  obtain rfl := Option.some.inj e
  obtain ⟨rfl, rfl⟩ := tg
  exact sh_Lk_ret (i := .ireturn) rfl rfl rfl (Nat.le_of_ble_eq_true rfl) (Nat.le_of_ble_eq_true rfl)
theorem sl_268 {m m2 : sh_X} {o : Outcome} {z : (Int32 × sh_X)} (e : sf_268 m = some z) (tg : (sh_tI o m2) z) : sh_Lk 268 0 [(0, .ref 67)] [] m o m2 9 222 := by
  unfold sf_268 at e
  refine sh_Lk_lift (T := m.T) (I := m.I) (J := m.J) (s := m.s) (pc2 := 10) (lv2 := [(0, .ref 67)]) (st2 := [.int (m.I 66 21), .ref 70, .int 2, .ref 67]) (I2 := m.I) (J2 := m.J) (fun hT v kk => ?_) ?_
  · refine sh_w (i := (.aload_n 0)) (len := 1) (pc2 := 1) (lv2 := [(0, .ref 67)]) (st2 := [.ref 67]) (h2 := (sh_rep m.T m.I m.J)) rfl rfl rfl ?_
    refine sh_w (i := (.iconst 2)) (len := 1) (pc2 := 2) (lv2 := [(0, .ref 67)]) (st2 := [.int 2, .ref 67]) (h2 := (sh_rep m.T m.I m.J)) rfl rfl rfl ?_
    refine sh_w (i := (.aload_n 0)) (len := 1) (pc2 := 3) (lv2 := [(0, .ref 67)]) (st2 := [.ref 67, .int 2, .ref 67]) (h2 := (sh_rep m.T m.I m.J)) rfl rfl rfl ?_
    refine sh_gR1 (len := 3) (x := .ref 70) (pc2 := 6) rfl rfl (sh_s66 hT.st) rfl rfl ?_
    refine sh_w (i := (.aload_n 0)) (len := 1) (pc2 := 7) (lv2 := [(0, .ref 67)]) (st2 := [.ref 67, .ref 70, .int 2, .ref 67]) (h2 := (sh_rep m.T m.I m.J)) rfl rfl rfl ?_
    refine sh_gI1 (len := 3) (x := m.I 66 21) (pc2 := 10) rfl rfl (sh_s66 hT.st) rfl rfl rfl ?_
    exact kk
  obtain ⟨c, e⟩ := sh_gd e
  refine sh_Lk_lift (T := m.T) (I := m.I) (J := m.J) (s := m.s) (pc2 := 11) (lv2 := [(0, .ref 67)]) (st2 := [.int (m.I 69 (Int32.toNatClampNeg (m.I 66 21))), .int 2, .ref 67]) (I2 := m.I) (J2 := m.J) (fun hT v kk => ?_) ?_
  · refine sh_ia1 (x := m.I 69 (Int32.toNatClampNeg (m.I 66 21))) (pc2 := 11) rfl (sh_s69 hT.st) (sh_okb1 c) (sh_okb2 c) rfl rfl ?_
    exact kk
  obtain ⟨r1, m11, e1, e⟩ := sh_bn_e e
  refine sh_Lk_cV (r := (some (.int (sh_b2 r1)))) (st2 := [.int (sh_b2 r1)]) (pc2 := 14) (k2 := 252) (a := 66) (as := [.ref 67, .int 2, .int (m.I 69 (Int32.toNatClampNeg (m.I 66 21)))]) (rest := []) rfl rfl rfl (fun hT => (sh_s66 hT.st)) rfl rfl ⟨Nat.le_of_ble_eq_true rfl, Nat.le_of_ble_eq_true rfl⟩ (sl_252 e1 ⟨rfl, rfl⟩) rfl rfl (Nat.le_of_ble_eq_true rfl) (Nat.le_of_ble_eq_true rfl) ?_
  refine sh_Lk_lift (T := m11.T) (I := m11.I) (J := m11.J) (s := m11.s) (pc2 := 16) (lv2 := [(0, .ref 67)]) (st2 := [.int (-1)]) (I2 := m11.I) (J2 := m11.J) (fun hT v kk => ?_) ?_
  · refine sh_w (i := .pop) (len := 1) (pc2 := 15) (lv2 := [(0, .ref 67)]) (st2 := []) (h2 := (sh_rep m11.T m11.I m11.J)) rfl rfl rfl ?_
    refine sh_w (i := (.iconst (-1))) (len := 1) (pc2 := 16) (lv2 := [(0, .ref 67)]) (st2 := [.int (-1)]) (h2 := (sh_rep m11.T m11.I m11.J)) rfl rfl rfl ?_
    exact kk
  obtain rfl := Option.some.inj e
  obtain ⟨rfl, rfl⟩ := tg
  exact sh_Lk_ret (i := .ireturn) rfl rfl rfl (Nat.le_of_ble_eq_true rfl) (Nat.le_of_ble_eq_true rfl)
theorem sl_274 {x0 : Int32} {m m2 : sh_X} {o : Outcome} {z : Int32} (e : sf_274 x0 = z) (tg : (sh_tIc m o m2) z) : sh_Lk 274 0 [(0, .int x0)] [] m o m2 8 200 := by
  unfold sf_274 at e
  refine sh_Lk_lift (T := m.T) (I := m.I) (J := m.J) (s := m.s) (pc2 := 1) (lv2 := [(0, .int x0)]) (st2 := [.int x0]) (I2 := m.I) (J2 := m.J) (fun hT v kk => ?_) ?_
  · refine sh_w (i := (.iload_n 0)) (len := 1) (pc2 := 1) (lv2 := [(0, .int x0)]) (st2 := [.int x0]) (h2 := (sh_rep m.T m.I m.J)) rfl rfl rfl ?_
    exact kk
  rcases sh_ite e with ⟨c, e⟩ | ⟨c0, e⟩
  · refine sh_Lk_lift (T := m.T) (I := m.I) (J := m.J) (s := m.s) (pc2 := 180) (lv2 := [(0, .int x0)]) (st2 := [.int 10]) (I2 := m.I) (J2 := m.J) (fun hT v kk => ?_) ?_
    · refine sh_w (i := (.lookupswitch 180 #[(37, 177), (38, 163), (42, 177), (43, 174), (45, 174), (47, 177), (60, 168), (62, 168), (94, 161), (124, 159), (8509, 165), (9766, 157), (15420, 171), (15421, 168), (15677, 165), (15933, 168), (15934, 171), (31868, 155)])) (len := 155) (pc2 := 178) (lv2 := [(0, .int x0)]) (st2 := []) (h2 := (sh_rep m.T m.I m.J)) rfl rfl (c.elim (fun c => sh_sw c rfl) (fun c => c.elim (fun c => sh_sw c rfl) (fun c => sh_sw c rfl))) ?_
      refine sh_w (i := (.bipush 10)) (len := 2) (pc2 := 180) (lv2 := [(0, .int x0)]) (st2 := [.int 10]) (h2 := (sh_rep m.T m.I m.J)) rfl rfl rfl ?_
      exact kk
    obtain rfl := e
    obtain ⟨rfl, rfl⟩ := tg
    exact sh_Lk_ret (i := .ireturn) rfl rfl rfl (Nat.le_of_ble_eq_true rfl) (Nat.le_of_ble_eq_true rfl)
  rcases sh_ite e with ⟨c, e⟩ | ⟨c1, e⟩
  · refine sh_Lk_lift (T := m.T) (I := m.I) (J := m.J) (s := m.s) (pc2 := 165) (lv2 := [(0, .int x0)]) (st2 := [.int 5]) (I2 := m.I) (J2 := m.J) (fun hT v kk => ?_) ?_
    · refine sh_w (i := (.lookupswitch 180 #[(37, 177), (38, 163), (42, 177), (43, 174), (45, 174), (47, 177), (60, 168), (62, 168), (94, 161), (124, 159), (8509, 165), (9766, 157), (15420, 171), (15421, 168), (15677, 165), (15933, 168), (15934, 171), (31868, 155)])) (len := 155) (pc2 := 164) (lv2 := [(0, .int x0)]) (st2 := []) (h2 := (sh_rep m.T m.I m.J)) rfl rfl (sh_sw c rfl) ?_
      refine sh_w (i := (.iconst 5)) (len := 1) (pc2 := 165) (lv2 := [(0, .int x0)]) (st2 := [.int 5]) (h2 := (sh_rep m.T m.I m.J)) rfl rfl rfl ?_
      exact kk
    obtain rfl := e
    obtain ⟨rfl, rfl⟩ := tg
    exact sh_Lk_ret (i := .ireturn) rfl rfl rfl (Nat.le_of_ble_eq_true rfl) (Nat.le_of_ble_eq_true rfl)
  rcases sh_ite e with ⟨c, e⟩ | ⟨c2, e⟩
  · refine sh_Lk_lift (T := m.T) (I := m.I) (J := m.J) (s := m.s) (pc2 := 177) (lv2 := [(0, .int x0)]) (st2 := [.int 9]) (I2 := m.I) (J2 := m.J) (fun hT v kk => ?_) ?_
    · refine sh_w (i := (.lookupswitch 180 #[(37, 177), (38, 163), (42, 177), (43, 174), (45, 174), (47, 177), (60, 168), (62, 168), (94, 161), (124, 159), (8509, 165), (9766, 157), (15420, 171), (15421, 168), (15677, 165), (15933, 168), (15934, 171), (31868, 155)])) (len := 155) (pc2 := 175) (lv2 := [(0, .int x0)]) (st2 := []) (h2 := (sh_rep m.T m.I m.J)) rfl rfl (c.elim (fun c => sh_sw c rfl) (fun c => sh_sw c rfl)) ?_
      refine sh_w (i := (.bipush 9)) (len := 2) (pc2 := 177) (lv2 := [(0, .int x0)]) (st2 := [.int 9]) (h2 := (sh_rep m.T m.I m.J)) rfl rfl rfl ?_
      exact kk
    obtain rfl := e
    obtain ⟨rfl, rfl⟩ := tg
    exact sh_Lk_ret (i := .ireturn) rfl rfl rfl (Nat.le_of_ble_eq_true rfl) (Nat.le_of_ble_eq_true rfl)
  rcases sh_ite e with ⟨c, e⟩ | ⟨c3, e⟩
  · refine sh_Lk_lift (T := m.T) (I := m.I) (J := m.J) (s := m.s) (pc2 := 171) (lv2 := [(0, .int x0)]) (st2 := [.int 7]) (I2 := m.I) (J2 := m.J) (fun hT v kk => ?_) ?_
    · refine sh_w (i := (.lookupswitch 180 #[(37, 177), (38, 163), (42, 177), (43, 174), (45, 174), (47, 177), (60, 168), (62, 168), (94, 161), (124, 159), (8509, 165), (9766, 157), (15420, 171), (15421, 168), (15677, 165), (15933, 168), (15934, 171), (31868, 155)])) (len := 155) (pc2 := 169) (lv2 := [(0, .int x0)]) (st2 := []) (h2 := (sh_rep m.T m.I m.J)) rfl rfl (c.elim (fun c => sh_sw c rfl) (fun c => c.elim (fun c => sh_sw c rfl) (fun c => c.elim (fun c => sh_sw c rfl) (fun c => sh_sw c rfl)))) ?_
      refine sh_w (i := (.bipush 7)) (len := 2) (pc2 := 171) (lv2 := [(0, .int x0)]) (st2 := [.int 7]) (h2 := (sh_rep m.T m.I m.J)) rfl rfl rfl ?_
      exact kk
    obtain rfl := e
    obtain ⟨rfl, rfl⟩ := tg
    exact sh_Lk_ret (i := .ireturn) rfl rfl rfl (Nat.le_of_ble_eq_true rfl) (Nat.le_of_ble_eq_true rfl)
  rcases sh_ite e with ⟨c, e⟩ | ⟨c4, e⟩
  · refine sh_Lk_lift (T := m.T) (I := m.I) (J := m.J) (s := m.s) (pc2 := 163) (lv2 := [(0, .int x0)]) (st2 := [.int 4]) (I2 := m.I) (J2 := m.J) (fun hT v kk => ?_) ?_
    · refine sh_w (i := (.lookupswitch 180 #[(37, 177), (38, 163), (42, 177), (43, 174), (45, 174), (47, 177), (60, 168), (62, 168), (94, 161), (124, 159), (8509, 165), (9766, 157), (15420, 171), (15421, 168), (15677, 165), (15933, 168), (15934, 171), (31868, 155)])) (len := 155) (pc2 := 162) (lv2 := [(0, .int x0)]) (st2 := []) (h2 := (sh_rep m.T m.I m.J)) rfl rfl (sh_sw c rfl) ?_
      refine sh_w (i := (.iconst 4)) (len := 1) (pc2 := 163) (lv2 := [(0, .int x0)]) (st2 := [.int 4]) (h2 := (sh_rep m.T m.I m.J)) rfl rfl rfl ?_
      exact kk
    obtain rfl := e
    obtain ⟨rfl, rfl⟩ := tg
    exact sh_Lk_ret (i := .ireturn) rfl rfl rfl (Nat.le_of_ble_eq_true rfl) (Nat.le_of_ble_eq_true rfl)
  rcases sh_ite e with ⟨c, e⟩ | ⟨c5, e⟩
  · refine sh_Lk_lift (T := m.T) (I := m.I) (J := m.J) (s := m.s) (pc2 := 161) (lv2 := [(0, .int x0)]) (st2 := [.int 3]) (I2 := m.I) (J2 := m.J) (fun hT v kk => ?_) ?_
    · refine sh_w (i := (.lookupswitch 180 #[(37, 177), (38, 163), (42, 177), (43, 174), (45, 174), (47, 177), (60, 168), (62, 168), (94, 161), (124, 159), (8509, 165), (9766, 157), (15420, 171), (15421, 168), (15677, 165), (15933, 168), (15934, 171), (31868, 155)])) (len := 155) (pc2 := 160) (lv2 := [(0, .int x0)]) (st2 := []) (h2 := (sh_rep m.T m.I m.J)) rfl rfl (sh_sw c rfl) ?_
      refine sh_w (i := (.iconst 3)) (len := 1) (pc2 := 161) (lv2 := [(0, .int x0)]) (st2 := [.int 3]) (h2 := (sh_rep m.T m.I m.J)) rfl rfl rfl ?_
      exact kk
    obtain rfl := e
    obtain ⟨rfl, rfl⟩ := tg
    exact sh_Lk_ret (i := .ireturn) rfl rfl rfl (Nat.le_of_ble_eq_true rfl) (Nat.le_of_ble_eq_true rfl)
  rcases sh_ite e with ⟨c, e⟩ | ⟨c6, e⟩
  · refine sh_Lk_lift (T := m.T) (I := m.I) (J := m.J) (s := m.s) (pc2 := 168) (lv2 := [(0, .int x0)]) (st2 := [.int 6]) (I2 := m.I) (J2 := m.J) (fun hT v kk => ?_) ?_
    · refine sh_w (i := (.lookupswitch 180 #[(37, 177), (38, 163), (42, 177), (43, 174), (45, 174), (47, 177), (60, 168), (62, 168), (94, 161), (124, 159), (8509, 165), (9766, 157), (15420, 171), (15421, 168), (15677, 165), (15933, 168), (15934, 171), (31868, 155)])) (len := 155) (pc2 := 166) (lv2 := [(0, .int x0)]) (st2 := []) (h2 := (sh_rep m.T m.I m.J)) rfl rfl (c.elim (fun c => sh_sw c rfl) (fun c => sh_sw c rfl)) ?_
      refine sh_w (i := (.bipush 6)) (len := 2) (pc2 := 168) (lv2 := [(0, .int x0)]) (st2 := [.int 6]) (h2 := (sh_rep m.T m.I m.J)) rfl rfl rfl ?_
      exact kk
    obtain rfl := e
    obtain ⟨rfl, rfl⟩ := tg
    exact sh_Lk_ret (i := .ireturn) rfl rfl rfl (Nat.le_of_ble_eq_true rfl) (Nat.le_of_ble_eq_true rfl)
  rcases sh_ite e with ⟨c, e⟩ | ⟨c7, e⟩
  · refine sh_Lk_lift (T := m.T) (I := m.I) (J := m.J) (s := m.s) (pc2 := 159) (lv2 := [(0, .int x0)]) (st2 := [.int 2]) (I2 := m.I) (J2 := m.J) (fun hT v kk => ?_) ?_
    · refine sh_w (i := (.lookupswitch 180 #[(37, 177), (38, 163), (42, 177), (43, 174), (45, 174), (47, 177), (60, 168), (62, 168), (94, 161), (124, 159), (8509, 165), (9766, 157), (15420, 171), (15421, 168), (15677, 165), (15933, 168), (15934, 171), (31868, 155)])) (len := 155) (pc2 := 158) (lv2 := [(0, .int x0)]) (st2 := []) (h2 := (sh_rep m.T m.I m.J)) rfl rfl (sh_sw c rfl) ?_
      refine sh_w (i := (.iconst 2)) (len := 1) (pc2 := 159) (lv2 := [(0, .int x0)]) (st2 := [.int 2]) (h2 := (sh_rep m.T m.I m.J)) rfl rfl rfl ?_
      exact kk
    obtain rfl := e
    obtain ⟨rfl, rfl⟩ := tg
    exact sh_Lk_ret (i := .ireturn) rfl rfl rfl (Nat.le_of_ble_eq_true rfl) (Nat.le_of_ble_eq_true rfl)
  rcases sh_ite e with ⟨c, e⟩ | ⟨c8, e⟩
  · refine sh_Lk_lift (T := m.T) (I := m.I) (J := m.J) (s := m.s) (pc2 := 174) (lv2 := [(0, .int x0)]) (st2 := [.int 8]) (I2 := m.I) (J2 := m.J) (fun hT v kk => ?_) ?_
    · refine sh_w (i := (.lookupswitch 180 #[(37, 177), (38, 163), (42, 177), (43, 174), (45, 174), (47, 177), (60, 168), (62, 168), (94, 161), (124, 159), (8509, 165), (9766, 157), (15420, 171), (15421, 168), (15677, 165), (15933, 168), (15934, 171), (31868, 155)])) (len := 155) (pc2 := 172) (lv2 := [(0, .int x0)]) (st2 := []) (h2 := (sh_rep m.T m.I m.J)) rfl rfl (c.elim (fun c => sh_sw c rfl) (fun c => sh_sw c rfl)) ?_
      refine sh_w (i := (.bipush 8)) (len := 2) (pc2 := 174) (lv2 := [(0, .int x0)]) (st2 := [.int 8]) (h2 := (sh_rep m.T m.I m.J)) rfl rfl rfl ?_
      exact kk
    obtain rfl := e
    obtain ⟨rfl, rfl⟩ := tg
    exact sh_Lk_ret (i := .ireturn) rfl rfl rfl (Nat.le_of_ble_eq_true rfl) (Nat.le_of_ble_eq_true rfl)
  rcases sh_ite e with ⟨c, e⟩ | ⟨c9, e⟩
  · refine sh_Lk_lift (T := m.T) (I := m.I) (J := m.J) (s := m.s) (pc2 := 157) (lv2 := [(0, .int x0)]) (st2 := [.int 1]) (I2 := m.I) (J2 := m.J) (fun hT v kk => ?_) ?_
    · refine sh_w (i := (.lookupswitch 180 #[(37, 177), (38, 163), (42, 177), (43, 174), (45, 174), (47, 177), (60, 168), (62, 168), (94, 161), (124, 159), (8509, 165), (9766, 157), (15420, 171), (15421, 168), (15677, 165), (15933, 168), (15934, 171), (31868, 155)])) (len := 155) (pc2 := 156) (lv2 := [(0, .int x0)]) (st2 := []) (h2 := (sh_rep m.T m.I m.J)) rfl rfl (sh_sw c rfl) ?_
      refine sh_w (i := (.iconst 1)) (len := 1) (pc2 := 157) (lv2 := [(0, .int x0)]) (st2 := [.int 1]) (h2 := (sh_rep m.T m.I m.J)) rfl rfl rfl ?_
      exact kk
    obtain rfl := e
    obtain ⟨rfl, rfl⟩ := tg
    exact sh_Lk_ret (i := .ireturn) rfl rfl rfl (Nat.le_of_ble_eq_true rfl) (Nat.le_of_ble_eq_true rfl)
  refine sh_Lk_lift (T := m.T) (I := m.I) (J := m.J) (s := m.s) (pc2 := 182) (lv2 := [(0, .int x0)]) (st2 := [.int 0]) (I2 := m.I) (J2 := m.J) (fun hT v kk => ?_) ?_
  · refine sh_w (i := (.lookupswitch 180 #[(37, 177), (38, 163), (42, 177), (43, 174), (45, 174), (47, 177), (60, 168), (62, 168), (94, 161), (124, 159), (8509, 165), (9766, 157), (15420, 171), (15421, 168), (15677, 165), (15933, 168), (15934, 171), (31868, 155)])) (len := 155) (pc2 := 181) (lv2 := [(0, .int x0)]) (st2 := []) (h2 := (sh_rep m.T m.I m.J)) rfl rfl (sh_swl rfl (sh_fc (fun h => c0 (Or.inl h)) (sh_fc (fun h => c1 (h)) (sh_fc (fun h => c0 (Or.inr (Or.inl h))) (sh_fc (fun h => c2 (Or.inl h)) (sh_fc (fun h => c2 (Or.inr (h))) (sh_fc (fun h => c0 (Or.inr (Or.inr (h)))) (sh_fc (fun h => c3 (Or.inl h)) (sh_fc (fun h => c3 (Or.inr (Or.inl h))) (sh_fc (fun h => c4 (h)) (sh_fc (fun h => c5 (h)) (sh_fc (fun h => c6 (Or.inl h)) (sh_fc (fun h => c7 (h)) (sh_fc (fun h => c8 (Or.inl h)) (sh_fc (fun h => c3 (Or.inr (Or.inr (Or.inl h)))) (sh_fc (fun h => c6 (Or.inr (h))) (sh_fc (fun h => c3 (Or.inr (Or.inr (Or.inr (h))))) (sh_fc (fun h => c8 (Or.inr (h))) (sh_fc (fun h => c9 (h)) sh_fn)))))))))))))))))) rfl) ?_
    refine sh_w (i := (.iconst 0)) (len := 1) (pc2 := 182) (lv2 := [(0, .int x0)]) (st2 := [.int 0]) (h2 := (sh_rep m.T m.I m.J)) rfl rfl rfl ?_
    exact kk
  obtain rfl := e
  obtain ⟨rfl, rfl⟩ := tg
  exact sh_Lk_ret (i := .ireturn) rfl rfl rfl (Nat.le_of_ble_eq_true rfl) (Nat.le_of_ble_eq_true rfl)
def sh_QL240 (Q : sh_Q240) (d : Nat) : Prop := (∀ {x1 : Int32} {m m2 : sh_X} {o : Outcome} {z : (Int32 × sh_X)}, Q.f267 x1 m = some z → (sh_tI o m2) z → sh_Lk 267 0 [(0, .ref 67), (1, .int x1)] [] m o m2 (d + 33) (40 * d + 669)) ∧ (∀ {x1 : Int32} {x2 : Int32} {m m2 : sh_X} {o : Outcome} {z : (Int32 × sh_X)}, Q.f269 x1 x2 m = some z → (sh_tI o m2) z → sh_Lk 269 0 [(0, .ref 67), (1, .int x1), (2, .int x2)] [] m o m2 (d + 33) (40 * d + 669)) ∧ (∀ {x1 : Int32} {m m2 : sh_X} {o : Outcome} {z : (Int32 × sh_X)}, Q.f270 x1 m = some z → (sh_tI o m2) z → sh_Lk 270 0 [(0, .ref 67), (1, .int x1)] [] m o m2 (d + 33) (40 * d + 669)) ∧ (∀ {x1 : Int32} {m m2 : sh_X} {o : Outcome} {z : (Int32 × sh_X)}, Q.f271 x1 m = some z → (sh_tI o m2) z → sh_Lk 271 0 [(0, .ref 67), (1, .int x1)] [] m o m2 (d + 33) (40 * d + 669)) ∧ (∀ {x1 : Int32} {m m2 : sh_X} {o : Outcome} {z : (Int32 × sh_X)}, Q.f272 x1 m = some z → (sh_tI o m2) z → sh_Lk 272 0 [(0, .ref 67), (1, .int x1)] [] m o m2 (d + 33) (40 * d + 669)) ∧ (∀ {x1 : Int32} {x2 : Int32} {x3 : Int32} {m m2 : sh_X} {o : Outcome} {z : (Bool × sh_X)}, Q.f273 x1 x2 x3 m = some z → (sh_tZ o m2) z → sh_Lk 273 0 [(0, .ref 67), (1, .int x1), (2, .int x2), (3, .int x3)] [] m o m2 (d + 33) (40 * d + 669))
theorem sh_QL240.f267 {Q : sh_Q240} {d : Nat} (h : sh_QL240 Q d) : ∀ {x1 : Int32} {m m2 : sh_X} {o : Outcome} {z : (Int32 × sh_X)}, Q.f267 x1 m = some z → (sh_tI o m2) z → sh_Lk 267 0 [(0, .ref 67), (1, .int x1)] [] m o m2 (d + 33) (40 * d + 669) := h.1
theorem sh_QL240.f269 {Q : sh_Q240} {d : Nat} (h : sh_QL240 Q d) : ∀ {x1 : Int32} {x2 : Int32} {m m2 : sh_X} {o : Outcome} {z : (Int32 × sh_X)}, Q.f269 x1 x2 m = some z → (sh_tI o m2) z → sh_Lk 269 0 [(0, .ref 67), (1, .int x1), (2, .int x2)] [] m o m2 (d + 33) (40 * d + 669) := h.2.1
theorem sh_QL240.f270 {Q : sh_Q240} {d : Nat} (h : sh_QL240 Q d) : ∀ {x1 : Int32} {m m2 : sh_X} {o : Outcome} {z : (Int32 × sh_X)}, Q.f270 x1 m = some z → (sh_tI o m2) z → sh_Lk 270 0 [(0, .ref 67), (1, .int x1)] [] m o m2 (d + 33) (40 * d + 669) := h.2.2.1
theorem sh_QL240.f271 {Q : sh_Q240} {d : Nat} (h : sh_QL240 Q d) : ∀ {x1 : Int32} {m m2 : sh_X} {o : Outcome} {z : (Int32 × sh_X)}, Q.f271 x1 m = some z → (sh_tI o m2) z → sh_Lk 271 0 [(0, .ref 67), (1, .int x1)] [] m o m2 (d + 33) (40 * d + 669) := h.2.2.2.1
theorem sh_QL240.f272 {Q : sh_Q240} {d : Nat} (h : sh_QL240 Q d) : ∀ {x1 : Int32} {m m2 : sh_X} {o : Outcome} {z : (Int32 × sh_X)}, Q.f272 x1 m = some z → (sh_tI o m2) z → sh_Lk 272 0 [(0, .ref 67), (1, .int x1)] [] m o m2 (d + 33) (40 * d + 669) := h.2.2.2.2.1
theorem sh_QL240.f273 {Q : sh_Q240} {d : Nat} (h : sh_QL240 Q d) : ∀ {x1 : Int32} {x2 : Int32} {x3 : Int32} {m m2 : sh_X} {o : Outcome} {z : (Bool × sh_X)}, Q.f273 x1 x2 x3 m = some z → (sh_tZ o m2) z → sh_Lk 273 0 [(0, .ref 67), (1, .int x1), (2, .int x2), (3, .int x3)] [] m o m2 (d + 33) (40 * d + 669) := h.2.2.2.2.2
theorem sh_QL240.mk {Q : sh_Q240} {d : Nat} (f267 : ∀ {x1 : Int32} {m m2 : sh_X} {o : Outcome} {z : (Int32 × sh_X)}, Q.f267 x1 m = some z → (sh_tI o m2) z → sh_Lk 267 0 [(0, .ref 67), (1, .int x1)] [] m o m2 (d + 33) (40 * d + 669)) (f269 : ∀ {x1 : Int32} {x2 : Int32} {m m2 : sh_X} {o : Outcome} {z : (Int32 × sh_X)}, Q.f269 x1 x2 m = some z → (sh_tI o m2) z → sh_Lk 269 0 [(0, .ref 67), (1, .int x1), (2, .int x2)] [] m o m2 (d + 33) (40 * d + 669)) (f270 : ∀ {x1 : Int32} {m m2 : sh_X} {o : Outcome} {z : (Int32 × sh_X)}, Q.f270 x1 m = some z → (sh_tI o m2) z → sh_Lk 270 0 [(0, .ref 67), (1, .int x1)] [] m o m2 (d + 33) (40 * d + 669)) (f271 : ∀ {x1 : Int32} {m m2 : sh_X} {o : Outcome} {z : (Int32 × sh_X)}, Q.f271 x1 m = some z → (sh_tI o m2) z → sh_Lk 271 0 [(0, .ref 67), (1, .int x1)] [] m o m2 (d + 33) (40 * d + 669)) (f272 : ∀ {x1 : Int32} {m m2 : sh_X} {o : Outcome} {z : (Int32 × sh_X)}, Q.f272 x1 m = some z → (sh_tI o m2) z → sh_Lk 272 0 [(0, .ref 67), (1, .int x1)] [] m o m2 (d + 33) (40 * d + 669)) (f273 : ∀ {x1 : Int32} {x2 : Int32} {x3 : Int32} {m m2 : sh_X} {o : Outcome} {z : (Bool × sh_X)}, Q.f273 x1 x2 x3 m = some z → (sh_tZ o m2) z → sh_Lk 273 0 [(0, .ref 67), (1, .int x1), (2, .int x2), (3, .int x3)] [] m o m2 (d + 33) (40 * d + 669)) : sh_QL240 Q d := ⟨f267, f269, f270, f271, f272, f273⟩
theorem sl_267 {Q : sh_Q240} {d : Nat} {x1 : Int32} {m m2 : sh_X} {o : Outcome} {z : (Int32 × sh_X)} (hQ : sh_QL240 Q d) (e : sf_267 Q x1 m = some z) (tg : (sh_tI o m2) z) : sh_Lk 267 0 [(0, .ref 67), (1, .int x1)] [] m o m2 (d + 1 + 33) (40 * (d + 1) + 669) := by
  unfold sf_267 at e
  refine sh_Lk_lift (T := m.T) (I := m.I) (J := m.J) (s := m.s) (pc2 := 3) (lv2 := [(0, .ref 67), (1, .int x1)]) (st2 := [.int 40, .int x1]) (I2 := m.I) (J2 := m.J) (fun hT v kk => ?_) ?_
  · refine sh_w (i := (.iload_n 1)) (len := 1) (pc2 := 1) (lv2 := [(0, .ref 67), (1, .int x1)]) (st2 := [.int x1]) (h2 := (sh_rep m.T m.I m.J)) rfl rfl rfl ?_
    refine sh_w (i := (.bipush 40)) (len := 2) (pc2 := 3) (lv2 := [(0, .ref 67), (1, .int x1)]) (st2 := [.int 40, .int x1]) (h2 := (sh_rep m.T m.I m.J)) rfl rfl rfl ?_
    exact kk
  rcases sh_ite e with ⟨c, e⟩ | ⟨c, e⟩
  · refine sh_Lk_lift (T := m.T) (I := m.I) (J := m.J) (s := m.s) (pc2 := 7) (lv2 := [(0, .ref 67), (1, .int x1)]) (st2 := [.ref 67]) (I2 := m.I) (J2 := m.J) (fun hT v kk => ?_) ?_
    · refine sh_jc (c := .le) (off := (8)) (pc2 := 6) false rfl (sh_Blef c) rfl ?_
      refine sh_w (i := (.aload_n 0)) (len := 1) (pc2 := 7) (lv2 := [(0, .ref 67), (1, .int x1)]) (st2 := [.ref 67]) (h2 := (sh_rep m.T m.I m.J)) rfl rfl rfl ?_
      exact kk
    obtain ⟨r1, m11, e1, e⟩ := sh_bn_e e
    refine sh_Lk_cV (r := (some (.int r1))) (st2 := [.int r1]) (pc2 := 10) (k2 := 268) (a := 66) (as := [.ref 67]) (rest := []) rfl rfl rfl (fun hT => (sh_s66 hT.st)) rfl rfl ⟨Nat.le_of_ble_eq_true rfl, Nat.le_of_ble_eq_true rfl⟩ (sl_268 e1 ⟨rfl, rfl⟩) rfl rfl (show 9 + 1 ≤ d + 1 + 33 by omega) (show 8 + (1 + 11) + (222) ≤ 40 * (d + 1) + 669 by omega) ?_
    obtain rfl := Option.some.inj e
    obtain ⟨rfl, rfl⟩ := tg
    exact sh_Lk_ret (i := .ireturn) rfl rfl rfl (by omega) (by omega)
  · refine sh_Lk_lift (T := m.T) (I := m.I) (J := m.J) (s := m.s) (pc2 := 14) (lv2 := [(0, .ref 67), (1, .int x1)]) (st2 := [.int x1, .int 1, .ref 67]) (I2 := m.I) (J2 := m.J) (fun hT v kk => ?_) ?_
    · refine sh_jc (c := .le) (off := (8)) (pc2 := 11) true rfl (sh_Blet c) rfl ?_
      refine sh_w (i := (.aload_n 0)) (len := 1) (pc2 := 12) (lv2 := [(0, .ref 67), (1, .int x1)]) (st2 := [.ref 67]) (h2 := (sh_rep m.T m.I m.J)) rfl rfl rfl ?_
      refine sh_w (i := (.iconst 1)) (len := 1) (pc2 := 13) (lv2 := [(0, .ref 67), (1, .int x1)]) (st2 := [.int 1, .ref 67]) (h2 := (sh_rep m.T m.I m.J)) rfl rfl rfl ?_
      refine sh_w (i := (.iload_n 1)) (len := 1) (pc2 := 14) (lv2 := [(0, .ref 67), (1, .int x1)]) (st2 := [.int x1, .int 1, .ref 67]) (h2 := (sh_rep m.T m.I m.J)) rfl rfl rfl ?_
      exact kk
    obtain ⟨r2, m12, e2, e⟩ := sh_bn_e e
    refine sh_Lk_cV (r := (some (.int r2))) (st2 := [.int r2]) (pc2 := 17) (k2 := 269) (a := 66) (as := [.ref 67, .int 1, .int x1]) (rest := []) rfl rfl rfl (fun hT => (sh_s66 hT.st)) rfl rfl ⟨Nat.le_of_ble_eq_true rfl, Nat.le_of_ble_eq_true rfl⟩ (hQ.f269 e2 ⟨rfl, rfl⟩) rfl rfl (show d + 33 + 1 ≤ d + 1 + 33 by omega) (show 8 + (7 + 11) + (40 * d + 669) ≤ 40 * (d + 1) + 669 by omega) ?_
    obtain rfl := Option.some.inj e
    obtain ⟨rfl, rfl⟩ := tg
    exact sh_Lk_ret (i := .ireturn) rfl rfl rfl (by omega) (by omega)
theorem sl_269_6s {Q : sh_Q240} {d : Nat} {x1 : Int32} {x2 : Int32} {x3 : Int32} {m m2 : sh_X} {o : Outcome} {z : ((Int32 × sh_X) ⊕ (Int32 × sh_X))} (hQ : sh_QL240 Q d) (e : sf_269_6s Q x1 x2 x3 m = some z) (tg : (sh_el (fun q => sh_Lk 269 6 [(0, .ref 67), (1, .int x1), (2, .int x2), (3, .int q.1)] [] q.2 o m2 (d + 1 + 33) (40 * (d + 1) + 669)) (sh_tI o m2)) z) : sh_Lk 269 6 [(0, .ref 67), (1, .int x1), (2, .int x2), (3, .int x3)] [] m o m2 (d + 1 + 33) (40 * (d + 1) + 669) := by
  unfold sf_269_6s at e
  refine sh_Lk_lift (T := m.T) (I := m.I) (J := m.J) (s := m.s) (pc2 := 7) (lv2 := [(0, .ref 67), (1, .int x1), (2, .int x2), (3, .int x3)]) (st2 := [.int x3]) (I2 := m.I) (J2 := m.J) (fun hT v kk => ?_) ?_
  · refine sh_w (i := (.iload_n 3)) (len := 1) (pc2 := 7) (lv2 := [(0, .ref 67), (1, .int x1), (2, .int x2), (3, .int x3)]) (st2 := [.int x3]) (h2 := (sh_rep m.T m.I m.J)) rfl rfl rfl ?_
    exact kk
  rcases sh_ite e with ⟨c, e⟩ | ⟨c, e⟩
  · refine sh_Lk_lift (T := m.T) (I := m.I) (J := m.J) (s := m.s) (pc2 := 101) (lv2 := [(0, .ref 67), (1, .int x1), (2, .int x2), (3, .int x3)]) (st2 := [.int x3]) (I2 := m.I) (J2 := m.J) (fun hT v kk => ?_) ?_
    · refine sh_j0 (c := .lt) (off := (93)) (pc2 := 100) true rfl (sh_Bltt c) rfl ?_
      refine sh_w (i := (.iload_n 3)) (len := 1) (pc2 := 101) (lv2 := [(0, .ref 67), (1, .int x1), (2, .int x2), (3, .int x3)]) (st2 := [.int x3]) (h2 := (sh_rep m.T m.I m.J)) rfl rfl rfl ?_
      exact kk
    obtain rfl := Option.some.inj e
    obtain ⟨rfl, rfl⟩ := tg
    exact sh_Lk_ret (i := .ireturn) rfl rfl rfl (by omega) (by omega)
  · refine sh_Lk_lift (T := m.T) (I := m.I) (J := m.J) (s := m.s) (pc2 := 18) (lv2 := [(0, .ref 67), (1, .int x1), (2, .int x2), (3, .int x3)]) (st2 := [.int (m.I 66 21), .ref 69]) (I2 := m.I) (J2 := m.J) (fun hT v kk => ?_) ?_
    · refine sh_j0 (c := .lt) (off := (93)) (pc2 := 10) false rfl (sh_Bltf c) rfl ?_
      refine sh_w (i := (.aload_n 0)) (len := 1) (pc2 := 11) (lv2 := [(0, .ref 67), (1, .int x1), (2, .int x2), (3, .int x3)]) (st2 := [.ref 67]) (h2 := (sh_rep m.T m.I m.J)) rfl rfl rfl ?_
      refine sh_gR1 (len := 3) (x := .ref 69) (pc2 := 14) rfl rfl (sh_s66 hT.st) rfl rfl ?_
      refine sh_w (i := (.aload_n 0)) (len := 1) (pc2 := 15) (lv2 := [(0, .ref 67), (1, .int x1), (2, .int x2), (3, .int x3)]) (st2 := [.ref 67, .ref 69]) (h2 := (sh_rep m.T m.I m.J)) rfl rfl rfl ?_
      refine sh_gI1 (len := 3) (x := m.I 66 21) (pc2 := 18) rfl rfl (sh_s66 hT.st) rfl rfl rfl ?_
      exact kk
    obtain ⟨c, e⟩ := sh_gd e
    refine sh_Lk_lift (T := m.T) (I := m.I) (J := m.J) (s := m.s) (pc2 := 19) (lv2 := [(0, .ref 67), (1, .int x1), (2, .int x2), (3, .int x3)]) (st2 := [.int (m.I 68 (Int32.toNatClampNeg (m.I 66 21)))]) (I2 := m.I) (J2 := m.J) (fun hT v kk => ?_) ?_
    · refine sh_ia1 (x := m.I 68 (Int32.toNatClampNeg (m.I 66 21))) (pc2 := 19) rfl (sh_s68 hT.st) (sh_okb1 c) (sh_okb2 c) rfl rfl ?_
      exact kk
    refine sh_Lk_cS (r := (some (.int (sf_274 (m.I 68 (Int32.toNatClampNeg (m.I 66 21))))))) (st2 := [.int (sf_274 (m.I 68 (Int32.toNatClampNeg (m.I 66 21))))]) (pc2 := 22) (k2 := 274) (as := [.int (m.I 68 (Int32.toNatClampNeg (m.I 66 21)))]) (rest := []) rfl rfl (by decide) (Nat.le_of_ble_eq_true rfl) rfl rfl ⟨Nat.le_of_ble_eq_true rfl, Nat.le_of_ble_eq_true rfl⟩ (sl_274 (m := m) rfl ⟨rfl, rfl⟩) rfl rfl (show 8 + 1 ≤ d + 1 + 33 by omega) (show 8 + (1 + 11) + (200) ≤ 40 * (d + 1) + 669 by omega) ?_
    refine sh_Lk_lift (T := m.T) (I := m.I) (J := m.J) (s := m.s) (pc2 := 23) (lv2 := [(0, .ref 67), (1, .int x1), (2, .int x2), (3, .int x3)]) (st2 := [.int x1, .int (sf_274 (m.I 68 (Int32.toNatClampNeg (m.I 66 21))))]) (I2 := m.I) (J2 := m.J) (fun hT v kk => ?_) ?_
    · refine sh_w (i := (.iload_n 1)) (len := 1) (pc2 := 23) (lv2 := [(0, .ref 67), (1, .int x1), (2, .int x2), (3, .int x3)]) (st2 := [.int x1, .int (sf_274 (m.I 68 (Int32.toNatClampNeg (m.I 66 21))))]) (h2 := (sh_rep m.T m.I m.J)) rfl rfl rfl ?_
      exact kk
    rcases sh_ite e with ⟨c, e⟩ | ⟨c, e⟩
    · refine sh_Lk_lift (T := m.T) (I := m.I) (J := m.J) (s := m.s) (pc2 := 101) (lv2 := [(0, .ref 67), (1, .int x1), (2, .int x2), (3, .int x3)]) (st2 := [.int x3]) (I2 := m.I) (J2 := m.J) (fun hT v kk => ?_) ?_
      · refine sh_jc (c := .lt) (off := (77)) (pc2 := 100) true rfl (sh_Bltt c) rfl ?_
        refine sh_w (i := (.iload_n 3)) (len := 1) (pc2 := 101) (lv2 := [(0, .ref 67), (1, .int x1), (2, .int x2), (3, .int x3)]) (st2 := [.int x3]) (h2 := (sh_rep m.T m.I m.J)) rfl rfl rfl ?_
        exact kk
      obtain rfl := Option.some.inj e
      obtain ⟨rfl, rfl⟩ := tg
      exact sh_Lk_ret (i := .ireturn) rfl rfl rfl (by omega) (by omega)
    · refine sh_Lk_lift (T := m.T) (I := m.I) (J := m.J) (s := m.s) (pc2 := 49) (lv2 := [(4, .int (m.I 66 21)), (0, .ref 67), (1, .int x1), (2, .int x2), (3, .int x3)]) (st2 := [.int (m.I 66 21), .ref 69, .ref 67]) (I2 := sh_u2 m.I 66 21 ((m.I 66 21) + 1)) (J2 := m.J) (fun hT v kk => ?_) ?_
      · refine sh_jc (c := .lt) (off := (77)) (pc2 := 26) false rfl (sh_Bltf c) rfl ?_
        refine sh_w (i := (.aload_n 0)) (len := 1) (pc2 := 27) (lv2 := [(0, .ref 67), (1, .int x1), (2, .int x2), (3, .int x3)]) (st2 := [.ref 67]) (h2 := (sh_rep m.T m.I m.J)) rfl rfl rfl ?_
        refine sh_gI1 (len := 3) (x := m.I 66 21) (pc2 := 30) rfl rfl (sh_s66 hT.st) rfl rfl rfl ?_
        refine sh_w (i := (.istore 4)) (len := 2) (pc2 := 32) (lv2 := [(4, .int (m.I 66 21)), (0, .ref 67), (1, .int x1), (2, .int x2), (3, .int x3)]) (st2 := []) (h2 := (sh_rep m.T m.I m.J)) rfl rfl rfl ?_
        refine sh_w (i := (.aload_n 0)) (len := 1) (pc2 := 33) (lv2 := [(4, .int (m.I 66 21)), (0, .ref 67), (1, .int x1), (2, .int x2), (3, .int x3)]) (st2 := [.ref 67]) (h2 := (sh_rep m.T m.I m.J)) rfl rfl rfl ?_
        refine sh_w (i := .dup) (len := 1) (pc2 := 34) (lv2 := [(4, .int (m.I 66 21)), (0, .ref 67), (1, .int x1), (2, .int x2), (3, .int x3)]) (st2 := [.ref 67, .ref 67]) (h2 := (sh_rep m.T m.I m.J)) rfl rfl rfl ?_
        refine sh_gI1 (len := 3) (x := m.I 66 21) (pc2 := 37) rfl rfl (sh_s66 hT.st) rfl rfl rfl ?_
        refine sh_w (i := (.iconst 1)) (len := 1) (pc2 := 38) (lv2 := [(4, .int (m.I 66 21)), (0, .ref 67), (1, .int x1), (2, .int x2), (3, .int x3)]) (st2 := [.int 1, .int (m.I 66 21), .ref 67]) (h2 := (sh_rep m.T m.I m.J)) rfl rfl rfl ?_
        refine sh_w (i := .iadd) (len := 1) (pc2 := 39) (lv2 := [(4, .int (m.I 66 21)), (0, .ref 67), (1, .int x1), (2, .int x2), (3, .int x3)]) (st2 := [.int ((m.I 66 21) + 1), .ref 67]) (h2 := (sh_rep m.T m.I m.J)) rfl rfl rfl ?_
        refine sh_pI1 (x := (m.I 66 21) + 1) (pc2 := 42) rfl rfl (sh_s66 hT.st) rfl rfl rfl rfl ?_
        refine sh_w (i := (.aload_n 0)) (len := 1) (pc2 := 43) (lv2 := [(4, .int (m.I 66 21)), (0, .ref 67), (1, .int x1), (2, .int x2), (3, .int x3)]) (st2 := [.ref 67]) (h2 := (sh_rep m.T (sh_u2 m.I 66 21 ((m.I 66 21) + 1)) m.J)) rfl rfl rfl ?_
        refine sh_w (i := (.aload_n 0)) (len := 1) (pc2 := 44) (lv2 := [(4, .int (m.I 66 21)), (0, .ref 67), (1, .int x1), (2, .int x2), (3, .int x3)]) (st2 := [.ref 67, .ref 67]) (h2 := (sh_rep m.T (sh_u2 m.I 66 21 ((m.I 66 21) + 1)) m.J)) rfl rfl rfl ?_
        refine sh_gR1 (len := 3) (x := .ref 69) (pc2 := 47) rfl rfl (sh_s66 hT.st) rfl rfl ?_
        refine sh_w (i := (.iload 4)) (len := 2) (pc2 := 49) (lv2 := [(4, .int (m.I 66 21)), (0, .ref 67), (1, .int x1), (2, .int x2), (3, .int x3)]) (st2 := [.int (m.I 66 21), .ref 69, .ref 67]) (h2 := (sh_rep m.T (sh_u2 m.I 66 21 ((m.I 66 21) + 1)) m.J)) rfl rfl rfl ?_
        exact kk
      obtain ⟨c, e⟩ := sh_gd e
      refine sh_Lk_lift (T := m.T) (I := sh_u2 m.I 66 21 ((m.I 66 21) + 1)) (J := m.J) (s := m.s) (pc2 := 50) (lv2 := [(4, .int (m.I 66 21)), (0, .ref 67), (1, .int x1), (2, .int x2), (3, .int x3)]) (st2 := [.int (m.I 68 (Int32.toNatClampNeg (m.I 66 21))), .ref 67]) (I2 := sh_u2 m.I 66 21 ((m.I 66 21) + 1)) (J2 := m.J) (fun hT v kk => ?_) ?_
      · refine sh_ia1 (x := m.I 68 (Int32.toNatClampNeg (m.I 66 21))) (pc2 := 50) rfl (sh_s68 hT.st) (sh_okb1 c) (sh_okb2 c) rfl rfl ?_
        exact kk
      refine sh_Lk_cS (r := (some (.int (sf_274 (m.I 68 (Int32.toNatClampNeg (m.I 66 21))))))) (st2 := [.int (sf_274 (m.I 68 (Int32.toNatClampNeg (m.I 66 21)))), .ref 67]) (pc2 := 53) (k2 := 274) (as := [.int (m.I 68 (Int32.toNatClampNeg (m.I 66 21)))]) (rest := [.ref 67]) rfl rfl (by decide) (Nat.le_of_ble_eq_true rfl) rfl rfl ⟨Nat.le_of_ble_eq_true rfl, Nat.le_of_ble_eq_true rfl⟩ (sl_274 (m := ⟨m.T, sh_u2 m.I 66 21 ((m.I 66 21) + 1), m.J, m.s⟩) rfl ⟨rfl, rfl⟩) rfl rfl (show 8 + 1 ≤ d + 1 + 33 by omega) (show 8 + (1 + 11) + (200) ≤ 40 * (d + 1) + 669 by omega) ?_
      refine sh_Lk_lift (T := m.T) (I := sh_u2 m.I 66 21 ((m.I 66 21) + 1)) (J := m.J) (s := m.s) (pc2 := 56) (lv2 := [(4, .int (m.I 66 21)), (0, .ref 67), (1, .int x1), (2, .int x2), (3, .int x3)]) (st2 := [.int x2, .int ((sf_274 (m.I 68 (Int32.toNatClampNeg (m.I 66 21)))) + 1), .ref 67]) (I2 := sh_u2 m.I 66 21 ((m.I 66 21) + 1)) (J2 := m.J) (fun hT v kk => ?_) ?_
      · refine sh_w (i := (.iconst 1)) (len := 1) (pc2 := 54) (lv2 := [(4, .int (m.I 66 21)), (0, .ref 67), (1, .int x1), (2, .int x2), (3, .int x3)]) (st2 := [.int 1, .int (sf_274 (m.I 68 (Int32.toNatClampNeg (m.I 66 21)))), .ref 67]) (h2 := (sh_rep m.T (sh_u2 m.I 66 21 ((m.I 66 21) + 1)) m.J)) rfl rfl rfl ?_
        refine sh_w (i := .iadd) (len := 1) (pc2 := 55) (lv2 := [(4, .int (m.I 66 21)), (0, .ref 67), (1, .int x1), (2, .int x2), (3, .int x3)]) (st2 := [.int ((sf_274 (m.I 68 (Int32.toNatClampNeg (m.I 66 21)))) + 1), .ref 67]) (h2 := (sh_rep m.T (sh_u2 m.I 66 21 ((m.I 66 21) + 1)) m.J)) rfl rfl rfl ?_
        refine sh_w (i := (.iload_n 2)) (len := 1) (pc2 := 56) (lv2 := [(4, .int (m.I 66 21)), (0, .ref 67), (1, .int x1), (2, .int x2), (3, .int x3)]) (st2 := [.int x2, .int ((sf_274 (m.I 68 (Int32.toNatClampNeg (m.I 66 21)))) + 1), .ref 67]) (h2 := (sh_rep m.T (sh_u2 m.I 66 21 ((m.I 66 21) + 1)) m.J)) rfl rfl rfl ?_
        exact kk
      obtain ⟨r3, m13, e3, e⟩ := sh_bn_e e
      refine sh_Lk_cV (r := (some (.int r3))) (st2 := [.int r3]) (pc2 := 59) (k2 := 269) (a := 66) (as := [.ref 67, .int ((sf_274 (m.I 68 (Int32.toNatClampNeg (m.I 66 21)))) + 1), .int x2]) (rest := []) rfl rfl rfl (fun hT => (sh_s66 hT.st)) rfl rfl ⟨Nat.le_of_ble_eq_true rfl, Nat.le_of_ble_eq_true rfl⟩ (hQ.f269 e3 ⟨rfl, rfl⟩) rfl rfl (show d + 33 + 1 ≤ d + 1 + 33 by omega) (show 8 + (7 + 11) + (40 * d + 669) ≤ 40 * (d + 1) + 669 by omega) ?_
      refine sh_Lk_lift (T := m13.T) (I := m13.I) (J := m13.J) (s := m13.s) (pc2 := 63) (lv2 := [(5, .int r3), (4, .int (m.I 66 21)), (0, .ref 67), (1, .int x1), (2, .int x2), (3, .int x3)]) (st2 := [.int r3]) (I2 := m13.I) (J2 := m13.J) (fun hT v kk => ?_) ?_
      · refine sh_w (i := (.istore 5)) (len := 2) (pc2 := 61) (lv2 := [(5, .int r3), (4, .int (m.I 66 21)), (0, .ref 67), (1, .int x1), (2, .int x2), (3, .int x3)]) (st2 := []) (h2 := (sh_rep m13.T m13.I m13.J)) rfl rfl rfl ?_
        refine sh_w (i := (.iload 5)) (len := 2) (pc2 := 63) (lv2 := [(5, .int r3), (4, .int (m.I 66 21)), (0, .ref 67), (1, .int x1), (2, .int x2), (3, .int x3)]) (st2 := [.int r3]) (h2 := (sh_rep m13.T m13.I m13.J)) rfl rfl rfl ?_
        exact kk
      rcases sh_ite e with ⟨c, e⟩ | ⟨c, e⟩
      · refine sh_Lk_lift (T := m13.T) (I := m13.I) (J := m13.J) (s := m13.s) (pc2 := 67) (lv2 := [(5, .int r3), (4, .int (m.I 66 21)), (0, .ref 67), (1, .int x1), (2, .int x2), (3, .int x3)]) (st2 := [.int (-1)]) (I2 := m13.I) (J2 := m13.J) (fun hT v kk => ?_) ?_
        · refine sh_j0 (c := .ge) (off := (5)) (pc2 := 66) false rfl (sh_Bgef c) rfl ?_
          refine sh_w (i := (.iconst (-1))) (len := 1) (pc2 := 67) (lv2 := [(5, .int r3), (4, .int (m.I 66 21)), (0, .ref 67), (1, .int x1), (2, .int x2), (3, .int x3)]) (st2 := [.int (-1)]) (h2 := (sh_rep m13.T m13.I m13.J)) rfl rfl rfl ?_
          exact kk
        obtain rfl := Option.some.inj e
        obtain ⟨rfl, rfl⟩ := tg
        exact sh_Lk_ret (i := .ireturn) rfl rfl rfl (by omega) (by omega)
      · refine sh_Lk_lift (T := m13.T) (I := m13.I) (J := m13.J) (s := m13.s) (pc2 := 76) (lv2 := [(5, .int r3), (4, .int (m.I 66 21)), (0, .ref 67), (1, .int x1), (2, .int x2), (3, .int x3)]) (st2 := [.int r3, .int x3, .int (m.I 66 21), .int 10, .ref 67]) (I2 := m13.I) (J2 := m13.J) (fun hT v kk => ?_) ?_
        · refine sh_j0 (c := .ge) (off := (5)) (pc2 := 68) true rfl (sh_Bget c) rfl ?_
          refine sh_w (i := (.aload_n 0)) (len := 1) (pc2 := 69) (lv2 := [(5, .int r3), (4, .int (m.I 66 21)), (0, .ref 67), (1, .int x1), (2, .int x2), (3, .int x3)]) (st2 := [.ref 67]) (h2 := (sh_rep m13.T m13.I m13.J)) rfl rfl rfl ?_
          refine sh_w (i := (.bipush 10)) (len := 2) (pc2 := 71) (lv2 := [(5, .int r3), (4, .int (m.I 66 21)), (0, .ref 67), (1, .int x1), (2, .int x2), (3, .int x3)]) (st2 := [.int 10, .ref 67]) (h2 := (sh_rep m13.T m13.I m13.J)) rfl rfl rfl ?_
          refine sh_w (i := (.iload 4)) (len := 2) (pc2 := 73) (lv2 := [(5, .int r3), (4, .int (m.I 66 21)), (0, .ref 67), (1, .int x1), (2, .int x2), (3, .int x3)]) (st2 := [.int (m.I 66 21), .int 10, .ref 67]) (h2 := (sh_rep m13.T m13.I m13.J)) rfl rfl rfl ?_
          refine sh_w (i := (.iload_n 3)) (len := 1) (pc2 := 74) (lv2 := [(5, .int r3), (4, .int (m.I 66 21)), (0, .ref 67), (1, .int x1), (2, .int x2), (3, .int x3)]) (st2 := [.int x3, .int (m.I 66 21), .int 10, .ref 67]) (h2 := (sh_rep m13.T m13.I m13.J)) rfl rfl rfl ?_
          refine sh_w (i := (.iload 5)) (len := 2) (pc2 := 76) (lv2 := [(5, .int r3), (4, .int (m.I 66 21)), (0, .ref 67), (1, .int x1), (2, .int x2), (3, .int x3)]) (st2 := [.int r3, .int x3, .int (m.I 66 21), .int 10, .ref 67]) (h2 := (sh_rep m13.T m13.I m13.J)) rfl rfl rfl ?_
          exact kk
        obtain ⟨r4, m14, e4, e⟩ := sh_bn_e e
        refine sh_Lk_cV (r := (some (.int r4))) (st2 := [.int r4]) (pc2 := 79) (k2 := 266) (a := 66) (as := [.ref 67, .int 10, .int (m.I 66 21), .int x3, .int r3]) (rest := []) rfl rfl rfl (fun hT => (sh_s66 hT.st)) rfl rfl ⟨Nat.le_of_ble_eq_true rfl, Nat.le_of_ble_eq_true rfl⟩ (sl_266 e4 ⟨rfl, rfl⟩) rfl rfl (show 8 + 1 ≤ d + 1 + 33 by omega) (show 8 + (5 + 11) + (200) ≤ 40 * (d + 1) + 669 by omega) ?_
        refine sh_Lk_lift (T := m14.T) (I := m14.I) (J := m14.J) (s := m14.s) (pc2 := 92) (lv2 := [(6, .int r4), (5, .int r3), (4, .int (m.I 66 21)), (0, .ref 67), (1, .int x1), (2, .int x2), (3, .int x3)]) (st2 := [.int x3, .ref 79, .int r4, .ref 79]) (I2 := m14.I) (J2 := m14.J) (fun hT v kk => ?_) ?_
        · refine sh_w (i := (.istore 6)) (len := 2) (pc2 := 81) (lv2 := [(6, .int r4), (5, .int r3), (4, .int (m.I 66 21)), (0, .ref 67), (1, .int x1), (2, .int x2), (3, .int x3)]) (st2 := []) (h2 := (sh_rep m14.T m14.I m14.J)) rfl rfl rfl ?_
          refine sh_w (i := (.aload_n 0)) (len := 1) (pc2 := 82) (lv2 := [(6, .int r4), (5, .int r3), (4, .int (m.I 66 21)), (0, .ref 67), (1, .int x1), (2, .int x2), (3, .int x3)]) (st2 := [.ref 67]) (h2 := (sh_rep m14.T m14.I m14.J)) rfl rfl rfl ?_
          refine sh_gR1 (len := 3) (x := .ref 79) (pc2 := 85) rfl rfl (sh_s66 hT.st) rfl rfl ?_
          refine sh_w (i := (.iload 6)) (len := 2) (pc2 := 87) (lv2 := [(6, .int r4), (5, .int r3), (4, .int (m.I 66 21)), (0, .ref 67), (1, .int x1), (2, .int x2), (3, .int x3)]) (st2 := [.int r4, .ref 79]) (h2 := (sh_rep m14.T m14.I m14.J)) rfl rfl rfl ?_
          refine sh_w (i := (.aload_n 0)) (len := 1) (pc2 := 88) (lv2 := [(6, .int r4), (5, .int r3), (4, .int (m.I 66 21)), (0, .ref 67), (1, .int x1), (2, .int x2), (3, .int x3)]) (st2 := [.ref 67, .int r4, .ref 79]) (h2 := (sh_rep m14.T m14.I m14.J)) rfl rfl rfl ?_
          refine sh_gR1 (len := 3) (x := .ref 79) (pc2 := 91) rfl rfl (sh_s66 hT.st) rfl rfl ?_
          refine sh_w (i := (.iload_n 3)) (len := 1) (pc2 := 92) (lv2 := [(6, .int r4), (5, .int r3), (4, .int (m.I 66 21)), (0, .ref 67), (1, .int x1), (2, .int x2), (3, .int x3)]) (st2 := [.int x3, .ref 79, .int r4, .ref 79]) (h2 := (sh_rep m14.T m14.I m14.J)) rfl rfl rfl ?_
          exact kk
        obtain ⟨c, e⟩ := sh_gd e
        refine sh_Lk_lift (T := m14.T) (I := m14.I) (J := m14.J) (s := m14.s) (pc2 := 93) (lv2 := [(6, .int r4), (5, .int r3), (4, .int (m.I 66 21)), (0, .ref 67), (1, .int x1), (2, .int x2), (3, .int x3)]) (st2 := [.int (m14.I 78 (Int32.toNatClampNeg x3)), .int r4, .ref 79]) (I2 := m14.I) (J2 := m14.J) (fun hT v kk => ?_) ?_
        · refine sh_ia1 (x := m14.I 78 (Int32.toNatClampNeg x3)) (pc2 := 93) rfl (sh_s78 hT.st) (sh_okb1 c) (sh_okb2 c) rfl rfl ?_
          exact kk
        obtain ⟨c, e⟩ := sh_gd e
        refine sh_Lk_lift (T := m14.T) (I := m14.I) (J := m14.J) (s := m14.s) (pc2 := 6) (lv2 := [(3, .int r4), (6, .int r4), (5, .int r3), (4, .int (m.I 66 21)), (0, .ref 67), (1, .int x1), (2, .int x2)]) (st2 := []) (I2 := sh_u2 m14.I 78 (Int32.toNatClampNeg r4) (m14.I 78 (Int32.toNatClampNeg x3))) (J2 := m14.J) (fun hT v kk => ?_) ?_
        · refine sh_is1 (x := m14.I 78 (Int32.toNatClampNeg x3)) (i := r4) (pc2 := 94) rfl (sh_s78 hT.st) (sh_okb1 c) (sh_okb2 c) rfl ?_
          refine sh_w (i := (.iload 6)) (len := 2) (pc2 := 96) (lv2 := [(6, .int r4), (5, .int r3), (4, .int (m.I 66 21)), (0, .ref 67), (1, .int x1), (2, .int x2), (3, .int x3)]) (st2 := [.int r4]) (h2 := (sh_rep m14.T (sh_u2 m14.I 78 (Int32.toNatClampNeg r4) (m14.I 78 (Int32.toNatClampNeg x3))) m14.J)) rfl rfl rfl ?_
          refine sh_w (i := (.istore_n 3)) (len := 1) (pc2 := 97) (lv2 := [(3, .int r4), (6, .int r4), (5, .int r3), (4, .int (m.I 66 21)), (0, .ref 67), (1, .int x1), (2, .int x2)]) (st2 := []) (h2 := (sh_rep m14.T (sh_u2 m14.I 78 (Int32.toNatClampNeg r4) (m14.I 78 (Int32.toNatClampNeg x3))) m14.J)) rfl rfl rfl ?_
          refine sh_w (i := (.goto (-91))) (len := 3) (pc2 := 6) (lv2 := [(3, .int r4), (6, .int r4), (5, .int r3), (4, .int (m.I 66 21)), (0, .ref 67), (1, .int x1), (2, .int x2)]) (st2 := []) (h2 := (sh_rep m14.T (sh_u2 m14.I 78 (Int32.toNatClampNeg r4) (m14.I 78 (Int32.toNatClampNeg x3))) m14.J)) rfl rfl rfl ?_
          exact kk
        obtain rfl := Option.some.inj e
        exact sh_Lk_sub (sh_sub_c rfl (sh_sub_c rfl (sh_sub_c rfl (sh_sub_c rfl (sh_sub_n))))) tg
theorem sl_269_6 {Q : sh_Q240} {d : Nat} {x1 : Int32} {x2 : Int32} {x3 : Int32} {m m2 : sh_X} {o : Outcome} {z : (Int32 × sh_X)} (hQ : sh_QL240 Q d) (e : sf_269_6 Q x1 x2 x3 m = some z) (tg : (sh_tI o m2) z) : sh_Lk 269 6 [(0, .ref 67), (1, .int x1), (2, .int x2), (3, .int x3)] [] m o m2 (d + 1 + 33) (40 * (d + 1) + 669) := by
  unfold sf_269_6 at e
  exact sh_while_lk (P := fun q => sh_Lk 269 6 [(0, .ref 67), (1, .int x1), (2, .int x2), (3, .int q.1)] [] q.2 o m2 (d + 1 + 33) (40 * (d + 1) + 669)) (Q := (sh_tI o m2)) (fun q z e tg => sl_269_6s (x1 := x1) (x2 := x2) (x3 := q.1) (m := q.2) hQ e tg) (s := (x3, m)) e tg
theorem sl_269 {Q : sh_Q240} {d : Nat} {x1 : Int32} {x2 : Int32} {m m2 : sh_X} {o : Outcome} {z : (Int32 × sh_X)} (hQ : sh_QL240 Q d) (e : sf_269 Q x1 x2 m = some z) (tg : (sh_tI o m2) z) : sh_Lk 269 0 [(0, .ref 67), (1, .int x1), (2, .int x2)] [] m o m2 (d + 1 + 33) (40 * (d + 1) + 669) := by
  unfold sf_269 at e
  refine sh_Lk_lift (T := m.T) (I := m.I) (J := m.J) (s := m.s) (pc2 := 2) (lv2 := [(0, .ref 67), (1, .int x1), (2, .int x2)]) (st2 := [.int x2, .ref 67]) (I2 := m.I) (J2 := m.J) (fun hT v kk => ?_) ?_
  · refine sh_w (i := (.aload_n 0)) (len := 1) (pc2 := 1) (lv2 := [(0, .ref 67), (1, .int x1), (2, .int x2)]) (st2 := [.ref 67]) (h2 := (sh_rep m.T m.I m.J)) rfl rfl rfl ?_
    refine sh_w (i := (.iload_n 2)) (len := 1) (pc2 := 2) (lv2 := [(0, .ref 67), (1, .int x1), (2, .int x2)]) (st2 := [.int x2, .ref 67]) (h2 := (sh_rep m.T m.I m.J)) rfl rfl rfl ?_
    exact kk
  obtain ⟨r1, m11, e1, e⟩ := sh_bn_e e
  refine sh_Lk_cV (r := (some (.int r1))) (st2 := [.int r1]) (pc2 := 5) (k2 := 270) (a := 66) (as := [.ref 67, .int x2]) (rest := []) rfl rfl rfl (fun hT => (sh_s66 hT.st)) rfl rfl ⟨Nat.le_of_ble_eq_true rfl, Nat.le_of_ble_eq_true rfl⟩ (hQ.f270 e1 ⟨rfl, rfl⟩) rfl rfl (show d + 33 + 1 ≤ d + 1 + 33 by omega) (show 8 + (4 + 11) + (40 * d + 669) ≤ 40 * (d + 1) + 669 by omega) ?_
  refine sh_Lk_lift (T := m11.T) (I := m11.I) (J := m11.J) (s := m11.s) (pc2 := 6) (lv2 := [(3, .int r1), (0, .ref 67), (1, .int x1), (2, .int x2)]) (st2 := []) (I2 := m11.I) (J2 := m11.J) (fun hT v kk => ?_) ?_
  · refine sh_w (i := (.istore_n 3)) (len := 1) (pc2 := 6) (lv2 := [(3, .int r1), (0, .ref 67), (1, .int x1), (2, .int x2)]) (st2 := []) (h2 := (sh_rep m11.T m11.I m11.J)) rfl rfl rfl ?_
    exact kk
  exact sh_Lk_sub (sh_sub_c rfl (sh_sub_c rfl (sh_sub_c rfl (sh_sub_c rfl (sh_sub_n))))) (sl_269_6 hQ e tg)
theorem sl_270_59 {Q : sh_Q240} {d : Nat} {x1 : Int32} {m m2 : sh_X} {o : Outcome} {z : (Int32 × sh_X)} (hQ : sh_QL240 Q d) (e : sf_270_59 Q x1 m = some z) (tg : (sh_tI o m2) z) : sh_Lk 270 59 [(0, .ref 67), (1, .int x1)] [] m o m2 (d + 1 + 33) (40 * (d + 1) + 669) := by
  unfold sf_270_59 at e
  refine sh_Lk_lift (T := m.T) (I := m.I) (J := m.J) (s := m.s) (pc2 := 78) (lv2 := [(2, .int (m.I 66 21)), (0, .ref 67), (1, .int x1)]) (st2 := [.int (x1 + 1), .ref 67]) (I2 := sh_u2 m.I 66 21 ((m.I 66 21) + 1)) (J2 := m.J) (fun hT v kk => ?_) ?_
  · refine sh_w (i := (.aload_n 0)) (len := 1) (pc2 := 60) (lv2 := [(0, .ref 67), (1, .int x1)]) (st2 := [.ref 67]) (h2 := (sh_rep m.T m.I m.J)) rfl rfl rfl ?_
    refine sh_gI1 (len := 3) (x := m.I 66 21) (pc2 := 63) rfl rfl (sh_s66 hT.st) rfl rfl rfl ?_
    refine sh_w (i := (.istore_n 2)) (len := 1) (pc2 := 64) (lv2 := [(2, .int (m.I 66 21)), (0, .ref 67), (1, .int x1)]) (st2 := []) (h2 := (sh_rep m.T m.I m.J)) rfl rfl rfl ?_
    refine sh_w (i := (.aload_n 0)) (len := 1) (pc2 := 65) (lv2 := [(2, .int (m.I 66 21)), (0, .ref 67), (1, .int x1)]) (st2 := [.ref 67]) (h2 := (sh_rep m.T m.I m.J)) rfl rfl rfl ?_
    refine sh_w (i := .dup) (len := 1) (pc2 := 66) (lv2 := [(2, .int (m.I 66 21)), (0, .ref 67), (1, .int x1)]) (st2 := [.ref 67, .ref 67]) (h2 := (sh_rep m.T m.I m.J)) rfl rfl rfl ?_
    refine sh_gI1 (len := 3) (x := m.I 66 21) (pc2 := 69) rfl rfl (sh_s66 hT.st) rfl rfl rfl ?_
    refine sh_w (i := (.iconst 1)) (len := 1) (pc2 := 70) (lv2 := [(2, .int (m.I 66 21)), (0, .ref 67), (1, .int x1)]) (st2 := [.int 1, .int (m.I 66 21), .ref 67]) (h2 := (sh_rep m.T m.I m.J)) rfl rfl rfl ?_
    refine sh_w (i := .iadd) (len := 1) (pc2 := 71) (lv2 := [(2, .int (m.I 66 21)), (0, .ref 67), (1, .int x1)]) (st2 := [.int ((m.I 66 21) + 1), .ref 67]) (h2 := (sh_rep m.T m.I m.J)) rfl rfl rfl ?_
    refine sh_pI1 (x := (m.I 66 21) + 1) (pc2 := 74) rfl rfl (sh_s66 hT.st) rfl rfl rfl rfl ?_
    refine sh_w (i := (.aload_n 0)) (len := 1) (pc2 := 75) (lv2 := [(2, .int (m.I 66 21)), (0, .ref 67), (1, .int x1)]) (st2 := [.ref 67]) (h2 := (sh_rep m.T (sh_u2 m.I 66 21 ((m.I 66 21) + 1)) m.J)) rfl rfl rfl ?_
    refine sh_w (i := (.iload_n 1)) (len := 1) (pc2 := 76) (lv2 := [(2, .int (m.I 66 21)), (0, .ref 67), (1, .int x1)]) (st2 := [.int x1, .ref 67]) (h2 := (sh_rep m.T (sh_u2 m.I 66 21 ((m.I 66 21) + 1)) m.J)) rfl rfl rfl ?_
    refine sh_w (i := (.iconst 1)) (len := 1) (pc2 := 77) (lv2 := [(2, .int (m.I 66 21)), (0, .ref 67), (1, .int x1)]) (st2 := [.int 1, .int x1, .ref 67]) (h2 := (sh_rep m.T (sh_u2 m.I 66 21 ((m.I 66 21) + 1)) m.J)) rfl rfl rfl ?_
    refine sh_w (i := .iadd) (len := 1) (pc2 := 78) (lv2 := [(2, .int (m.I 66 21)), (0, .ref 67), (1, .int x1)]) (st2 := [.int (x1 + 1), .ref 67]) (h2 := (sh_rep m.T (sh_u2 m.I 66 21 ((m.I 66 21) + 1)) m.J)) rfl rfl rfl ?_
    exact kk
  obtain ⟨r1, m11, e1, e⟩ := sh_bn_e e
  refine sh_Lk_cV (r := (some (.int r1))) (st2 := [.int r1]) (pc2 := 81) (k2 := 270) (a := 66) (as := [.ref 67, .int (x1 + 1)]) (rest := []) rfl rfl rfl (fun hT => (sh_s66 hT.st)) rfl rfl ⟨Nat.le_of_ble_eq_true rfl, Nat.le_of_ble_eq_true rfl⟩ (hQ.f270 e1 ⟨rfl, rfl⟩) rfl rfl (show d + 33 + 1 ≤ d + 1 + 33 by omega) (show 8 + (4 + 11) + (40 * d + 669) ≤ 40 * (d + 1) + 669 by omega) ?_
  refine sh_Lk_lift (T := m11.T) (I := m11.I) (J := m11.J) (s := m11.s) (pc2 := 83) (lv2 := [(3, .int r1), (2, .int (m.I 66 21)), (0, .ref 67), (1, .int x1)]) (st2 := [.int r1]) (I2 := m11.I) (J2 := m11.J) (fun hT v kk => ?_) ?_
  · refine sh_w (i := (.istore_n 3)) (len := 1) (pc2 := 82) (lv2 := [(3, .int r1), (2, .int (m.I 66 21)), (0, .ref 67), (1, .int x1)]) (st2 := []) (h2 := (sh_rep m11.T m11.I m11.J)) rfl rfl rfl ?_
    refine sh_w (i := (.iload_n 3)) (len := 1) (pc2 := 83) (lv2 := [(3, .int r1), (2, .int (m.I 66 21)), (0, .ref 67), (1, .int x1)]) (st2 := [.int r1]) (h2 := (sh_rep m11.T m11.I m11.J)) rfl rfl rfl ?_
    exact kk
  rcases sh_ite e with ⟨c, e⟩ | ⟨c, e⟩
  · refine sh_Lk_lift (T := m11.T) (I := m11.I) (J := m11.J) (s := m11.s) (pc2 := 99) (lv2 := [(3, .int r1), (2, .int (m.I 66 21)), (0, .ref 67), (1, .int x1)]) (st2 := [.int (-1)]) (I2 := m11.I) (J2 := m11.J) (fun hT v kk => ?_) ?_
    · refine sh_j0 (c := .ge) (off := (7)) (pc2 := 86) false rfl (sh_Bgef c) rfl ?_
      refine sh_w (i := (.iconst (-1))) (len := 1) (pc2 := 87) (lv2 := [(3, .int r1), (2, .int (m.I 66 21)), (0, .ref 67), (1, .int x1)]) (st2 := [.int (-1)]) (h2 := (sh_rep m11.T m11.I m11.J)) rfl rfl rfl ?_
      refine sh_w (i := (.goto 12)) (len := 3) (pc2 := 99) (lv2 := [(3, .int r1), (2, .int (m.I 66 21)), (0, .ref 67), (1, .int x1)]) (st2 := [.int (-1)]) (h2 := (sh_rep m11.T m11.I m11.J)) rfl rfl rfl ?_
      exact kk
    obtain rfl := Option.some.inj e
    obtain ⟨rfl, rfl⟩ := tg
    exact sh_Lk_ret (i := .ireturn) rfl rfl rfl (by omega) (by omega)
  · refine sh_Lk_lift (T := m11.T) (I := m11.I) (J := m11.J) (s := m11.s) (pc2 := 96) (lv2 := [(3, .int r1), (2, .int (m.I 66 21)), (0, .ref 67), (1, .int x1)]) (st2 := [.int (-1), .int r1, .int (m.I 66 21), .int 9, .ref 67]) (I2 := m11.I) (J2 := m11.J) (fun hT v kk => ?_) ?_
    · refine sh_j0 (c := .ge) (off := (7)) (pc2 := 90) true rfl (sh_Bget c) rfl ?_
      refine sh_w (i := (.aload_n 0)) (len := 1) (pc2 := 91) (lv2 := [(3, .int r1), (2, .int (m.I 66 21)), (0, .ref 67), (1, .int x1)]) (st2 := [.ref 67]) (h2 := (sh_rep m11.T m11.I m11.J)) rfl rfl rfl ?_
      refine sh_w (i := (.bipush 9)) (len := 2) (pc2 := 93) (lv2 := [(3, .int r1), (2, .int (m.I 66 21)), (0, .ref 67), (1, .int x1)]) (st2 := [.int 9, .ref 67]) (h2 := (sh_rep m11.T m11.I m11.J)) rfl rfl rfl ?_
      refine sh_w (i := (.iload_n 2)) (len := 1) (pc2 := 94) (lv2 := [(3, .int r1), (2, .int (m.I 66 21)), (0, .ref 67), (1, .int x1)]) (st2 := [.int (m.I 66 21), .int 9, .ref 67]) (h2 := (sh_rep m11.T m11.I m11.J)) rfl rfl rfl ?_
      refine sh_w (i := (.iload_n 3)) (len := 1) (pc2 := 95) (lv2 := [(3, .int r1), (2, .int (m.I 66 21)), (0, .ref 67), (1, .int x1)]) (st2 := [.int r1, .int (m.I 66 21), .int 9, .ref 67]) (h2 := (sh_rep m11.T m11.I m11.J)) rfl rfl rfl ?_
      refine sh_w (i := (.iconst (-1))) (len := 1) (pc2 := 96) (lv2 := [(3, .int r1), (2, .int (m.I 66 21)), (0, .ref 67), (1, .int x1)]) (st2 := [.int (-1), .int r1, .int (m.I 66 21), .int 9, .ref 67]) (h2 := (sh_rep m11.T m11.I m11.J)) rfl rfl rfl ?_
      exact kk
    obtain ⟨r2, m12, e2, e⟩ := sh_bn_e e
    refine sh_Lk_cV (r := (some (.int r2))) (st2 := [.int r2]) (pc2 := 99) (k2 := 266) (a := 66) (as := [.ref 67, .int 9, .int (m.I 66 21), .int r1, .int (-1)]) (rest := []) rfl rfl rfl (fun hT => (sh_s66 hT.st)) rfl rfl ⟨Nat.le_of_ble_eq_true rfl, Nat.le_of_ble_eq_true rfl⟩ (sl_266 e2 ⟨rfl, rfl⟩) rfl rfl (show 8 + 1 ≤ d + 1 + 33 by omega) (show 8 + (5 + 11) + (200) ≤ 40 * (d + 1) + 669 by omega) ?_
    obtain rfl := Option.some.inj e
    obtain ⟨rfl, rfl⟩ := tg
    exact sh_Lk_ret (i := .ireturn) rfl rfl rfl (by omega) (by omega)
theorem sl_270 {Q : sh_Q240} {d : Nat} {x1 : Int32} {m m2 : sh_X} {o : Outcome} {z : (Int32 × sh_X)} (hQ : sh_QL240 Q d) (e : sf_270 Q x1 m = some z) (tg : (sh_tI o m2) z) : sh_Lk 270 0 [(0, .ref 67), (1, .int x1)] [] m o m2 (d + 1 + 33) (40 * (d + 1) + 669) := by
  unfold sf_270 at e
  refine sh_Lk_lift (T := m.T) (I := m.I) (J := m.J) (s := m.s) (pc2 := 3) (lv2 := [(0, .ref 67), (1, .int x1)]) (st2 := [.int 40, .int x1]) (I2 := m.I) (J2 := m.J) (fun hT v kk => ?_) ?_
  · refine sh_w (i := (.iload_n 1)) (len := 1) (pc2 := 1) (lv2 := [(0, .ref 67), (1, .int x1)]) (st2 := [.int x1]) (h2 := (sh_rep m.T m.I m.J)) rfl rfl rfl ?_
    refine sh_w (i := (.bipush 40)) (len := 2) (pc2 := 3) (lv2 := [(0, .ref 67), (1, .int x1)]) (st2 := [.int 40, .int x1]) (h2 := (sh_rep m.T m.I m.J)) rfl rfl rfl ?_
    exact kk
  rcases sh_ite e with ⟨c, e⟩ | ⟨c, e⟩
  · refine sh_Lk_lift (T := m.T) (I := m.I) (J := m.J) (s := m.s) (pc2 := 7) (lv2 := [(0, .ref 67), (1, .int x1)]) (st2 := [.ref 67]) (I2 := m.I) (J2 := m.J) (fun hT v kk => ?_) ?_
    · refine sh_jc (c := .le) (off := (8)) (pc2 := 6) false rfl (sh_Blef c) rfl ?_
      refine sh_w (i := (.aload_n 0)) (len := 1) (pc2 := 7) (lv2 := [(0, .ref 67), (1, .int x1)]) (st2 := [.ref 67]) (h2 := (sh_rep m.T m.I m.J)) rfl rfl rfl ?_
      exact kk
    obtain ⟨r1, m11, e1, e⟩ := sh_bn_e e
    refine sh_Lk_cV (r := (some (.int r1))) (st2 := [.int r1]) (pc2 := 10) (k2 := 268) (a := 66) (as := [.ref 67]) (rest := []) rfl rfl rfl (fun hT => (sh_s66 hT.st)) rfl rfl ⟨Nat.le_of_ble_eq_true rfl, Nat.le_of_ble_eq_true rfl⟩ (sl_268 e1 ⟨rfl, rfl⟩) rfl rfl (show 9 + 1 ≤ d + 1 + 33 by omega) (show 8 + (1 + 11) + (222) ≤ 40 * (d + 1) + 669 by omega) ?_
    obtain rfl := Option.some.inj e
    obtain ⟨rfl, rfl⟩ := tg
    exact sh_Lk_ret (i := .ireturn) rfl rfl rfl (by omega) (by omega)
  · refine sh_Lk_lift (T := m.T) (I := m.I) (J := m.J) (s := m.s) (pc2 := 19) (lv2 := [(0, .ref 67), (1, .int x1)]) (st2 := [.int (m.I 66 21), .ref 69]) (I2 := m.I) (J2 := m.J) (fun hT v kk => ?_) ?_
    · refine sh_jc (c := .le) (off := (8)) (pc2 := 11) true rfl (sh_Blet c) rfl ?_
      refine sh_w (i := (.aload_n 0)) (len := 1) (pc2 := 12) (lv2 := [(0, .ref 67), (1, .int x1)]) (st2 := [.ref 67]) (h2 := (sh_rep m.T m.I m.J)) rfl rfl rfl ?_
      refine sh_gR1 (len := 3) (x := .ref 69) (pc2 := 15) rfl rfl (sh_s66 hT.st) rfl rfl ?_
      refine sh_w (i := (.aload_n 0)) (len := 1) (pc2 := 16) (lv2 := [(0, .ref 67), (1, .int x1)]) (st2 := [.ref 67, .ref 69]) (h2 := (sh_rep m.T m.I m.J)) rfl rfl rfl ?_
      refine sh_gI1 (len := 3) (x := m.I 66 21) (pc2 := 19) rfl rfl (sh_s66 hT.st) rfl rfl rfl ?_
      exact kk
    obtain ⟨c, e⟩ := sh_gd e
    refine sh_Lk_lift (T := m.T) (I := m.I) (J := m.J) (s := m.s) (pc2 := 22) (lv2 := [(0, .ref 67), (1, .int x1)]) (st2 := [.int 45, .int (m.I 68 (Int32.toNatClampNeg (m.I 66 21)))]) (I2 := m.I) (J2 := m.J) (fun hT v kk => ?_) ?_
    · refine sh_ia1 (x := m.I 68 (Int32.toNatClampNeg (m.I 66 21))) (pc2 := 20) rfl (sh_s68 hT.st) (sh_okb1 c) (sh_okb2 c) rfl rfl ?_
      refine sh_w (i := (.bipush 45)) (len := 2) (pc2 := 22) (lv2 := [(0, .ref 67), (1, .int x1)]) (st2 := [.int 45, .int (m.I 68 (Int32.toNatClampNeg (m.I 66 21)))]) (h2 := (sh_rep m.T m.I m.J)) rfl rfl rfl ?_
      exact kk
    rcases sh_ite e with ⟨c, e⟩ | ⟨c, e⟩
    · refine sh_Lk_lift (T := m.T) (I := m.I) (J := m.J) (s := m.s) (pc2 := 59) (lv2 := [(0, .ref 67), (1, .int x1)]) (st2 := []) (I2 := m.I) (J2 := m.J) (fun hT v kk => ?_) ?_
      · refine sh_jc (c := .eq) (off := (37)) (pc2 := 59) true rfl (sh_Beqt c) rfl ?_
        exact kk
      exact sh_Lk_sub (sh_sub_c rfl (sh_sub_c rfl (sh_sub_n))) (sl_270_59 hQ e tg)
    · refine sh_Lk_lift (T := m.T) (I := m.I) (J := m.J) (s := m.s) (pc2 := 33) (lv2 := [(0, .ref 67), (1, .int x1)]) (st2 := [.int (m.I 66 21), .ref 69]) (I2 := m.I) (J2 := m.J) (fun hT v kk => ?_) ?_
      · refine sh_jc (c := .eq) (off := (37)) (pc2 := 25) false rfl (sh_Beqf c) rfl ?_
        refine sh_w (i := (.aload_n 0)) (len := 1) (pc2 := 26) (lv2 := [(0, .ref 67), (1, .int x1)]) (st2 := [.ref 67]) (h2 := (sh_rep m.T m.I m.J)) rfl rfl rfl ?_
        refine sh_gR1 (len := 3) (x := .ref 69) (pc2 := 29) rfl rfl (sh_s66 hT.st) rfl rfl ?_
        refine sh_w (i := (.aload_n 0)) (len := 1) (pc2 := 30) (lv2 := [(0, .ref 67), (1, .int x1)]) (st2 := [.ref 67, .ref 69]) (h2 := (sh_rep m.T m.I m.J)) rfl rfl rfl ?_
        refine sh_gI1 (len := 3) (x := m.I 66 21) (pc2 := 33) rfl rfl (sh_s66 hT.st) rfl rfl rfl ?_
        exact kk
      obtain ⟨c, e⟩ := sh_gd e
      refine sh_Lk_lift (T := m.T) (I := m.I) (J := m.J) (s := m.s) (pc2 := 36) (lv2 := [(0, .ref 67), (1, .int x1)]) (st2 := [.int 33, .int (m.I 68 (Int32.toNatClampNeg (m.I 66 21)))]) (I2 := m.I) (J2 := m.J) (fun hT v kk => ?_) ?_
      · refine sh_ia1 (x := m.I 68 (Int32.toNatClampNeg (m.I 66 21))) (pc2 := 34) rfl (sh_s68 hT.st) (sh_okb1 c) (sh_okb2 c) rfl rfl ?_
        refine sh_w (i := (.bipush 33)) (len := 2) (pc2 := 36) (lv2 := [(0, .ref 67), (1, .int x1)]) (st2 := [.int 33, .int (m.I 68 (Int32.toNatClampNeg (m.I 66 21)))]) (h2 := (sh_rep m.T m.I m.J)) rfl rfl rfl ?_
        exact kk
      rcases sh_ite e with ⟨c, e⟩ | ⟨c, e⟩
      · refine sh_Lk_lift (T := m.T) (I := m.I) (J := m.J) (s := m.s) (pc2 := 59) (lv2 := [(0, .ref 67), (1, .int x1)]) (st2 := []) (I2 := m.I) (J2 := m.J) (fun hT v kk => ?_) ?_
        · refine sh_jc (c := .eq) (off := (23)) (pc2 := 59) true rfl (sh_Beqt c) rfl ?_
          exact kk
        exact sh_Lk_sub (sh_sub_c rfl (sh_sub_c rfl (sh_sub_n))) (sl_270_59 hQ e tg)
      · refine sh_Lk_lift (T := m.T) (I := m.I) (J := m.J) (s := m.s) (pc2 := 47) (lv2 := [(0, .ref 67), (1, .int x1)]) (st2 := [.int (m.I 66 21), .ref 69]) (I2 := m.I) (J2 := m.J) (fun hT v kk => ?_) ?_
        · refine sh_jc (c := .eq) (off := (23)) (pc2 := 39) false rfl (sh_Beqf c) rfl ?_
          refine sh_w (i := (.aload_n 0)) (len := 1) (pc2 := 40) (lv2 := [(0, .ref 67), (1, .int x1)]) (st2 := [.ref 67]) (h2 := (sh_rep m.T m.I m.J)) rfl rfl rfl ?_
          refine sh_gR1 (len := 3) (x := .ref 69) (pc2 := 43) rfl rfl (sh_s66 hT.st) rfl rfl ?_
          refine sh_w (i := (.aload_n 0)) (len := 1) (pc2 := 44) (lv2 := [(0, .ref 67), (1, .int x1)]) (st2 := [.ref 67, .ref 69]) (h2 := (sh_rep m.T m.I m.J)) rfl rfl rfl ?_
          refine sh_gI1 (len := 3) (x := m.I 66 21) (pc2 := 47) rfl rfl (sh_s66 hT.st) rfl rfl rfl ?_
          exact kk
        obtain ⟨c, e⟩ := sh_gd e
        refine sh_Lk_lift (T := m.T) (I := m.I) (J := m.J) (s := m.s) (pc2 := 50) (lv2 := [(0, .ref 67), (1, .int x1)]) (st2 := [.int 126, .int (m.I 68 (Int32.toNatClampNeg (m.I 66 21)))]) (I2 := m.I) (J2 := m.J) (fun hT v kk => ?_) ?_
        · refine sh_ia1 (x := m.I 68 (Int32.toNatClampNeg (m.I 66 21))) (pc2 := 48) rfl (sh_s68 hT.st) (sh_okb1 c) (sh_okb2 c) rfl rfl ?_
          refine sh_w (i := (.bipush 126)) (len := 2) (pc2 := 50) (lv2 := [(0, .ref 67), (1, .int x1)]) (st2 := [.int 126, .int (m.I 68 (Int32.toNatClampNeg (m.I 66 21)))]) (h2 := (sh_rep m.T m.I m.J)) rfl rfl rfl ?_
          exact kk
        rcases sh_ite e with ⟨c, e⟩ | ⟨c, e⟩
        · refine sh_Lk_lift (T := m.T) (I := m.I) (J := m.J) (s := m.s) (pc2 := 59) (lv2 := [(0, .ref 67), (1, .int x1)]) (st2 := []) (I2 := m.I) (J2 := m.J) (fun hT v kk => ?_) ?_
          · refine sh_jc (c := .eq) (off := (9)) (pc2 := 59) true rfl (sh_Beqt c) rfl ?_
            exact kk
          exact sh_Lk_sub (sh_sub_c rfl (sh_sub_c rfl (sh_sub_n))) (sl_270_59 hQ e tg)
        · refine sh_Lk_lift (T := m.T) (I := m.I) (J := m.J) (s := m.s) (pc2 := 55) (lv2 := [(0, .ref 67), (1, .int x1)]) (st2 := [.int x1, .ref 67]) (I2 := m.I) (J2 := m.J) (fun hT v kk => ?_) ?_
          · refine sh_jc (c := .eq) (off := (9)) (pc2 := 53) false rfl (sh_Beqf c) rfl ?_
            refine sh_w (i := (.aload_n 0)) (len := 1) (pc2 := 54) (lv2 := [(0, .ref 67), (1, .int x1)]) (st2 := [.ref 67]) (h2 := (sh_rep m.T m.I m.J)) rfl rfl rfl ?_
            refine sh_w (i := (.iload_n 1)) (len := 1) (pc2 := 55) (lv2 := [(0, .ref 67), (1, .int x1)]) (st2 := [.int x1, .ref 67]) (h2 := (sh_rep m.T m.I m.J)) rfl rfl rfl ?_
            exact kk
          obtain ⟨r2, m12, e2, e⟩ := sh_bn_e e
          refine sh_Lk_cV (r := (some (.int r2))) (st2 := [.int r2]) (pc2 := 58) (k2 := 271) (a := 66) (as := [.ref 67, .int x1]) (rest := []) rfl rfl rfl (fun hT => (sh_s66 hT.st)) rfl rfl ⟨Nat.le_of_ble_eq_true rfl, Nat.le_of_ble_eq_true rfl⟩ (hQ.f271 e2 ⟨rfl, rfl⟩) rfl rfl (show d + 33 + 1 ≤ d + 1 + 33 by omega) (show 8 + (6 + 11) + (40 * d + 669) ≤ 40 * (d + 1) + 669 by omega) ?_
          obtain rfl := Option.some.inj e
          obtain ⟨rfl, rfl⟩ := tg
          exact sh_Lk_ret (i := .ireturn) rfl rfl rfl (by omega) (by omega)
theorem sl_271_6s {Q : sh_Q240} {d : Nat} {x1 : Int32} {x2 : Int32} {m m2 : sh_X} {o : Outcome} {z : ((Int32 × sh_X) ⊕ (Int32 × sh_X))} (hQ : sh_QL240 Q d) (e : sf_271_6s Q x1 x2 m = some z) (tg : (sh_el (fun q => sh_Lk 271 6 [(0, .ref 67), (1, .int x1), (2, .int q.1)] [] q.2 o m2 (d + 1 + 33) (40 * (d + 1) + 669)) (sh_tI o m2)) z) : sh_Lk 271 6 [(0, .ref 67), (1, .int x1), (2, .int x2)] [] m o m2 (d + 1 + 33) (40 * (d + 1) + 669) := by
  unfold sf_271_6s at e
  refine sh_Lk_lift (T := m.T) (I := m.I) (J := m.J) (s := m.s) (pc2 := 7) (lv2 := [(0, .ref 67), (1, .int x1), (2, .int x2)]) (st2 := [.int x2]) (I2 := m.I) (J2 := m.J) (fun hT v kk => ?_) ?_
  · refine sh_w (i := (.iload_n 2)) (len := 1) (pc2 := 7) (lv2 := [(0, .ref 67), (1, .int x1), (2, .int x2)]) (st2 := [.int x2]) (h2 := (sh_rep m.T m.I m.J)) rfl rfl rfl ?_
    exact kk
  rcases sh_ite e with ⟨c, e⟩ | ⟨c, e⟩
  · refine sh_Lk_lift (T := m.T) (I := m.I) (J := m.J) (s := m.s) (pc2 := 96) (lv2 := [(0, .ref 67), (1, .int x1), (2, .int x2)]) (st2 := [.int x2]) (I2 := m.I) (J2 := m.J) (fun hT v kk => ?_) ?_
    · refine sh_j0 (c := .lt) (off := (88)) (pc2 := 95) true rfl (sh_Bltt c) rfl ?_
      refine sh_w (i := (.iload_n 2)) (len := 1) (pc2 := 96) (lv2 := [(0, .ref 67), (1, .int x1), (2, .int x2)]) (st2 := [.int x2]) (h2 := (sh_rep m.T m.I m.J)) rfl rfl rfl ?_
      exact kk
    obtain rfl := Option.some.inj e
    obtain ⟨rfl, rfl⟩ := tg
    exact sh_Lk_ret (i := .ireturn) rfl rfl rfl (by omega) (by omega)
  · refine sh_Lk_lift (T := m.T) (I := m.I) (J := m.J) (s := m.s) (pc2 := 18) (lv2 := [(0, .ref 67), (1, .int x1), (2, .int x2)]) (st2 := [.int (m.I 66 21), .ref 69]) (I2 := m.I) (J2 := m.J) (fun hT v kk => ?_) ?_
    · refine sh_j0 (c := .lt) (off := (88)) (pc2 := 10) false rfl (sh_Bltf c) rfl ?_
      refine sh_w (i := (.aload_n 0)) (len := 1) (pc2 := 11) (lv2 := [(0, .ref 67), (1, .int x1), (2, .int x2)]) (st2 := [.ref 67]) (h2 := (sh_rep m.T m.I m.J)) rfl rfl rfl ?_
      refine sh_gR1 (len := 3) (x := .ref 69) (pc2 := 14) rfl rfl (sh_s66 hT.st) rfl rfl ?_
      refine sh_w (i := (.aload_n 0)) (len := 1) (pc2 := 15) (lv2 := [(0, .ref 67), (1, .int x1), (2, .int x2)]) (st2 := [.ref 67, .ref 69]) (h2 := (sh_rep m.T m.I m.J)) rfl rfl rfl ?_
      refine sh_gI1 (len := 3) (x := m.I 66 21) (pc2 := 18) rfl rfl (sh_s66 hT.st) rfl rfl rfl ?_
      exact kk
    obtain ⟨c, e⟩ := sh_gd e
    refine sh_Lk_lift (T := m.T) (I := m.I) (J := m.J) (s := m.s) (pc2 := 21) (lv2 := [(0, .ref 67), (1, .int x1), (2, .int x2)]) (st2 := [.int 91, .int (m.I 68 (Int32.toNatClampNeg (m.I 66 21)))]) (I2 := m.I) (J2 := m.J) (fun hT v kk => ?_) ?_
    · refine sh_ia1 (x := m.I 68 (Int32.toNatClampNeg (m.I 66 21))) (pc2 := 19) rfl (sh_s68 hT.st) (sh_okb1 c) (sh_okb2 c) rfl rfl ?_
      refine sh_w (i := (.bipush 91)) (len := 2) (pc2 := 21) (lv2 := [(0, .ref 67), (1, .int x1), (2, .int x2)]) (st2 := [.int 91, .int (m.I 68 (Int32.toNatClampNeg (m.I 66 21)))]) (h2 := (sh_rep m.T m.I m.J)) rfl rfl rfl ?_
      exact kk
    rcases sh_ite e with ⟨c, e⟩ | ⟨c, e⟩
    · refine sh_Lk_lift (T := m.T) (I := m.I) (J := m.J) (s := m.s) (pc2 := 43) (lv2 := [(3, .int (m.I 66 21)), (0, .ref 67), (1, .int x1), (2, .int x2)]) (st2 := [.int (x1 + 1), .ref 67]) (I2 := sh_u2 m.I 66 21 ((m.I 66 21) + 1)) (J2 := m.J) (fun hT v kk => ?_) ?_
      · refine sh_jc (c := .ne) (off := (74)) (pc2 := 24) false rfl (sh_Bnef c) rfl ?_
        refine sh_w (i := (.aload_n 0)) (len := 1) (pc2 := 25) (lv2 := [(0, .ref 67), (1, .int x1), (2, .int x2)]) (st2 := [.ref 67]) (h2 := (sh_rep m.T m.I m.J)) rfl rfl rfl ?_
        refine sh_gI1 (len := 3) (x := m.I 66 21) (pc2 := 28) rfl rfl (sh_s66 hT.st) rfl rfl rfl ?_
        refine sh_w (i := (.istore_n 3)) (len := 1) (pc2 := 29) (lv2 := [(3, .int (m.I 66 21)), (0, .ref 67), (1, .int x1), (2, .int x2)]) (st2 := []) (h2 := (sh_rep m.T m.I m.J)) rfl rfl rfl ?_
        refine sh_w (i := (.aload_n 0)) (len := 1) (pc2 := 30) (lv2 := [(3, .int (m.I 66 21)), (0, .ref 67), (1, .int x1), (2, .int x2)]) (st2 := [.ref 67]) (h2 := (sh_rep m.T m.I m.J)) rfl rfl rfl ?_
        refine sh_w (i := .dup) (len := 1) (pc2 := 31) (lv2 := [(3, .int (m.I 66 21)), (0, .ref 67), (1, .int x1), (2, .int x2)]) (st2 := [.ref 67, .ref 67]) (h2 := (sh_rep m.T m.I m.J)) rfl rfl rfl ?_
        refine sh_gI1 (len := 3) (x := m.I 66 21) (pc2 := 34) rfl rfl (sh_s66 hT.st) rfl rfl rfl ?_
        refine sh_w (i := (.iconst 1)) (len := 1) (pc2 := 35) (lv2 := [(3, .int (m.I 66 21)), (0, .ref 67), (1, .int x1), (2, .int x2)]) (st2 := [.int 1, .int (m.I 66 21), .ref 67]) (h2 := (sh_rep m.T m.I m.J)) rfl rfl rfl ?_
        refine sh_w (i := .iadd) (len := 1) (pc2 := 36) (lv2 := [(3, .int (m.I 66 21)), (0, .ref 67), (1, .int x1), (2, .int x2)]) (st2 := [.int ((m.I 66 21) + 1), .ref 67]) (h2 := (sh_rep m.T m.I m.J)) rfl rfl rfl ?_
        refine sh_pI1 (x := (m.I 66 21) + 1) (pc2 := 39) rfl rfl (sh_s66 hT.st) rfl rfl rfl rfl ?_
        refine sh_w (i := (.aload_n 0)) (len := 1) (pc2 := 40) (lv2 := [(3, .int (m.I 66 21)), (0, .ref 67), (1, .int x1), (2, .int x2)]) (st2 := [.ref 67]) (h2 := (sh_rep m.T (sh_u2 m.I 66 21 ((m.I 66 21) + 1)) m.J)) rfl rfl rfl ?_
        refine sh_w (i := (.iload_n 1)) (len := 1) (pc2 := 41) (lv2 := [(3, .int (m.I 66 21)), (0, .ref 67), (1, .int x1), (2, .int x2)]) (st2 := [.int x1, .ref 67]) (h2 := (sh_rep m.T (sh_u2 m.I 66 21 ((m.I 66 21) + 1)) m.J)) rfl rfl rfl ?_
        refine sh_w (i := (.iconst 1)) (len := 1) (pc2 := 42) (lv2 := [(3, .int (m.I 66 21)), (0, .ref 67), (1, .int x1), (2, .int x2)]) (st2 := [.int 1, .int x1, .ref 67]) (h2 := (sh_rep m.T (sh_u2 m.I 66 21 ((m.I 66 21) + 1)) m.J)) rfl rfl rfl ?_
        refine sh_w (i := .iadd) (len := 1) (pc2 := 43) (lv2 := [(3, .int (m.I 66 21)), (0, .ref 67), (1, .int x1), (2, .int x2)]) (st2 := [.int (x1 + 1), .ref 67]) (h2 := (sh_rep m.T (sh_u2 m.I 66 21 ((m.I 66 21) + 1)) m.J)) rfl rfl rfl ?_
        exact kk
      obtain ⟨r1, m11, e1, e⟩ := sh_bn_e e
      refine sh_Lk_cV (r := (some (.int r1))) (st2 := [.int r1]) (pc2 := 46) (k2 := 267) (a := 66) (as := [.ref 67, .int (x1 + 1)]) (rest := []) rfl rfl rfl (fun hT => (sh_s66 hT.st)) rfl rfl ⟨Nat.le_of_ble_eq_true rfl, Nat.le_of_ble_eq_true rfl⟩ (hQ.f267 e1 ⟨rfl, rfl⟩) rfl rfl (show d + 33 + 1 ≤ d + 1 + 33 by omega) (show 8 + (2 + 11) + (40 * d + 669) ≤ 40 * (d + 1) + 669 by omega) ?_
      refine sh_Lk_lift (T := m11.T) (I := m11.I) (J := m11.J) (s := m11.s) (pc2 := 50) (lv2 := [(4, .int r1), (3, .int (m.I 66 21)), (0, .ref 67), (1, .int x1), (2, .int x2)]) (st2 := [.int r1]) (I2 := m11.I) (J2 := m11.J) (fun hT v kk => ?_) ?_
      · refine sh_w (i := (.istore 4)) (len := 2) (pc2 := 48) (lv2 := [(4, .int r1), (3, .int (m.I 66 21)), (0, .ref 67), (1, .int x1), (2, .int x2)]) (st2 := []) (h2 := (sh_rep m11.T m11.I m11.J)) rfl rfl rfl ?_
        refine sh_w (i := (.iload 4)) (len := 2) (pc2 := 50) (lv2 := [(4, .int r1), (3, .int (m.I 66 21)), (0, .ref 67), (1, .int x1), (2, .int x2)]) (st2 := [.int r1]) (h2 := (sh_rep m11.T m11.I m11.J)) rfl rfl rfl ?_
        exact kk
      rcases sh_ite e with ⟨c, e⟩ | ⟨c, e⟩
      · refine sh_Lk_lift (T := m11.T) (I := m11.I) (J := m11.J) (s := m11.s) (pc2 := 63) (lv2 := [(4, .int r1), (3, .int (m.I 66 21)), (0, .ref 67), (1, .int x1), (2, .int x2)]) (st2 := [.int (-1)]) (I2 := m11.I) (J2 := m11.J) (fun hT v kk => ?_) ?_
        · refine sh_j0 (c := .lt) (off := (12)) (pc2 := 62) true rfl (sh_Bltt c) rfl ?_
          refine sh_w (i := (.iconst (-1))) (len := 1) (pc2 := 63) (lv2 := [(4, .int r1), (3, .int (m.I 66 21)), (0, .ref 67), (1, .int x1), (2, .int x2)]) (st2 := [.int (-1)]) (h2 := (sh_rep m11.T m11.I m11.J)) rfl rfl rfl ?_
          exact kk
        obtain rfl := Option.some.inj e
        obtain ⟨rfl, rfl⟩ := tg
        exact sh_Lk_ret (i := .ireturn) rfl rfl rfl (by omega) (by omega)
      · refine sh_Lk_lift (T := m11.T) (I := m11.I) (J := m11.J) (s := m11.s) (pc2 := 56) (lv2 := [(4, .int r1), (3, .int (m.I 66 21)), (0, .ref 67), (1, .int x1), (2, .int x2)]) (st2 := [.int 93, .ref 67]) (I2 := m11.I) (J2 := m11.J) (fun hT v kk => ?_) ?_
        · refine sh_j0 (c := .lt) (off := (12)) (pc2 := 53) false rfl (sh_Bltf c) rfl ?_
          refine sh_w (i := (.aload_n 0)) (len := 1) (pc2 := 54) (lv2 := [(4, .int r1), (3, .int (m.I 66 21)), (0, .ref 67), (1, .int x1), (2, .int x2)]) (st2 := [.ref 67]) (h2 := (sh_rep m11.T m11.I m11.J)) rfl rfl rfl ?_
          refine sh_w (i := (.bipush 93)) (len := 2) (pc2 := 56) (lv2 := [(4, .int r1), (3, .int (m.I 66 21)), (0, .ref 67), (1, .int x1), (2, .int x2)]) (st2 := [.int 93, .ref 67]) (h2 := (sh_rep m11.T m11.I m11.J)) rfl rfl rfl ?_
          exact kk
        obtain ⟨r2, m12, e2, e⟩ := sh_bn_e e
        refine sh_Lk_cV (r := (some (.int (sh_b2 r2)))) (st2 := [.int (sh_b2 r2)]) (pc2 := 59) (k2 := 262) (a := 66) (as := [.ref 67, .int 93]) (rest := []) rfl rfl rfl (fun hT => (sh_s66 hT.st)) rfl rfl ⟨Nat.le_of_ble_eq_true rfl, Nat.le_of_ble_eq_true rfl⟩ (sl_262 e2 ⟨rfl, rfl⟩) rfl rfl (show 9 + 1 ≤ d + 1 + 33 by omega) (show 8 + (2 + 11) + (222) ≤ 40 * (d + 1) + 669 by omega) ?_
        rcases sh_ite e with ⟨c, e⟩ | ⟨c, e⟩
        · refine sh_Lk_lift (T := m12.T) (I := m12.I) (J := m12.J) (s := m12.s) (pc2 := 71) (lv2 := [(4, .int r1), (3, .int (m.I 66 21)), (0, .ref 67), (1, .int x1), (2, .int x2)]) (st2 := [.int r1, .int x2, .int (m.I 66 21), .int 8, .ref 67]) (I2 := m12.I) (J2 := m12.J) (fun hT v kk => ?_) ?_
          · refine sh_j0 (c := .ne) (off := (5)) (pc2 := 64) true rfl (sh_Znet c) rfl ?_
            refine sh_w (i := (.aload_n 0)) (len := 1) (pc2 := 65) (lv2 := [(4, .int r1), (3, .int (m.I 66 21)), (0, .ref 67), (1, .int x1), (2, .int x2)]) (st2 := [.ref 67]) (h2 := (sh_rep m12.T m12.I m12.J)) rfl rfl rfl ?_
            refine sh_w (i := (.bipush 8)) (len := 2) (pc2 := 67) (lv2 := [(4, .int r1), (3, .int (m.I 66 21)), (0, .ref 67), (1, .int x1), (2, .int x2)]) (st2 := [.int 8, .ref 67]) (h2 := (sh_rep m12.T m12.I m12.J)) rfl rfl rfl ?_
            refine sh_w (i := (.iload_n 3)) (len := 1) (pc2 := 68) (lv2 := [(4, .int r1), (3, .int (m.I 66 21)), (0, .ref 67), (1, .int x1), (2, .int x2)]) (st2 := [.int (m.I 66 21), .int 8, .ref 67]) (h2 := (sh_rep m12.T m12.I m12.J)) rfl rfl rfl ?_
            refine sh_w (i := (.iload_n 2)) (len := 1) (pc2 := 69) (lv2 := [(4, .int r1), (3, .int (m.I 66 21)), (0, .ref 67), (1, .int x1), (2, .int x2)]) (st2 := [.int x2, .int (m.I 66 21), .int 8, .ref 67]) (h2 := (sh_rep m12.T m12.I m12.J)) rfl rfl rfl ?_
            refine sh_w (i := (.iload 4)) (len := 2) (pc2 := 71) (lv2 := [(4, .int r1), (3, .int (m.I 66 21)), (0, .ref 67), (1, .int x1), (2, .int x2)]) (st2 := [.int r1, .int x2, .int (m.I 66 21), .int 8, .ref 67]) (h2 := (sh_rep m12.T m12.I m12.J)) rfl rfl rfl ?_
            exact kk
          obtain ⟨r3, m13, e3, e⟩ := sh_bn_e e
          refine sh_Lk_cV (r := (some (.int r3))) (st2 := [.int r3]) (pc2 := 74) (k2 := 266) (a := 66) (as := [.ref 67, .int 8, .int (m.I 66 21), .int x2, .int r1]) (rest := []) rfl rfl rfl (fun hT => (sh_s66 hT.st)) rfl rfl ⟨Nat.le_of_ble_eq_true rfl, Nat.le_of_ble_eq_true rfl⟩ (sl_266 e3 ⟨rfl, rfl⟩) rfl rfl (show 8 + 1 ≤ d + 1 + 33 by omega) (show 8 + (5 + 11) + (200) ≤ 40 * (d + 1) + 669 by omega) ?_
          refine sh_Lk_lift (T := m13.T) (I := m13.I) (J := m13.J) (s := m13.s) (pc2 := 87) (lv2 := [(5, .int r3), (4, .int r1), (3, .int (m.I 66 21)), (0, .ref 67), (1, .int x1), (2, .int x2)]) (st2 := [.int x2, .ref 79, .int r3, .ref 79]) (I2 := m13.I) (J2 := m13.J) (fun hT v kk => ?_) ?_
          · refine sh_w (i := (.istore 5)) (len := 2) (pc2 := 76) (lv2 := [(5, .int r3), (4, .int r1), (3, .int (m.I 66 21)), (0, .ref 67), (1, .int x1), (2, .int x2)]) (st2 := []) (h2 := (sh_rep m13.T m13.I m13.J)) rfl rfl rfl ?_
            refine sh_w (i := (.aload_n 0)) (len := 1) (pc2 := 77) (lv2 := [(5, .int r3), (4, .int r1), (3, .int (m.I 66 21)), (0, .ref 67), (1, .int x1), (2, .int x2)]) (st2 := [.ref 67]) (h2 := (sh_rep m13.T m13.I m13.J)) rfl rfl rfl ?_
            refine sh_gR1 (len := 3) (x := .ref 79) (pc2 := 80) rfl rfl (sh_s66 hT.st) rfl rfl ?_
            refine sh_w (i := (.iload 5)) (len := 2) (pc2 := 82) (lv2 := [(5, .int r3), (4, .int r1), (3, .int (m.I 66 21)), (0, .ref 67), (1, .int x1), (2, .int x2)]) (st2 := [.int r3, .ref 79]) (h2 := (sh_rep m13.T m13.I m13.J)) rfl rfl rfl ?_
            refine sh_w (i := (.aload_n 0)) (len := 1) (pc2 := 83) (lv2 := [(5, .int r3), (4, .int r1), (3, .int (m.I 66 21)), (0, .ref 67), (1, .int x1), (2, .int x2)]) (st2 := [.ref 67, .int r3, .ref 79]) (h2 := (sh_rep m13.T m13.I m13.J)) rfl rfl rfl ?_
            refine sh_gR1 (len := 3) (x := .ref 79) (pc2 := 86) rfl rfl (sh_s66 hT.st) rfl rfl ?_
            refine sh_w (i := (.iload_n 2)) (len := 1) (pc2 := 87) (lv2 := [(5, .int r3), (4, .int r1), (3, .int (m.I 66 21)), (0, .ref 67), (1, .int x1), (2, .int x2)]) (st2 := [.int x2, .ref 79, .int r3, .ref 79]) (h2 := (sh_rep m13.T m13.I m13.J)) rfl rfl rfl ?_
            exact kk
          obtain ⟨c, e⟩ := sh_gd e
          refine sh_Lk_lift (T := m13.T) (I := m13.I) (J := m13.J) (s := m13.s) (pc2 := 88) (lv2 := [(5, .int r3), (4, .int r1), (3, .int (m.I 66 21)), (0, .ref 67), (1, .int x1), (2, .int x2)]) (st2 := [.int (m13.I 78 (Int32.toNatClampNeg x2)), .int r3, .ref 79]) (I2 := m13.I) (J2 := m13.J) (fun hT v kk => ?_) ?_
          · refine sh_ia1 (x := m13.I 78 (Int32.toNatClampNeg x2)) (pc2 := 88) rfl (sh_s78 hT.st) (sh_okb1 c) (sh_okb2 c) rfl rfl ?_
            exact kk
          obtain ⟨c, e⟩ := sh_gd e
          refine sh_Lk_lift (T := m13.T) (I := m13.I) (J := m13.J) (s := m13.s) (pc2 := 6) (lv2 := [(2, .int r3), (5, .int r3), (4, .int r1), (3, .int (m.I 66 21)), (0, .ref 67), (1, .int x1)]) (st2 := []) (I2 := sh_u2 m13.I 78 (Int32.toNatClampNeg r3) (m13.I 78 (Int32.toNatClampNeg x2))) (J2 := m13.J) (fun hT v kk => ?_) ?_
          · refine sh_is1 (x := m13.I 78 (Int32.toNatClampNeg x2)) (i := r3) (pc2 := 89) rfl (sh_s78 hT.st) (sh_okb1 c) (sh_okb2 c) rfl ?_
            refine sh_w (i := (.iload 5)) (len := 2) (pc2 := 91) (lv2 := [(5, .int r3), (4, .int r1), (3, .int (m.I 66 21)), (0, .ref 67), (1, .int x1), (2, .int x2)]) (st2 := [.int r3]) (h2 := (sh_rep m13.T (sh_u2 m13.I 78 (Int32.toNatClampNeg r3) (m13.I 78 (Int32.toNatClampNeg x2))) m13.J)) rfl rfl rfl ?_
            refine sh_w (i := (.istore_n 2)) (len := 1) (pc2 := 92) (lv2 := [(2, .int r3), (5, .int r3), (4, .int r1), (3, .int (m.I 66 21)), (0, .ref 67), (1, .int x1)]) (st2 := []) (h2 := (sh_rep m13.T (sh_u2 m13.I 78 (Int32.toNatClampNeg r3) (m13.I 78 (Int32.toNatClampNeg x2))) m13.J)) rfl rfl rfl ?_
            refine sh_w (i := (.goto (-86))) (len := 3) (pc2 := 6) (lv2 := [(2, .int r3), (5, .int r3), (4, .int r1), (3, .int (m.I 66 21)), (0, .ref 67), (1, .int x1)]) (st2 := []) (h2 := (sh_rep m13.T (sh_u2 m13.I 78 (Int32.toNatClampNeg r3) (m13.I 78 (Int32.toNatClampNeg x2))) m13.J)) rfl rfl rfl ?_
            exact kk
          obtain rfl := Option.some.inj e
          exact sh_Lk_sub (sh_sub_c rfl (sh_sub_c rfl (sh_sub_c rfl (sh_sub_n)))) tg
        · refine sh_Lk_lift (T := m12.T) (I := m12.I) (J := m12.J) (s := m12.s) (pc2 := 63) (lv2 := [(4, .int r1), (3, .int (m.I 66 21)), (0, .ref 67), (1, .int x1), (2, .int x2)]) (st2 := [.int (-1)]) (I2 := m12.I) (J2 := m12.J) (fun hT v kk => ?_) ?_
          · refine sh_j0 (c := .ne) (off := (5)) (pc2 := 62) false rfl (sh_Znef c) rfl ?_
            refine sh_w (i := (.iconst (-1))) (len := 1) (pc2 := 63) (lv2 := [(4, .int r1), (3, .int (m.I 66 21)), (0, .ref 67), (1, .int x1), (2, .int x2)]) (st2 := [.int (-1)]) (h2 := (sh_rep m12.T m12.I m12.J)) rfl rfl rfl ?_
            exact kk
          obtain rfl := Option.some.inj e
          obtain ⟨rfl, rfl⟩ := tg
          exact sh_Lk_ret (i := .ireturn) rfl rfl rfl (by omega) (by omega)
    · refine sh_Lk_lift (T := m.T) (I := m.I) (J := m.J) (s := m.s) (pc2 := 96) (lv2 := [(0, .ref 67), (1, .int x1), (2, .int x2)]) (st2 := [.int x2]) (I2 := m.I) (J2 := m.J) (fun hT v kk => ?_) ?_
      · refine sh_jc (c := .ne) (off := (74)) (pc2 := 95) true rfl (sh_Bnet c) rfl ?_
        refine sh_w (i := (.iload_n 2)) (len := 1) (pc2 := 96) (lv2 := [(0, .ref 67), (1, .int x1), (2, .int x2)]) (st2 := [.int x2]) (h2 := (sh_rep m.T m.I m.J)) rfl rfl rfl ?_
        exact kk
      obtain rfl := Option.some.inj e
      obtain ⟨rfl, rfl⟩ := tg
      exact sh_Lk_ret (i := .ireturn) rfl rfl rfl (by omega) (by omega)
theorem sl_271_6 {Q : sh_Q240} {d : Nat} {x1 : Int32} {x2 : Int32} {m m2 : sh_X} {o : Outcome} {z : (Int32 × sh_X)} (hQ : sh_QL240 Q d) (e : sf_271_6 Q x1 x2 m = some z) (tg : (sh_tI o m2) z) : sh_Lk 271 6 [(0, .ref 67), (1, .int x1), (2, .int x2)] [] m o m2 (d + 1 + 33) (40 * (d + 1) + 669) := by
  unfold sf_271_6 at e
  exact sh_while_lk (P := fun q => sh_Lk 271 6 [(0, .ref 67), (1, .int x1), (2, .int q.1)] [] q.2 o m2 (d + 1 + 33) (40 * (d + 1) + 669)) (Q := (sh_tI o m2)) (fun q z e tg => sl_271_6s (x1 := x1) (x2 := q.1) (m := q.2) hQ e tg) (s := (x2, m)) e tg
theorem sl_271 {Q : sh_Q240} {d : Nat} {x1 : Int32} {m m2 : sh_X} {o : Outcome} {z : (Int32 × sh_X)} (hQ : sh_QL240 Q d) (e : sf_271 Q x1 m = some z) (tg : (sh_tI o m2) z) : sh_Lk 271 0 [(0, .ref 67), (1, .int x1)] [] m o m2 (d + 1 + 33) (40 * (d + 1) + 669) := by
  unfold sf_271 at e
  refine sh_Lk_lift (T := m.T) (I := m.I) (J := m.J) (s := m.s) (pc2 := 2) (lv2 := [(0, .ref 67), (1, .int x1)]) (st2 := [.int x1, .ref 67]) (I2 := m.I) (J2 := m.J) (fun hT v kk => ?_) ?_
  · refine sh_w (i := (.aload_n 0)) (len := 1) (pc2 := 1) (lv2 := [(0, .ref 67), (1, .int x1)]) (st2 := [.ref 67]) (h2 := (sh_rep m.T m.I m.J)) rfl rfl rfl ?_
    refine sh_w (i := (.iload_n 1)) (len := 1) (pc2 := 2) (lv2 := [(0, .ref 67), (1, .int x1)]) (st2 := [.int x1, .ref 67]) (h2 := (sh_rep m.T m.I m.J)) rfl rfl rfl ?_
    exact kk
  obtain ⟨r1, m11, e1, e⟩ := sh_bn_e e
  refine sh_Lk_cV (r := (some (.int r1))) (st2 := [.int r1]) (pc2 := 5) (k2 := 272) (a := 66) (as := [.ref 67, .int x1]) (rest := []) rfl rfl rfl (fun hT => (sh_s66 hT.st)) rfl rfl ⟨Nat.le_of_ble_eq_true rfl, Nat.le_of_ble_eq_true rfl⟩ (hQ.f272 e1 ⟨rfl, rfl⟩) rfl rfl (show d + 33 + 1 ≤ d + 1 + 33 by omega) (show 8 + (4 + 11) + (40 * d + 669) ≤ 40 * (d + 1) + 669 by omega) ?_
  refine sh_Lk_lift (T := m11.T) (I := m11.I) (J := m11.J) (s := m11.s) (pc2 := 6) (lv2 := [(2, .int r1), (0, .ref 67), (1, .int x1)]) (st2 := []) (I2 := m11.I) (J2 := m11.J) (fun hT v kk => ?_) ?_
  · refine sh_w (i := (.istore_n 2)) (len := 1) (pc2 := 6) (lv2 := [(2, .int r1), (0, .ref 67), (1, .int x1)]) (st2 := []) (h2 := (sh_rep m11.T m11.I m11.J)) rfl rfl rfl ?_
    exact kk
  exact sh_Lk_sub (sh_sub_c rfl (sh_sub_c rfl (sh_sub_c rfl (sh_sub_n)))) (sl_271_6 hQ e tg)
theorem sl_272_83 {Q : sh_Q240} {d : Nat} {x2 : Int32} {y1 : Int32} {m m2 : sh_X} {o : Outcome} {z : (Int32 × sh_X)} (hQ : sh_QL240 Q d) (e : sf_272_83 Q x2 y1 m = some z) (tg : (sh_tI o m2) z) : sh_Lk 272 83 [(2, .int x2)] [.int y1, .ref 67] m o m2 (d + 1 + 33) (40 * (d + 1) + 669) := by
  unfold sf_272_83 at e
  refine sh_Lk_lift (T := m.T) (I := m.I) (J := m.J) (s := m.s) (pc2 := 86) (lv2 := [(2, .int x2)]) (st2 := [.int (-1), .int (-1), .int x2, .int y1, .ref 67]) (I2 := m.I) (J2 := m.J) (fun hT v kk => ?_) ?_
  · refine sh_w (i := (.iload_n 2)) (len := 1) (pc2 := 84) (lv2 := [(2, .int x2)]) (st2 := [.int x2, .int y1, .ref 67]) (h2 := (sh_rep m.T m.I m.J)) rfl rfl rfl ?_
    refine sh_w (i := (.iconst (-1))) (len := 1) (pc2 := 85) (lv2 := [(2, .int x2)]) (st2 := [.int (-1), .int x2, .int y1, .ref 67]) (h2 := (sh_rep m.T m.I m.J)) rfl rfl rfl ?_
    refine sh_w (i := (.iconst (-1))) (len := 1) (pc2 := 86) (lv2 := [(2, .int x2)]) (st2 := [.int (-1), .int (-1), .int x2, .int y1, .ref 67]) (h2 := (sh_rep m.T m.I m.J)) rfl rfl rfl ?_
    exact kk
  obtain ⟨r1, m11, e1, e⟩ := sh_bn_e e
  refine sh_Lk_cV (r := (some (.int r1))) (st2 := [.int r1]) (pc2 := 89) (k2 := 266) (a := 66) (as := [.ref 67, .int y1, .int x2, .int (-1), .int (-1)]) (rest := []) rfl rfl rfl (fun hT => (sh_s66 hT.st)) rfl rfl ⟨Nat.le_of_ble_eq_true rfl, Nat.le_of_ble_eq_true rfl⟩ (sl_266 e1 ⟨rfl, rfl⟩) rfl rfl (show 8 + 1 ≤ d + 1 + 33 by omega) (show 8 + (5 + 11) + (200) ≤ 40 * (d + 1) + 669 by omega) ?_
  obtain rfl := Option.some.inj e
  obtain ⟨rfl, rfl⟩ := tg
  exact sh_Lk_ret (i := .ireturn) rfl rfl rfl (by omega) (by omega)
theorem sl_272_56 {Q : sh_Q240} {d : Nat} {x2 : Int32} {m m2 : sh_X} {o : Outcome} {z : (Int32 × sh_X)} (hQ : sh_QL240 Q d) (e : sf_272_56 Q x2 m = some z) (tg : (sh_tI o m2) z) : sh_Lk 272 56 [(0, .ref 67), (2, .int x2)] [] m o m2 (d + 1 + 33) (40 * (d + 1) + 669) := by
  unfold sf_272_56 at e
  refine sh_Lk_lift (T := m.T) (I := m.I) (J := m.J) (s := m.s) (pc2 := 72) (lv2 := [(0, .ref 67), (2, .int x2)]) (st2 := [.ref 1000020, .int x2, .ref 67, .ref 67]) (I2 := sh_u2 m.I 66 21 ((m.I 66 21) + 1)) (J2 := m.J) (fun hT v kk => ?_) ?_
  · refine sh_w (i := (.aload_n 0)) (len := 1) (pc2 := 57) (lv2 := [(0, .ref 67), (2, .int x2)]) (st2 := [.ref 67]) (h2 := (sh_rep m.T m.I m.J)) rfl rfl rfl ?_
    refine sh_w (i := .dup) (len := 1) (pc2 := 58) (lv2 := [(0, .ref 67), (2, .int x2)]) (st2 := [.ref 67, .ref 67]) (h2 := (sh_rep m.T m.I m.J)) rfl rfl rfl ?_
    refine sh_gI1 (len := 3) (x := m.I 66 21) (pc2 := 61) rfl rfl (sh_s66 hT.st) rfl rfl rfl ?_
    refine sh_w (i := (.iconst 1)) (len := 1) (pc2 := 62) (lv2 := [(0, .ref 67), (2, .int x2)]) (st2 := [.int 1, .int (m.I 66 21), .ref 67]) (h2 := (sh_rep m.T m.I m.J)) rfl rfl rfl ?_
    refine sh_w (i := .iadd) (len := 1) (pc2 := 63) (lv2 := [(0, .ref 67), (2, .int x2)]) (st2 := [.int ((m.I 66 21) + 1), .ref 67]) (h2 := (sh_rep m.T m.I m.J)) rfl rfl rfl ?_
    refine sh_pI1 (x := (m.I 66 21) + 1) (pc2 := 66) rfl rfl (sh_s66 hT.st) rfl rfl rfl rfl ?_
    refine sh_w (i := (.aload_n 0)) (len := 1) (pc2 := 67) (lv2 := [(0, .ref 67), (2, .int x2)]) (st2 := [.ref 67]) (h2 := (sh_rep m.T (sh_u2 m.I 66 21 ((m.I 66 21) + 1)) m.J)) rfl rfl rfl ?_
    refine sh_w (i := (.aload_n 0)) (len := 1) (pc2 := 68) (lv2 := [(0, .ref 67), (2, .int x2)]) (st2 := [.ref 67, .ref 67]) (h2 := (sh_rep m.T (sh_u2 m.I 66 21 ((m.I 66 21) + 1)) m.J)) rfl rfl rfl ?_
    refine sh_w (i := (.iload_n 2)) (len := 1) (pc2 := 69) (lv2 := [(0, .ref 67), (2, .int x2)]) (st2 := [.int x2, .ref 67, .ref 67]) (h2 := (sh_rep m.T (sh_u2 m.I 66 21 ((m.I 66 21) + 1)) m.J)) rfl rfl rfl ?_
    refine sh_w (i := (.ldc_w 272)) (len := 3) (pc2 := 72) (lv2 := [(0, .ref 67), (2, .int x2)]) (st2 := [.ref 1000020, .int x2, .ref 67, .ref 67]) (h2 := (sh_rep m.T (sh_u2 m.I 66 21 ((m.I 66 21) + 1)) m.J)) rfl rfl rfl ?_
    exact kk
  obtain ⟨r1, e1, e⟩ := sh_bc_e e
  refine sh_Lk_cV (r := (some (.int (sh_b2 r1)))) (st2 := [.int (sh_b2 r1), .ref 67]) (pc2 := 75) (k2 := 256) (a := 66) (as := [.ref 67, .int x2, .ref 1000020]) (rest := [.ref 67]) rfl rfl rfl (fun hT => (sh_s66 hT.st)) rfl rfl ⟨Nat.le_of_ble_eq_true rfl, Nat.le_of_ble_eq_true rfl⟩ (sl_256 e1 ⟨rfl, rfl⟩) rfl rfl (show 30 + 1 ≤ d + 1 + 33 by omega) (show 8 + (4 + 11) + (600) ≤ 40 * (d + 1) + 669 by omega) ?_
  rcases sh_ite e with ⟨c, e⟩ | ⟨c, e⟩
  · refine sh_Lk_lift (T := m.T) (I := sh_u2 m.I 66 21 ((m.I 66 21) + 1)) (J := m.J) (s := m.s) (pc2 := 83) (lv2 := [(0, .ref 67), (2, .int x2)]) (st2 := [.int 2, .ref 67]) (I2 := sh_u2 m.I 66 21 ((m.I 66 21) + 1)) (J2 := m.J) (fun hT v kk => ?_) ?_
    · refine sh_j0 (c := .eq) (off := (7)) (pc2 := 78) false rfl (sh_Zeqf c) rfl ?_
      refine sh_w (i := (.iconst 2)) (len := 1) (pc2 := 79) (lv2 := [(0, .ref 67), (2, .int x2)]) (st2 := [.int 2, .ref 67]) (h2 := (sh_rep m.T (sh_u2 m.I 66 21 ((m.I 66 21) + 1)) m.J)) rfl rfl rfl ?_
      refine sh_w (i := (.goto 4)) (len := 3) (pc2 := 83) (lv2 := [(0, .ref 67), (2, .int x2)]) (st2 := [.int 2, .ref 67]) (h2 := (sh_rep m.T (sh_u2 m.I 66 21 ((m.I 66 21) + 1)) m.J)) rfl rfl rfl ?_
      exact kk
    exact sh_Lk_sub (sh_sub_c rfl (sh_sub_n)) (sl_272_83 hQ e tg)
  · refine sh_Lk_lift (T := m.T) (I := sh_u2 m.I 66 21 ((m.I 66 21) + 1)) (J := m.J) (s := m.s) (pc2 := 83) (lv2 := [(0, .ref 67), (2, .int x2)]) (st2 := [.int 3, .ref 67]) (I2 := sh_u2 m.I 66 21 ((m.I 66 21) + 1)) (J2 := m.J) (fun hT v kk => ?_) ?_
    · refine sh_j0 (c := .eq) (off := (7)) (pc2 := 82) true rfl (sh_Zeqt c) rfl ?_
      refine sh_w (i := (.iconst 3)) (len := 1) (pc2 := 83) (lv2 := [(0, .ref 67), (2, .int x2)]) (st2 := [.int 3, .ref 67]) (h2 := (sh_rep m.T (sh_u2 m.I 66 21 ((m.I 66 21) + 1)) m.J)) rfl rfl rfl ?_
      exact kk
    exact sh_Lk_sub (sh_sub_c rfl (sh_sub_n)) (sl_272_83 hQ e tg)
theorem sl_272 {Q : sh_Q240} {d : Nat} {x1 : Int32} {m m2 : sh_X} {o : Outcome} {z : (Int32 × sh_X)} (hQ : sh_QL240 Q d) (e : sf_272 Q x1 m = some z) (tg : (sh_tI o m2) z) : sh_Lk 272 0 [(0, .ref 67), (1, .int x1)] [] m o m2 (d + 1 + 33) (40 * (d + 1) + 669) := by
  unfold sf_272 at e
  refine sh_Lk_lift (T := m.T) (I := m.I) (J := m.J) (s := m.s) (pc2 := 10) (lv2 := [(2, .int (m.I 66 21)), (0, .ref 67), (1, .int x1)]) (st2 := [.int (m.I 66 21), .ref 69]) (I2 := m.I) (J2 := m.J) (fun hT v kk => ?_) ?_
  · refine sh_w (i := (.aload_n 0)) (len := 1) (pc2 := 1) (lv2 := [(0, .ref 67), (1, .int x1)]) (st2 := [.ref 67]) (h2 := (sh_rep m.T m.I m.J)) rfl rfl rfl ?_
    refine sh_gI1 (len := 3) (x := m.I 66 21) (pc2 := 4) rfl rfl (sh_s66 hT.st) rfl rfl rfl ?_
    refine sh_w (i := (.istore_n 2)) (len := 1) (pc2 := 5) (lv2 := [(2, .int (m.I 66 21)), (0, .ref 67), (1, .int x1)]) (st2 := []) (h2 := (sh_rep m.T m.I m.J)) rfl rfl rfl ?_
    refine sh_w (i := (.aload_n 0)) (len := 1) (pc2 := 6) (lv2 := [(2, .int (m.I 66 21)), (0, .ref 67), (1, .int x1)]) (st2 := [.ref 67]) (h2 := (sh_rep m.T m.I m.J)) rfl rfl rfl ?_
    refine sh_gR1 (len := 3) (x := .ref 69) (pc2 := 9) rfl rfl (sh_s66 hT.st) rfl rfl ?_
    refine sh_w (i := (.iload_n 2)) (len := 1) (pc2 := 10) (lv2 := [(2, .int (m.I 66 21)), (0, .ref 67), (1, .int x1)]) (st2 := [.int (m.I 66 21), .ref 69]) (h2 := (sh_rep m.T m.I m.J)) rfl rfl rfl ?_
    exact kk
  obtain ⟨c, e⟩ := sh_gd e
  refine sh_Lk_lift (T := m.T) (I := m.I) (J := m.J) (s := m.s) (pc2 := 12) (lv2 := [(2, .int (m.I 66 21)), (0, .ref 67), (1, .int x1)]) (st2 := [.int 2, .int (m.I 68 (Int32.toNatClampNeg (m.I 66 21)))]) (I2 := m.I) (J2 := m.J) (fun hT v kk => ?_) ?_
  · refine sh_ia1 (x := m.I 68 (Int32.toNatClampNeg (m.I 66 21))) (pc2 := 11) rfl (sh_s68 hT.st) (sh_okb1 c) (sh_okb2 c) rfl rfl ?_
    refine sh_w (i := (.iconst 2)) (len := 1) (pc2 := 12) (lv2 := [(2, .int (m.I 66 21)), (0, .ref 67), (1, .int x1)]) (st2 := [.int 2, .int (m.I 68 (Int32.toNatClampNeg (m.I 66 21)))]) (h2 := (sh_rep m.T m.I m.J)) rfl rfl rfl ?_
    exact kk
  rcases sh_ite e with ⟨c, e⟩ | ⟨c, e⟩
  · refine sh_Lk_lift (T := m.T) (I := m.I) (J := m.J) (s := m.s) (pc2 := 30) (lv2 := [(2, .int (m.I 66 21)), (0, .ref 67), (1, .int x1)]) (st2 := [.int (-1), .int (-1), .int (m.I 66 21), .int 1, .ref 67]) (I2 := sh_u2 m.I 66 21 ((m.I 66 21) + 1)) (J2 := m.J) (fun hT v kk => ?_) ?_
    · refine sh_jc (c := .ne) (off := (22)) (pc2 := 15) false rfl (sh_Bnef c) rfl ?_
      refine sh_w (i := (.aload_n 0)) (len := 1) (pc2 := 16) (lv2 := [(2, .int (m.I 66 21)), (0, .ref 67), (1, .int x1)]) (st2 := [.ref 67]) (h2 := (sh_rep m.T m.I m.J)) rfl rfl rfl ?_
      refine sh_w (i := .dup) (len := 1) (pc2 := 17) (lv2 := [(2, .int (m.I 66 21)), (0, .ref 67), (1, .int x1)]) (st2 := [.ref 67, .ref 67]) (h2 := (sh_rep m.T m.I m.J)) rfl rfl rfl ?_
      refine sh_gI1 (len := 3) (x := m.I 66 21) (pc2 := 20) rfl rfl (sh_s66 hT.st) rfl rfl rfl ?_
      refine sh_w (i := (.iconst 1)) (len := 1) (pc2 := 21) (lv2 := [(2, .int (m.I 66 21)), (0, .ref 67), (1, .int x1)]) (st2 := [.int 1, .int (m.I 66 21), .ref 67]) (h2 := (sh_rep m.T m.I m.J)) rfl rfl rfl ?_
      refine sh_w (i := .iadd) (len := 1) (pc2 := 22) (lv2 := [(2, .int (m.I 66 21)), (0, .ref 67), (1, .int x1)]) (st2 := [.int ((m.I 66 21) + 1), .ref 67]) (h2 := (sh_rep m.T m.I m.J)) rfl rfl rfl ?_
      refine sh_pI1 (x := (m.I 66 21) + 1) (pc2 := 25) rfl rfl (sh_s66 hT.st) rfl rfl rfl rfl ?_
      refine sh_w (i := (.aload_n 0)) (len := 1) (pc2 := 26) (lv2 := [(2, .int (m.I 66 21)), (0, .ref 67), (1, .int x1)]) (st2 := [.ref 67]) (h2 := (sh_rep m.T (sh_u2 m.I 66 21 ((m.I 66 21) + 1)) m.J)) rfl rfl rfl ?_
      refine sh_w (i := (.iconst 1)) (len := 1) (pc2 := 27) (lv2 := [(2, .int (m.I 66 21)), (0, .ref 67), (1, .int x1)]) (st2 := [.int 1, .ref 67]) (h2 := (sh_rep m.T (sh_u2 m.I 66 21 ((m.I 66 21) + 1)) m.J)) rfl rfl rfl ?_
      refine sh_w (i := (.iload_n 2)) (len := 1) (pc2 := 28) (lv2 := [(2, .int (m.I 66 21)), (0, .ref 67), (1, .int x1)]) (st2 := [.int (m.I 66 21), .int 1, .ref 67]) (h2 := (sh_rep m.T (sh_u2 m.I 66 21 ((m.I 66 21) + 1)) m.J)) rfl rfl rfl ?_
      refine sh_w (i := (.iconst (-1))) (len := 1) (pc2 := 29) (lv2 := [(2, .int (m.I 66 21)), (0, .ref 67), (1, .int x1)]) (st2 := [.int (-1), .int (m.I 66 21), .int 1, .ref 67]) (h2 := (sh_rep m.T (sh_u2 m.I 66 21 ((m.I 66 21) + 1)) m.J)) rfl rfl rfl ?_
      refine sh_w (i := (.iconst (-1))) (len := 1) (pc2 := 30) (lv2 := [(2, .int (m.I 66 21)), (0, .ref 67), (1, .int x1)]) (st2 := [.int (-1), .int (-1), .int (m.I 66 21), .int 1, .ref 67]) (h2 := (sh_rep m.T (sh_u2 m.I 66 21 ((m.I 66 21) + 1)) m.J)) rfl rfl rfl ?_
      exact kk
    obtain ⟨r1, m11, e1, e⟩ := sh_bn_e e
    refine sh_Lk_cV (r := (some (.int r1))) (st2 := [.int r1]) (pc2 := 33) (k2 := 266) (a := 66) (as := [.ref 67, .int 1, .int (m.I 66 21), .int (-1), .int (-1)]) (rest := []) rfl rfl rfl (fun hT => (sh_s66 hT.st)) rfl rfl ⟨Nat.le_of_ble_eq_true rfl, Nat.le_of_ble_eq_true rfl⟩ (sl_266 e1 ⟨rfl, rfl⟩) rfl rfl (show 8 + 1 ≤ d + 1 + 33 by omega) (show 8 + (5 + 11) + (200) ≤ 40 * (d + 1) + 669 by omega) ?_
    obtain rfl := Option.some.inj e
    obtain ⟨rfl, rfl⟩ := tg
    exact sh_Lk_ret (i := .ireturn) rfl rfl rfl (by omega) (by omega)
  · refine sh_Lk_lift (T := m.T) (I := m.I) (J := m.J) (s := m.s) (pc2 := 39) (lv2 := [(2, .int (m.I 66 21)), (0, .ref 67), (1, .int x1)]) (st2 := [.ref 1000020, .int (m.I 66 21), .ref 67]) (I2 := m.I) (J2 := m.J) (fun hT v kk => ?_) ?_
    · refine sh_jc (c := .ne) (off := (22)) (pc2 := 34) true rfl (sh_Bnet c) rfl ?_
      refine sh_w (i := (.aload_n 0)) (len := 1) (pc2 := 35) (lv2 := [(2, .int (m.I 66 21)), (0, .ref 67), (1, .int x1)]) (st2 := [.ref 67]) (h2 := (sh_rep m.T m.I m.J)) rfl rfl rfl ?_
      refine sh_w (i := (.iload_n 2)) (len := 1) (pc2 := 36) (lv2 := [(2, .int (m.I 66 21)), (0, .ref 67), (1, .int x1)]) (st2 := [.int (m.I 66 21), .ref 67]) (h2 := (sh_rep m.T m.I m.J)) rfl rfl rfl ?_
      refine sh_w (i := (.ldc_w 272)) (len := 3) (pc2 := 39) (lv2 := [(2, .int (m.I 66 21)), (0, .ref 67), (1, .int x1)]) (st2 := [.ref 1000020, .int (m.I 66 21), .ref 67]) (h2 := (sh_rep m.T m.I m.J)) rfl rfl rfl ?_
      exact kk
    obtain ⟨r2, e2, e⟩ := sh_bc_e e
    refine sh_Lk_cV (r := (some (.int (sh_b2 r2)))) (st2 := [.int (sh_b2 r2)]) (pc2 := 42) (k2 := 256) (a := 66) (as := [.ref 67, .int (m.I 66 21), .ref 1000020]) (rest := []) rfl rfl rfl (fun hT => (sh_s66 hT.st)) rfl rfl ⟨Nat.le_of_ble_eq_true rfl, Nat.le_of_ble_eq_true rfl⟩ (sl_256 e2 ⟨rfl, rfl⟩) rfl rfl (show 30 + 1 ≤ d + 1 + 33 by omega) (show 8 + (4 + 11) + (600) ≤ 40 * (d + 1) + 669 by omega) ?_
    rcases sh_ite e with ⟨c, e⟩ | ⟨c, e⟩
    · refine sh_Lk_lift (T := m.T) (I := m.I) (J := m.J) (s := m.s) (pc2 := 56) (lv2 := [(2, .int (m.I 66 21)), (0, .ref 67), (1, .int x1)]) (st2 := []) (I2 := m.I) (J2 := m.J) (fun hT v kk => ?_) ?_
      · refine sh_j0 (c := .ne) (off := (14)) (pc2 := 56) true rfl (sh_Znet c) rfl ?_
        exact kk
      exact sh_Lk_sub (sh_sub_c rfl (sh_sub_c rfl (sh_sub_n))) (sl_272_56 hQ e tg)
    · refine sh_Lk_lift (T := m.T) (I := m.I) (J := m.J) (s := m.s) (pc2 := 50) (lv2 := [(2, .int (m.I 66 21)), (0, .ref 67), (1, .int x1)]) (st2 := [.ref 1000013, .int (m.I 66 21), .ref 67]) (I2 := m.I) (J2 := m.J) (fun hT v kk => ?_) ?_
      · refine sh_j0 (c := .ne) (off := (14)) (pc2 := 45) false rfl (sh_Znef c) rfl ?_
        refine sh_w (i := (.aload_n 0)) (len := 1) (pc2 := 46) (lv2 := [(2, .int (m.I 66 21)), (0, .ref 67), (1, .int x1)]) (st2 := [.ref 67]) (h2 := (sh_rep m.T m.I m.J)) rfl rfl rfl ?_
        refine sh_w (i := (.iload_n 2)) (len := 1) (pc2 := 47) (lv2 := [(2, .int (m.I 66 21)), (0, .ref 67), (1, .int x1)]) (st2 := [.int (m.I 66 21), .ref 67]) (h2 := (sh_rep m.T m.I m.J)) rfl rfl rfl ?_
        refine sh_w (i := (.ldc_w 256)) (len := 3) (pc2 := 50) (lv2 := [(2, .int (m.I 66 21)), (0, .ref 67), (1, .int x1)]) (st2 := [.ref 1000013, .int (m.I 66 21), .ref 67]) (h2 := (sh_rep m.T m.I m.J)) rfl rfl rfl ?_
        exact kk
      obtain ⟨r3, e3, e⟩ := sh_bc_e e
      refine sh_Lk_cV (r := (some (.int (sh_b2 r3)))) (st2 := [.int (sh_b2 r3)]) (pc2 := 53) (k2 := 256) (a := 66) (as := [.ref 67, .int (m.I 66 21), .ref 1000013]) (rest := []) rfl rfl rfl (fun hT => (sh_s66 hT.st)) rfl rfl ⟨Nat.le_of_ble_eq_true rfl, Nat.le_of_ble_eq_true rfl⟩ (sl_256 e3 ⟨rfl, rfl⟩) rfl rfl (show 30 + 1 ≤ d + 1 + 33 by omega) (show 8 + (4 + 11) + (600) ≤ 40 * (d + 1) + 669 by omega) ?_
      rcases sh_ite e with ⟨c, e⟩ | ⟨c, e⟩
      · refine sh_Lk_lift (T := m.T) (I := m.I) (J := m.J) (s := m.s) (pc2 := 56) (lv2 := [(2, .int (m.I 66 21)), (0, .ref 67), (1, .int x1)]) (st2 := []) (I2 := m.I) (J2 := m.J) (fun hT v kk => ?_) ?_
        · refine sh_j0 (c := .eq) (off := (37)) (pc2 := 56) false rfl (sh_Zeqf c) rfl ?_
          exact kk
        exact sh_Lk_sub (sh_sub_c rfl (sh_sub_c rfl (sh_sub_n))) (sl_272_56 hQ e tg)
      · refine sh_Lk_lift (T := m.T) (I := m.I) (J := m.J) (s := m.s) (pc2 := 95) (lv2 := [(2, .int (m.I 66 21)), (0, .ref 67), (1, .int x1)]) (st2 := [.int (m.I 66 21), .ref 69]) (I2 := m.I) (J2 := m.J) (fun hT v kk => ?_) ?_
        · refine sh_j0 (c := .eq) (off := (37)) (pc2 := 90) true rfl (sh_Zeqt c) rfl ?_
          refine sh_w (i := (.aload_n 0)) (len := 1) (pc2 := 91) (lv2 := [(2, .int (m.I 66 21)), (0, .ref 67), (1, .int x1)]) (st2 := [.ref 67]) (h2 := (sh_rep m.T m.I m.J)) rfl rfl rfl ?_
          refine sh_gR1 (len := 3) (x := .ref 69) (pc2 := 94) rfl rfl (sh_s66 hT.st) rfl rfl ?_
          refine sh_w (i := (.iload_n 2)) (len := 1) (pc2 := 95) (lv2 := [(2, .int (m.I 66 21)), (0, .ref 67), (1, .int x1)]) (st2 := [.int (m.I 66 21), .ref 69]) (h2 := (sh_rep m.T m.I m.J)) rfl rfl rfl ?_
          exact kk
        obtain ⟨c, e⟩ := sh_gd e
        refine sh_Lk_lift (T := m.T) (I := m.I) (J := m.J) (s := m.s) (pc2 := 98) (lv2 := [(2, .int (m.I 66 21)), (0, .ref 67), (1, .int x1)]) (st2 := [.int 40, .int (m.I 68 (Int32.toNatClampNeg (m.I 66 21)))]) (I2 := m.I) (J2 := m.J) (fun hT v kk => ?_) ?_
        · refine sh_ia1 (x := m.I 68 (Int32.toNatClampNeg (m.I 66 21))) (pc2 := 96) rfl (sh_s68 hT.st) (sh_okb1 c) (sh_okb2 c) rfl rfl ?_
          refine sh_w (i := (.bipush 40)) (len := 2) (pc2 := 98) (lv2 := [(2, .int (m.I 66 21)), (0, .ref 67), (1, .int x1)]) (st2 := [.int 40, .int (m.I 68 (Int32.toNatClampNeg (m.I 66 21)))]) (h2 := (sh_rep m.T m.I m.J)) rfl rfl rfl ?_
          exact kk
        rcases sh_ite e with ⟨c, e⟩ | ⟨c, e⟩
        · refine sh_Lk_lift (T := m.T) (I := m.I) (J := m.J) (s := m.s) (pc2 := 115) (lv2 := [(2, .int (m.I 66 21)), (0, .ref 67), (1, .int x1)]) (st2 := [.int (x1 + 1), .ref 67]) (I2 := sh_u2 m.I 66 21 ((m.I 66 21) + 1)) (J2 := m.J) (fun hT v kk => ?_) ?_
          · refine sh_jc (c := .ne) (off := (45)) (pc2 := 101) false rfl (sh_Bnef c) rfl ?_
            refine sh_w (i := (.aload_n 0)) (len := 1) (pc2 := 102) (lv2 := [(2, .int (m.I 66 21)), (0, .ref 67), (1, .int x1)]) (st2 := [.ref 67]) (h2 := (sh_rep m.T m.I m.J)) rfl rfl rfl ?_
            refine sh_w (i := .dup) (len := 1) (pc2 := 103) (lv2 := [(2, .int (m.I 66 21)), (0, .ref 67), (1, .int x1)]) (st2 := [.ref 67, .ref 67]) (h2 := (sh_rep m.T m.I m.J)) rfl rfl rfl ?_
            refine sh_gI1 (len := 3) (x := m.I 66 21) (pc2 := 106) rfl rfl (sh_s66 hT.st) rfl rfl rfl ?_
            refine sh_w (i := (.iconst 1)) (len := 1) (pc2 := 107) (lv2 := [(2, .int (m.I 66 21)), (0, .ref 67), (1, .int x1)]) (st2 := [.int 1, .int (m.I 66 21), .ref 67]) (h2 := (sh_rep m.T m.I m.J)) rfl rfl rfl ?_
            refine sh_w (i := .iadd) (len := 1) (pc2 := 108) (lv2 := [(2, .int (m.I 66 21)), (0, .ref 67), (1, .int x1)]) (st2 := [.int ((m.I 66 21) + 1), .ref 67]) (h2 := (sh_rep m.T m.I m.J)) rfl rfl rfl ?_
            refine sh_pI1 (x := (m.I 66 21) + 1) (pc2 := 111) rfl rfl (sh_s66 hT.st) rfl rfl rfl rfl ?_
            refine sh_w (i := (.aload_n 0)) (len := 1) (pc2 := 112) (lv2 := [(2, .int (m.I 66 21)), (0, .ref 67), (1, .int x1)]) (st2 := [.ref 67]) (h2 := (sh_rep m.T (sh_u2 m.I 66 21 ((m.I 66 21) + 1)) m.J)) rfl rfl rfl ?_
            refine sh_w (i := (.iload_n 1)) (len := 1) (pc2 := 113) (lv2 := [(2, .int (m.I 66 21)), (0, .ref 67), (1, .int x1)]) (st2 := [.int x1, .ref 67]) (h2 := (sh_rep m.T (sh_u2 m.I 66 21 ((m.I 66 21) + 1)) m.J)) rfl rfl rfl ?_
            refine sh_w (i := (.iconst 1)) (len := 1) (pc2 := 114) (lv2 := [(2, .int (m.I 66 21)), (0, .ref 67), (1, .int x1)]) (st2 := [.int 1, .int x1, .ref 67]) (h2 := (sh_rep m.T (sh_u2 m.I 66 21 ((m.I 66 21) + 1)) m.J)) rfl rfl rfl ?_
            refine sh_w (i := .iadd) (len := 1) (pc2 := 115) (lv2 := [(2, .int (m.I 66 21)), (0, .ref 67), (1, .int x1)]) (st2 := [.int (x1 + 1), .ref 67]) (h2 := (sh_rep m.T (sh_u2 m.I 66 21 ((m.I 66 21) + 1)) m.J)) rfl rfl rfl ?_
            exact kk
          obtain ⟨r4, m14, e4, e⟩ := sh_bn_e e
          refine sh_Lk_cV (r := (some (.int r4))) (st2 := [.int r4]) (pc2 := 118) (k2 := 267) (a := 66) (as := [.ref 67, .int (x1 + 1)]) (rest := []) rfl rfl rfl (fun hT => (sh_s66 hT.st)) rfl rfl ⟨Nat.le_of_ble_eq_true rfl, Nat.le_of_ble_eq_true rfl⟩ (hQ.f267 e4 ⟨rfl, rfl⟩) rfl rfl (show d + 33 + 1 ≤ d + 1 + 33 by omega) (show 8 + (2 + 11) + (40 * d + 669) ≤ 40 * (d + 1) + 669 by omega) ?_
          refine sh_Lk_lift (T := m14.T) (I := m14.I) (J := m14.J) (s := m14.s) (pc2 := 120) (lv2 := [(3, .int r4), (2, .int (m.I 66 21)), (0, .ref 67), (1, .int x1)]) (st2 := [.int r4]) (I2 := m14.I) (J2 := m14.J) (fun hT v kk => ?_) ?_
          · refine sh_w (i := (.istore_n 3)) (len := 1) (pc2 := 119) (lv2 := [(3, .int r4), (2, .int (m.I 66 21)), (0, .ref 67), (1, .int x1)]) (st2 := []) (h2 := (sh_rep m14.T m14.I m14.J)) rfl rfl rfl ?_
            refine sh_w (i := (.iload_n 3)) (len := 1) (pc2 := 120) (lv2 := [(3, .int r4), (2, .int (m.I 66 21)), (0, .ref 67), (1, .int x1)]) (st2 := [.int r4]) (h2 := (sh_rep m14.T m14.I m14.J)) rfl rfl rfl ?_
            exact kk
          rcases sh_ite e with ⟨c, e⟩ | ⟨c, e⟩
          · refine sh_Lk_lift (T := m14.T) (I := m14.I) (J := m14.J) (s := m14.s) (pc2 := 133) (lv2 := [(3, .int r4), (2, .int (m.I 66 21)), (0, .ref 67), (1, .int x1)]) (st2 := [.int (-1)]) (I2 := m14.I) (J2 := m14.J) (fun hT v kk => ?_) ?_
            · refine sh_j0 (c := .lt) (off := (12)) (pc2 := 132) true rfl (sh_Bltt c) rfl ?_
              refine sh_w (i := (.iconst (-1))) (len := 1) (pc2 := 133) (lv2 := [(3, .int r4), (2, .int (m.I 66 21)), (0, .ref 67), (1, .int x1)]) (st2 := [.int (-1)]) (h2 := (sh_rep m14.T m14.I m14.J)) rfl rfl rfl ?_
              exact kk
            obtain rfl := Option.some.inj e
            obtain ⟨rfl, rfl⟩ := tg
            exact sh_Lk_ret (i := .ireturn) rfl rfl rfl (by omega) (by omega)
          · refine sh_Lk_lift (T := m14.T) (I := m14.I) (J := m14.J) (s := m14.s) (pc2 := 126) (lv2 := [(3, .int r4), (2, .int (m.I 66 21)), (0, .ref 67), (1, .int x1)]) (st2 := [.int 41, .ref 67]) (I2 := m14.I) (J2 := m14.J) (fun hT v kk => ?_) ?_
            · refine sh_j0 (c := .lt) (off := (12)) (pc2 := 123) false rfl (sh_Bltf c) rfl ?_
              refine sh_w (i := (.aload_n 0)) (len := 1) (pc2 := 124) (lv2 := [(3, .int r4), (2, .int (m.I 66 21)), (0, .ref 67), (1, .int x1)]) (st2 := [.ref 67]) (h2 := (sh_rep m14.T m14.I m14.J)) rfl rfl rfl ?_
              refine sh_w (i := (.bipush 41)) (len := 2) (pc2 := 126) (lv2 := [(3, .int r4), (2, .int (m.I 66 21)), (0, .ref 67), (1, .int x1)]) (st2 := [.int 41, .ref 67]) (h2 := (sh_rep m14.T m14.I m14.J)) rfl rfl rfl ?_
              exact kk
            obtain ⟨r5, m15, e5, e⟩ := sh_bn_e e
            refine sh_Lk_cV (r := (some (.int (sh_b2 r5)))) (st2 := [.int (sh_b2 r5)]) (pc2 := 129) (k2 := 262) (a := 66) (as := [.ref 67, .int 41]) (rest := []) rfl rfl rfl (fun hT => (sh_s66 hT.st)) rfl rfl ⟨Nat.le_of_ble_eq_true rfl, Nat.le_of_ble_eq_true rfl⟩ (sl_262 e5 ⟨rfl, rfl⟩) rfl rfl (show 9 + 1 ≤ d + 1 + 33 by omega) (show 8 + (2 + 11) + (222) ≤ 40 * (d + 1) + 669 by omega) ?_
            rcases sh_ite e with ⟨c, e⟩ | ⟨c, e⟩
            · refine sh_Lk_lift (T := m15.T) (I := m15.I) (J := m15.J) (s := m15.s) (pc2 := 140) (lv2 := [(3, .int r4), (2, .int (m.I 66 21)), (0, .ref 67), (1, .int x1)]) (st2 := [.int (m.I 66 21), .int r4, .ref 79]) (I2 := m15.I) (J2 := m15.J) (fun hT v kk => ?_) ?_
              · refine sh_j0 (c := .ne) (off := (5)) (pc2 := 134) true rfl (sh_Znet c) rfl ?_
                refine sh_w (i := (.aload_n 0)) (len := 1) (pc2 := 135) (lv2 := [(3, .int r4), (2, .int (m.I 66 21)), (0, .ref 67), (1, .int x1)]) (st2 := [.ref 67]) (h2 := (sh_rep m15.T m15.I m15.J)) rfl rfl rfl ?_
                refine sh_gR1 (len := 3) (x := .ref 79) (pc2 := 138) rfl rfl (sh_s66 hT.st) rfl rfl ?_
                refine sh_w (i := (.iload_n 3)) (len := 1) (pc2 := 139) (lv2 := [(3, .int r4), (2, .int (m.I 66 21)), (0, .ref 67), (1, .int x1)]) (st2 := [.int r4, .ref 79]) (h2 := (sh_rep m15.T m15.I m15.J)) rfl rfl rfl ?_
                refine sh_w (i := (.iload_n 2)) (len := 1) (pc2 := 140) (lv2 := [(3, .int r4), (2, .int (m.I 66 21)), (0, .ref 67), (1, .int x1)]) (st2 := [.int (m.I 66 21), .int r4, .ref 79]) (h2 := (sh_rep m15.T m15.I m15.J)) rfl rfl rfl ?_
                exact kk
              obtain ⟨c, e⟩ := sh_gd e
              refine sh_Lk_lift (T := m15.T) (I := m15.I) (J := m15.J) (s := m15.s) (pc2 := 142) (lv2 := [(3, .int r4), (2, .int (m.I 66 21)), (0, .ref 67), (1, .int x1)]) (st2 := [.int r4]) (I2 := sh_u2 m15.I 78 (Int32.toNatClampNeg r4) (m.I 66 21)) (J2 := m15.J) (fun hT v kk => ?_) ?_
              · refine sh_is1 (x := m.I 66 21) (i := r4) (pc2 := 141) rfl (sh_s78 hT.st) (sh_okb1 c) (sh_okb2 c) rfl ?_
                refine sh_w (i := (.iload_n 3)) (len := 1) (pc2 := 142) (lv2 := [(3, .int r4), (2, .int (m.I 66 21)), (0, .ref 67), (1, .int x1)]) (st2 := [.int r4]) (h2 := (sh_rep m15.T (sh_u2 m15.I 78 (Int32.toNatClampNeg r4) (m.I 66 21)) m15.J)) rfl rfl rfl ?_
                exact kk
              obtain rfl := Option.some.inj e
              obtain ⟨rfl, rfl⟩ := tg
              exact sh_Lk_ret (i := .ireturn) rfl rfl rfl (by omega) (by omega)
            · refine sh_Lk_lift (T := m15.T) (I := m15.I) (J := m15.J) (s := m15.s) (pc2 := 133) (lv2 := [(3, .int r4), (2, .int (m.I 66 21)), (0, .ref 67), (1, .int x1)]) (st2 := [.int (-1)]) (I2 := m15.I) (J2 := m15.J) (fun hT v kk => ?_) ?_
              · refine sh_j0 (c := .ne) (off := (5)) (pc2 := 132) false rfl (sh_Znef c) rfl ?_
                refine sh_w (i := (.iconst (-1))) (len := 1) (pc2 := 133) (lv2 := [(3, .int r4), (2, .int (m.I 66 21)), (0, .ref 67), (1, .int x1)]) (st2 := [.int (-1)]) (h2 := (sh_rep m15.T m15.I m15.J)) rfl rfl rfl ?_
                exact kk
              obtain rfl := Option.some.inj e
              obtain ⟨rfl, rfl⟩ := tg
              exact sh_Lk_ret (i := .ireturn) rfl rfl rfl (by omega) (by omega)
        · refine sh_Lk_lift (T := m.T) (I := m.I) (J := m.J) (s := m.s) (pc2 := 148) (lv2 := [(2, .int (m.I 66 21)), (0, .ref 67), (1, .int x1)]) (st2 := [.int (m.I 66 21), .ref 69]) (I2 := m.I) (J2 := m.J) (fun hT v kk => ?_) ?_
          · refine sh_jc (c := .ne) (off := (45)) (pc2 := 143) true rfl (sh_Bnet c) rfl ?_
            refine sh_w (i := (.aload_n 0)) (len := 1) (pc2 := 144) (lv2 := [(2, .int (m.I 66 21)), (0, .ref 67), (1, .int x1)]) (st2 := [.ref 67]) (h2 := (sh_rep m.T m.I m.J)) rfl rfl rfl ?_
            refine sh_gR1 (len := 3) (x := .ref 69) (pc2 := 147) rfl rfl (sh_s66 hT.st) rfl rfl ?_
            refine sh_w (i := (.iload_n 2)) (len := 1) (pc2 := 148) (lv2 := [(2, .int (m.I 66 21)), (0, .ref 67), (1, .int x1)]) (st2 := [.int (m.I 66 21), .ref 69]) (h2 := (sh_rep m.T m.I m.J)) rfl rfl rfl ?_
            exact kk
          obtain ⟨c, e⟩ := sh_gd e
          refine sh_Lk_lift (T := m.T) (I := m.I) (J := m.J) (s := m.s) (pc2 := 151) (lv2 := [(2, .int (m.I 66 21)), (0, .ref 67), (1, .int x1)]) (st2 := [.int 91, .int (m.I 68 (Int32.toNatClampNeg (m.I 66 21)))]) (I2 := m.I) (J2 := m.J) (fun hT v kk => ?_) ?_
          · refine sh_ia1 (x := m.I 68 (Int32.toNatClampNeg (m.I 66 21))) (pc2 := 149) rfl (sh_s68 hT.st) (sh_okb1 c) (sh_okb2 c) rfl rfl ?_
            refine sh_w (i := (.bipush 91)) (len := 2) (pc2 := 151) (lv2 := [(2, .int (m.I 66 21)), (0, .ref 67), (1, .int x1)]) (st2 := [.int 91, .int (m.I 68 (Int32.toNatClampNeg (m.I 66 21)))]) (h2 := (sh_rep m.T m.I m.J)) rfl rfl rfl ?_
            exact kk
          rcases sh_ite e with ⟨c, e⟩ | ⟨c, e⟩
          · refine sh_Lk_lift (T := m.T) (I := m.I) (J := m.J) (s := m.s) (pc2 := 170) (lv2 := [(2, .int (m.I 66 21)), (0, .ref 67), (1, .int x1)]) (st2 := [.int (-1), .int (-1), .int (m.I 66 21), .int 7, .ref 67]) (I2 := sh_u2 m.I 66 21 ((m.I 66 21) + 1)) (J2 := m.J) (fun hT v kk => ?_) ?_
            · refine sh_jc (c := .ne) (off := (40)) (pc2 := 154) false rfl (sh_Bnef c) rfl ?_
              refine sh_w (i := (.aload_n 0)) (len := 1) (pc2 := 155) (lv2 := [(2, .int (m.I 66 21)), (0, .ref 67), (1, .int x1)]) (st2 := [.ref 67]) (h2 := (sh_rep m.T m.I m.J)) rfl rfl rfl ?_
              refine sh_w (i := .dup) (len := 1) (pc2 := 156) (lv2 := [(2, .int (m.I 66 21)), (0, .ref 67), (1, .int x1)]) (st2 := [.ref 67, .ref 67]) (h2 := (sh_rep m.T m.I m.J)) rfl rfl rfl ?_
              refine sh_gI1 (len := 3) (x := m.I 66 21) (pc2 := 159) rfl rfl (sh_s66 hT.st) rfl rfl rfl ?_
              refine sh_w (i := (.iconst 1)) (len := 1) (pc2 := 160) (lv2 := [(2, .int (m.I 66 21)), (0, .ref 67), (1, .int x1)]) (st2 := [.int 1, .int (m.I 66 21), .ref 67]) (h2 := (sh_rep m.T m.I m.J)) rfl rfl rfl ?_
              refine sh_w (i := .iadd) (len := 1) (pc2 := 161) (lv2 := [(2, .int (m.I 66 21)), (0, .ref 67), (1, .int x1)]) (st2 := [.int ((m.I 66 21) + 1), .ref 67]) (h2 := (sh_rep m.T m.I m.J)) rfl rfl rfl ?_
              refine sh_pI1 (x := (m.I 66 21) + 1) (pc2 := 164) rfl rfl (sh_s66 hT.st) rfl rfl rfl rfl ?_
              refine sh_w (i := (.aload_n 0)) (len := 1) (pc2 := 165) (lv2 := [(2, .int (m.I 66 21)), (0, .ref 67), (1, .int x1)]) (st2 := [.ref 67]) (h2 := (sh_rep m.T (sh_u2 m.I 66 21 ((m.I 66 21) + 1)) m.J)) rfl rfl rfl ?_
              refine sh_w (i := (.bipush 7)) (len := 2) (pc2 := 167) (lv2 := [(2, .int (m.I 66 21)), (0, .ref 67), (1, .int x1)]) (st2 := [.int 7, .ref 67]) (h2 := (sh_rep m.T (sh_u2 m.I 66 21 ((m.I 66 21) + 1)) m.J)) rfl rfl rfl ?_
              refine sh_w (i := (.iload_n 2)) (len := 1) (pc2 := 168) (lv2 := [(2, .int (m.I 66 21)), (0, .ref 67), (1, .int x1)]) (st2 := [.int (m.I 66 21), .int 7, .ref 67]) (h2 := (sh_rep m.T (sh_u2 m.I 66 21 ((m.I 66 21) + 1)) m.J)) rfl rfl rfl ?_
              refine sh_w (i := (.iconst (-1))) (len := 1) (pc2 := 169) (lv2 := [(2, .int (m.I 66 21)), (0, .ref 67), (1, .int x1)]) (st2 := [.int (-1), .int (m.I 66 21), .int 7, .ref 67]) (h2 := (sh_rep m.T (sh_u2 m.I 66 21 ((m.I 66 21) + 1)) m.J)) rfl rfl rfl ?_
              refine sh_w (i := (.iconst (-1))) (len := 1) (pc2 := 170) (lv2 := [(2, .int (m.I 66 21)), (0, .ref 67), (1, .int x1)]) (st2 := [.int (-1), .int (-1), .int (m.I 66 21), .int 7, .ref 67]) (h2 := (sh_rep m.T (sh_u2 m.I 66 21 ((m.I 66 21) + 1)) m.J)) rfl rfl rfl ?_
              exact kk
            obtain ⟨r6, m16, e6, e⟩ := sh_bn_e e
            refine sh_Lk_cV (r := (some (.int r6))) (st2 := [.int r6]) (pc2 := 173) (k2 := 266) (a := 66) (as := [.ref 67, .int 7, .int (m.I 66 21), .int (-1), .int (-1)]) (rest := []) rfl rfl rfl (fun hT => (sh_s66 hT.st)) rfl rfl ⟨Nat.le_of_ble_eq_true rfl, Nat.le_of_ble_eq_true rfl⟩ (sl_266 e6 ⟨rfl, rfl⟩) rfl rfl (show 8 + 1 ≤ d + 1 + 33 by omega) (show 8 + (5 + 11) + (200) ≤ 40 * (d + 1) + 669 by omega) ?_
            refine sh_Lk_lift (T := m16.T) (I := m16.I) (J := m16.J) (s := m16.s) (pc2 := 179) (lv2 := [(3, .int r6), (2, .int (m.I 66 21)), (0, .ref 67), (1, .int x1)]) (st2 := [.int 93, .int x1, .int r6, .ref 67]) (I2 := m16.I) (J2 := m16.J) (fun hT v kk => ?_) ?_
            · refine sh_w (i := (.istore_n 3)) (len := 1) (pc2 := 174) (lv2 := [(3, .int r6), (2, .int (m.I 66 21)), (0, .ref 67), (1, .int x1)]) (st2 := []) (h2 := (sh_rep m16.T m16.I m16.J)) rfl rfl rfl ?_
              refine sh_w (i := (.aload_n 0)) (len := 1) (pc2 := 175) (lv2 := [(3, .int r6), (2, .int (m.I 66 21)), (0, .ref 67), (1, .int x1)]) (st2 := [.ref 67]) (h2 := (sh_rep m16.T m16.I m16.J)) rfl rfl rfl ?_
              refine sh_w (i := (.iload_n 3)) (len := 1) (pc2 := 176) (lv2 := [(3, .int r6), (2, .int (m.I 66 21)), (0, .ref 67), (1, .int x1)]) (st2 := [.int r6, .ref 67]) (h2 := (sh_rep m16.T m16.I m16.J)) rfl rfl rfl ?_
              refine sh_w (i := (.iload_n 1)) (len := 1) (pc2 := 177) (lv2 := [(3, .int r6), (2, .int (m.I 66 21)), (0, .ref 67), (1, .int x1)]) (st2 := [.int x1, .int r6, .ref 67]) (h2 := (sh_rep m16.T m16.I m16.J)) rfl rfl rfl ?_
              refine sh_w (i := (.bipush 93)) (len := 2) (pc2 := 179) (lv2 := [(3, .int r6), (2, .int (m.I 66 21)), (0, .ref 67), (1, .int x1)]) (st2 := [.int 93, .int x1, .int r6, .ref 67]) (h2 := (sh_rep m16.T m16.I m16.J)) rfl rfl rfl ?_
              exact kk
            obtain ⟨r7, m17, e7, e⟩ := sh_bn_e e
            refine sh_Lk_cV (r := (some (.int (sh_b2 r7)))) (st2 := [.int (sh_b2 r7)]) (pc2 := 182) (k2 := 273) (a := 66) (as := [.ref 67, .int r6, .int x1, .int 93]) (rest := []) rfl rfl rfl (fun hT => (sh_s66 hT.st)) rfl rfl ⟨Nat.le_of_ble_eq_true rfl, Nat.le_of_ble_eq_true rfl⟩ (hQ.f273 e7 ⟨rfl, rfl⟩) rfl rfl (show d + 33 + 1 ≤ d + 1 + 33 by omega) (show 8 + (6 + 11) + (40 * d + 669) ≤ 40 * (d + 1) + 669 by omega) ?_
            rcases sh_ite e with ⟨c, e⟩ | ⟨c, e⟩
            · refine sh_Lk_lift (T := m17.T) (I := m17.I) (J := m17.J) (s := m17.s) (pc2 := 190) (lv2 := [(3, .int r6), (2, .int (m.I 66 21)), (0, .ref 67), (1, .int x1)]) (st2 := [.int r6]) (I2 := m17.I) (J2 := m17.J) (fun hT v kk => ?_) ?_
              · refine sh_j0 (c := .eq) (off := (7)) (pc2 := 185) false rfl (sh_Zeqf c) rfl ?_
                refine sh_w (i := (.iload_n 3)) (len := 1) (pc2 := 186) (lv2 := [(3, .int r6), (2, .int (m.I 66 21)), (0, .ref 67), (1, .int x1)]) (st2 := [.int r6]) (h2 := (sh_rep m17.T m17.I m17.J)) rfl rfl rfl ?_
                refine sh_w (i := (.goto 4)) (len := 3) (pc2 := 190) (lv2 := [(3, .int r6), (2, .int (m.I 66 21)), (0, .ref 67), (1, .int x1)]) (st2 := [.int r6]) (h2 := (sh_rep m17.T m17.I m17.J)) rfl rfl rfl ?_
                exact kk
              obtain rfl := Option.some.inj e
              obtain ⟨rfl, rfl⟩ := tg
              exact sh_Lk_ret (i := .ireturn) rfl rfl rfl (by omega) (by omega)
            · refine sh_Lk_lift (T := m17.T) (I := m17.I) (J := m17.J) (s := m17.s) (pc2 := 190) (lv2 := [(3, .int r6), (2, .int (m.I 66 21)), (0, .ref 67), (1, .int x1)]) (st2 := [.int (-1)]) (I2 := m17.I) (J2 := m17.J) (fun hT v kk => ?_) ?_
              · refine sh_j0 (c := .eq) (off := (7)) (pc2 := 189) true rfl (sh_Zeqt c) rfl ?_
                refine sh_w (i := (.iconst (-1))) (len := 1) (pc2 := 190) (lv2 := [(3, .int r6), (2, .int (m.I 66 21)), (0, .ref 67), (1, .int x1)]) (st2 := [.int (-1)]) (h2 := (sh_rep m17.T m17.I m17.J)) rfl rfl rfl ?_
                exact kk
              obtain rfl := Option.some.inj e
              obtain ⟨rfl, rfl⟩ := tg
              exact sh_Lk_ret (i := .ireturn) rfl rfl rfl (by omega) (by omega)
          · refine sh_Lk_lift (T := m.T) (I := m.I) (J := m.J) (s := m.s) (pc2 := 193) (lv2 := [(2, .int (m.I 66 21)), (0, .ref 67), (1, .int x1)]) (st2 := [.int (m.I 66 21), .ref 67]) (I2 := m.I) (J2 := m.J) (fun hT v kk => ?_) ?_
            · refine sh_jc (c := .ne) (off := (40)) (pc2 := 191) true rfl (sh_Bnet c) rfl ?_
              refine sh_w (i := (.aload_n 0)) (len := 1) (pc2 := 192) (lv2 := [(2, .int (m.I 66 21)), (0, .ref 67), (1, .int x1)]) (st2 := [.ref 67]) (h2 := (sh_rep m.T m.I m.J)) rfl rfl rfl ?_
              refine sh_w (i := (.iload_n 2)) (len := 1) (pc2 := 193) (lv2 := [(2, .int (m.I 66 21)), (0, .ref 67), (1, .int x1)]) (st2 := [.int (m.I 66 21), .ref 67]) (h2 := (sh_rep m.T m.I m.J)) rfl rfl rfl ?_
              exact kk
            obtain ⟨r8, e8, e⟩ := sh_bc_e e
            refine sh_Lk_cV (r := (some (.int r8))) (st2 := [.int r8]) (pc2 := 196) (k2 := 261) (a := 66) (as := [.ref 67, .int (m.I 66 21)]) (rest := []) rfl rfl rfl (fun hT => (sh_s66 hT.st)) rfl rfl ⟨Nat.le_of_ble_eq_true rfl, Nat.le_of_ble_eq_true rfl⟩ (sl_261 e8 ⟨rfl, rfl⟩) rfl rfl (show 31 + 1 ≤ d + 1 + 33 by omega) (show 8 + (6 + 11) + (623) ≤ 40 * (d + 1) + 669 by omega) ?_
            rcases sh_ite e with ⟨c, e⟩ | ⟨c, e⟩
            · refine sh_Lk_lift (T := m.T) (I := m.I) (J := m.J) (s := m.s) (pc2 := 272) (lv2 := [(2, .int (m.I 66 21)), (0, .ref 67), (1, .int x1)]) (st2 := [.int (m.I 66 21), .ref 67]) (I2 := m.I) (J2 := m.J) (fun hT v kk => ?_) ?_
              · refine sh_j0 (c := .lt) (off := (74)) (pc2 := 270) true rfl (sh_Bltt c) rfl ?_
                refine sh_w (i := (.aload_n 0)) (len := 1) (pc2 := 271) (lv2 := [(2, .int (m.I 66 21)), (0, .ref 67), (1, .int x1)]) (st2 := [.ref 67]) (h2 := (sh_rep m.T m.I m.J)) rfl rfl rfl ?_
                refine sh_w (i := (.iload_n 2)) (len := 1) (pc2 := 272) (lv2 := [(2, .int (m.I 66 21)), (0, .ref 67), (1, .int x1)]) (st2 := [.int (m.I 66 21), .ref 67]) (h2 := (sh_rep m.T m.I m.J)) rfl rfl rfl ?_
                exact kk
              obtain ⟨r9, e9, e⟩ := sh_bc_e e
              refine sh_Lk_cV (r := (some (.int (sh_b2 r9)))) (st2 := [.int (sh_b2 r9)]) (pc2 := 275) (k2 := 259) (a := 66) (as := [.ref 67, .int (m.I 66 21)]) (rest := []) rfl rfl rfl (fun hT => (sh_s66 hT.st)) rfl rfl ⟨Nat.le_of_ble_eq_true rfl, Nat.le_of_ble_eq_true rfl⟩ (sl_259 e9 ⟨rfl, rfl⟩) rfl rfl (show 32 + 1 ≤ d + 1 + 33 by omega) (show 8 + (2 + 11) + (648) ≤ 40 * (d + 1) + 669 by omega) ?_
              rcases sh_ite e with ⟨c, e⟩ | ⟨c, e⟩
              · refine sh_Lk_lift (T := m.T) (I := m.I) (J := m.J) (s := m.s) (pc2 := 301) (lv2 := [(2, .int (m.I 66 21)), (0, .ref 67), (1, .int x1)]) (st2 := [.int ((m.I 66 21) + 1), .ref 69]) (I2 := sh_u2 m.I 66 21 ((m.I 66 21) + 1)) (J2 := m.J) (fun hT v kk => ?_) ?_
                · refine sh_j0 (c := .ne) (off := (8)) (pc2 := 283) true rfl (sh_Znet c) rfl ?_
                  refine sh_w (i := (.aload_n 0)) (len := 1) (pc2 := 284) (lv2 := [(2, .int (m.I 66 21)), (0, .ref 67), (1, .int x1)]) (st2 := [.ref 67]) (h2 := (sh_rep m.T m.I m.J)) rfl rfl rfl ?_
                  refine sh_w (i := .dup) (len := 1) (pc2 := 285) (lv2 := [(2, .int (m.I 66 21)), (0, .ref 67), (1, .int x1)]) (st2 := [.ref 67, .ref 67]) (h2 := (sh_rep m.T m.I m.J)) rfl rfl rfl ?_
                  refine sh_gI1 (len := 3) (x := m.I 66 21) (pc2 := 288) rfl rfl (sh_s66 hT.st) rfl rfl rfl ?_
                  refine sh_w (i := (.iconst 1)) (len := 1) (pc2 := 289) (lv2 := [(2, .int (m.I 66 21)), (0, .ref 67), (1, .int x1)]) (st2 := [.int 1, .int (m.I 66 21), .ref 67]) (h2 := (sh_rep m.T m.I m.J)) rfl rfl rfl ?_
                  refine sh_w (i := .iadd) (len := 1) (pc2 := 290) (lv2 := [(2, .int (m.I 66 21)), (0, .ref 67), (1, .int x1)]) (st2 := [.int ((m.I 66 21) + 1), .ref 67]) (h2 := (sh_rep m.T m.I m.J)) rfl rfl rfl ?_
                  refine sh_pI1 (x := (m.I 66 21) + 1) (pc2 := 293) rfl rfl (sh_s66 hT.st) rfl rfl rfl rfl ?_
                  refine sh_w (i := (.aload_n 0)) (len := 1) (pc2 := 294) (lv2 := [(2, .int (m.I 66 21)), (0, .ref 67), (1, .int x1)]) (st2 := [.ref 67]) (h2 := (sh_rep m.T (sh_u2 m.I 66 21 ((m.I 66 21) + 1)) m.J)) rfl rfl rfl ?_
                  refine sh_gR1 (len := 3) (x := .ref 69) (pc2 := 297) rfl rfl (sh_s66 hT.st) rfl rfl ?_
                  refine sh_w (i := (.aload_n 0)) (len := 1) (pc2 := 298) (lv2 := [(2, .int (m.I 66 21)), (0, .ref 67), (1, .int x1)]) (st2 := [.ref 67, .ref 69]) (h2 := (sh_rep m.T (sh_u2 m.I 66 21 ((m.I 66 21) + 1)) m.J)) rfl rfl rfl ?_
                  refine sh_gI1 (len := 3) (x := (m.I 66 21) + 1) (pc2 := 301) rfl rfl (sh_s66 hT.st) rfl rfl rfl ?_
                  exact kk
                obtain ⟨c, e⟩ := sh_gd e
                refine sh_Lk_lift (T := m.T) (I := sh_u2 m.I 66 21 ((m.I 66 21) + 1)) (J := m.J) (s := m.s) (pc2 := 304) (lv2 := [(2, .int (m.I 66 21)), (0, .ref 67), (1, .int x1)]) (st2 := [.int 40, .int (m.I 68 (Int32.toNatClampNeg ((m.I 66 21) + 1)))]) (I2 := sh_u2 m.I 66 21 ((m.I 66 21) + 1)) (J2 := m.J) (fun hT v kk => ?_) ?_
                · refine sh_ia1 (x := m.I 68 (Int32.toNatClampNeg ((m.I 66 21) + 1))) (pc2 := 302) rfl (sh_s68 hT.st) (sh_okb1 c) (sh_okb2 c) rfl rfl ?_
                  refine sh_w (i := (.bipush 40)) (len := 2) (pc2 := 304) (lv2 := [(2, .int (m.I 66 21)), (0, .ref 67), (1, .int x1)]) (st2 := [.int 40, .int (m.I 68 (Int32.toNatClampNeg ((m.I 66 21) + 1)))]) (h2 := (sh_rep m.T (sh_u2 m.I 66 21 ((m.I 66 21) + 1)) m.J)) rfl rfl rfl ?_
                  exact kk
                rcases sh_ite e with ⟨c, e⟩ | ⟨c, e⟩
                · refine sh_Lk_lift (T := m.T) (I := sh_u2 m.I 66 21 ((m.I 66 21) + 1)) (J := m.J) (s := m.s) (pc2 := 331) (lv2 := [(2, .int (m.I 66 21)), (0, .ref 67), (1, .int x1)]) (st2 := [.int x1, .int (-1), .int (m.I 66 21), .int 5, .ref 67]) (I2 := sh_u2 (sh_u2 m.I 66 21 ((m.I 66 21) + 1)) 66 21 (((m.I 66 21) + 1) + 1)) (J2 := m.J) (fun hT v kk => ?_) ?_
                  · refine sh_jc (c := .eq) (off := (12)) (pc2 := 316) true rfl (sh_Beqt c) rfl ?_
                    refine sh_w (i := (.aload_n 0)) (len := 1) (pc2 := 317) (lv2 := [(2, .int (m.I 66 21)), (0, .ref 67), (1, .int x1)]) (st2 := [.ref 67]) (h2 := (sh_rep m.T (sh_u2 m.I 66 21 ((m.I 66 21) + 1)) m.J)) rfl rfl rfl ?_
                    refine sh_w (i := .dup) (len := 1) (pc2 := 318) (lv2 := [(2, .int (m.I 66 21)), (0, .ref 67), (1, .int x1)]) (st2 := [.ref 67, .ref 67]) (h2 := (sh_rep m.T (sh_u2 m.I 66 21 ((m.I 66 21) + 1)) m.J)) rfl rfl rfl ?_
                    refine sh_gI1 (len := 3) (x := (m.I 66 21) + 1) (pc2 := 321) rfl rfl (sh_s66 hT.st) rfl rfl rfl ?_
                    refine sh_w (i := (.iconst 1)) (len := 1) (pc2 := 322) (lv2 := [(2, .int (m.I 66 21)), (0, .ref 67), (1, .int x1)]) (st2 := [.int 1, .int ((m.I 66 21) + 1), .ref 67]) (h2 := (sh_rep m.T (sh_u2 m.I 66 21 ((m.I 66 21) + 1)) m.J)) rfl rfl rfl ?_
                    refine sh_w (i := .iadd) (len := 1) (pc2 := 323) (lv2 := [(2, .int (m.I 66 21)), (0, .ref 67), (1, .int x1)]) (st2 := [.int (((m.I 66 21) + 1) + 1), .ref 67]) (h2 := (sh_rep m.T (sh_u2 m.I 66 21 ((m.I 66 21) + 1)) m.J)) rfl rfl rfl ?_
                    refine sh_pI1 (x := ((m.I 66 21) + 1) + 1) (pc2 := 326) rfl rfl (sh_s66 hT.st) rfl rfl rfl rfl ?_
                    refine sh_w (i := (.aload_n 0)) (len := 1) (pc2 := 327) (lv2 := [(2, .int (m.I 66 21)), (0, .ref 67), (1, .int x1)]) (st2 := [.ref 67]) (h2 := (sh_rep m.T (sh_u2 (sh_u2 m.I 66 21 ((m.I 66 21) + 1)) 66 21 (((m.I 66 21) + 1) + 1)) m.J)) rfl rfl rfl ?_
                    refine sh_w (i := (.iconst 5)) (len := 1) (pc2 := 328) (lv2 := [(2, .int (m.I 66 21)), (0, .ref 67), (1, .int x1)]) (st2 := [.int 5, .ref 67]) (h2 := (sh_rep m.T (sh_u2 (sh_u2 m.I 66 21 ((m.I 66 21) + 1)) 66 21 (((m.I 66 21) + 1) + 1)) m.J)) rfl rfl rfl ?_
                    refine sh_w (i := (.iload_n 2)) (len := 1) (pc2 := 329) (lv2 := [(2, .int (m.I 66 21)), (0, .ref 67), (1, .int x1)]) (st2 := [.int (m.I 66 21), .int 5, .ref 67]) (h2 := (sh_rep m.T (sh_u2 (sh_u2 m.I 66 21 ((m.I 66 21) + 1)) 66 21 (((m.I 66 21) + 1) + 1)) m.J)) rfl rfl rfl ?_
                    refine sh_w (i := (.iconst (-1))) (len := 1) (pc2 := 330) (lv2 := [(2, .int (m.I 66 21)), (0, .ref 67), (1, .int x1)]) (st2 := [.int (-1), .int (m.I 66 21), .int 5, .ref 67]) (h2 := (sh_rep m.T (sh_u2 (sh_u2 m.I 66 21 ((m.I 66 21) + 1)) 66 21 (((m.I 66 21) + 1) + 1)) m.J)) rfl rfl rfl ?_
                    refine sh_w (i := (.iload_n 1)) (len := 1) (pc2 := 331) (lv2 := [(2, .int (m.I 66 21)), (0, .ref 67), (1, .int x1)]) (st2 := [.int x1, .int (-1), .int (m.I 66 21), .int 5, .ref 67]) (h2 := (sh_rep m.T (sh_u2 (sh_u2 m.I 66 21 ((m.I 66 21) + 1)) 66 21 (((m.I 66 21) + 1) + 1)) m.J)) rfl rfl rfl ?_
                    exact kk
                  obtain ⟨r10, m20, e10, e⟩ := sh_bn_e e
                  refine sh_Lk_cV (r := (some (.int r10))) (st2 := [.int r10]) (pc2 := 334) (k2 := 266) (a := 66) (as := [.ref 67, .int 5, .int (m.I 66 21), .int (-1), .int x1]) (rest := []) rfl rfl rfl (fun hT => (sh_s66 hT.st)) rfl rfl ⟨Nat.le_of_ble_eq_true rfl, Nat.le_of_ble_eq_true rfl⟩ (sl_266 e10 ⟨rfl, rfl⟩) rfl rfl (show 8 + 1 ≤ d + 1 + 33 by omega) (show 8 + (5 + 11) + (200) ≤ 40 * (d + 1) + 669 by omega) ?_
                  refine sh_Lk_lift (T := m20.T) (I := m20.I) (J := m20.J) (s := m20.s) (pc2 := 343) (lv2 := [(3, .int r10), (2, .int (m.I 66 21)), (0, .ref 67), (1, .int x1)]) (st2 := [.int (m20.I 66 21), .ref 69]) (I2 := m20.I) (J2 := m20.J) (fun hT v kk => ?_) ?_
                  · refine sh_w (i := (.istore_n 3)) (len := 1) (pc2 := 335) (lv2 := [(3, .int r10), (2, .int (m.I 66 21)), (0, .ref 67), (1, .int x1)]) (st2 := []) (h2 := (sh_rep m20.T m20.I m20.J)) rfl rfl rfl ?_
                    refine sh_w (i := (.aload_n 0)) (len := 1) (pc2 := 336) (lv2 := [(3, .int r10), (2, .int (m.I 66 21)), (0, .ref 67), (1, .int x1)]) (st2 := [.ref 67]) (h2 := (sh_rep m20.T m20.I m20.J)) rfl rfl rfl ?_
                    refine sh_gR1 (len := 3) (x := .ref 69) (pc2 := 339) rfl rfl (sh_s66 hT.st) rfl rfl ?_
                    refine sh_w (i := (.aload_n 0)) (len := 1) (pc2 := 340) (lv2 := [(3, .int r10), (2, .int (m.I 66 21)), (0, .ref 67), (1, .int x1)]) (st2 := [.ref 67, .ref 69]) (h2 := (sh_rep m20.T m20.I m20.J)) rfl rfl rfl ?_
                    refine sh_gI1 (len := 3) (x := m20.I 66 21) (pc2 := 343) rfl rfl (sh_s66 hT.st) rfl rfl rfl ?_
                    exact kk
                  obtain ⟨c, e⟩ := sh_gd e
                  refine sh_Lk_lift (T := m20.T) (I := m20.I) (J := m20.J) (s := m20.s) (pc2 := 346) (lv2 := [(3, .int r10), (2, .int (m.I 66 21)), (0, .ref 67), (1, .int x1)]) (st2 := [.int 41, .int (m20.I 68 (Int32.toNatClampNeg (m20.I 66 21)))]) (I2 := m20.I) (J2 := m20.J) (fun hT v kk => ?_) ?_
                  · refine sh_ia1 (x := m20.I 68 (Int32.toNatClampNeg (m20.I 66 21))) (pc2 := 344) rfl (sh_s68 hT.st) (sh_okb1 c) (sh_okb2 c) rfl rfl ?_
                    refine sh_w (i := (.bipush 41)) (len := 2) (pc2 := 346) (lv2 := [(3, .int r10), (2, .int (m.I 66 21)), (0, .ref 67), (1, .int x1)]) (st2 := [.int 41, .int (m20.I 68 (Int32.toNatClampNeg (m20.I 66 21)))]) (h2 := (sh_rep m20.T m20.I m20.J)) rfl rfl rfl ?_
                    exact kk
                  rcases sh_ite e with ⟨c, e⟩ | ⟨c, e⟩
                  · refine sh_Lk_lift (T := m20.T) (I := m20.I) (J := m20.J) (s := m20.s) (pc2 := 360) (lv2 := [(3, .int r10), (2, .int (m.I 66 21)), (0, .ref 67), (1, .int x1)]) (st2 := [.int r10]) (I2 := sh_u2 m20.I 66 21 ((m20.I 66 21) + 1)) (J2 := m20.J) (fun hT v kk => ?_) ?_
                    · refine sh_jc (c := .ne) (off := (15)) (pc2 := 349) false rfl (sh_Bnef c) rfl ?_
                      refine sh_w (i := (.aload_n 0)) (len := 1) (pc2 := 350) (lv2 := [(3, .int r10), (2, .int (m.I 66 21)), (0, .ref 67), (1, .int x1)]) (st2 := [.ref 67]) (h2 := (sh_rep m20.T m20.I m20.J)) rfl rfl rfl ?_
                      refine sh_w (i := .dup) (len := 1) (pc2 := 351) (lv2 := [(3, .int r10), (2, .int (m.I 66 21)), (0, .ref 67), (1, .int x1)]) (st2 := [.ref 67, .ref 67]) (h2 := (sh_rep m20.T m20.I m20.J)) rfl rfl rfl ?_
                      refine sh_gI1 (len := 3) (x := m20.I 66 21) (pc2 := 354) rfl rfl (sh_s66 hT.st) rfl rfl rfl ?_
                      refine sh_w (i := (.iconst 1)) (len := 1) (pc2 := 355) (lv2 := [(3, .int r10), (2, .int (m.I 66 21)), (0, .ref 67), (1, .int x1)]) (st2 := [.int 1, .int (m20.I 66 21), .ref 67]) (h2 := (sh_rep m20.T m20.I m20.J)) rfl rfl rfl ?_
                      refine sh_w (i := .iadd) (len := 1) (pc2 := 356) (lv2 := [(3, .int r10), (2, .int (m.I 66 21)), (0, .ref 67), (1, .int x1)]) (st2 := [.int ((m20.I 66 21) + 1), .ref 67]) (h2 := (sh_rep m20.T m20.I m20.J)) rfl rfl rfl ?_
                      refine sh_pI1 (x := (m20.I 66 21) + 1) (pc2 := 359) rfl rfl (sh_s66 hT.st) rfl rfl rfl rfl ?_
                      refine sh_w (i := (.iload_n 3)) (len := 1) (pc2 := 360) (lv2 := [(3, .int r10), (2, .int (m.I 66 21)), (0, .ref 67), (1, .int x1)]) (st2 := [.int r10]) (h2 := (sh_rep m20.T (sh_u2 m20.I 66 21 ((m20.I 66 21) + 1)) m20.J)) rfl rfl rfl ?_
                      exact kk
                    obtain rfl := Option.some.inj e
                    obtain ⟨rfl, rfl⟩ := tg
                    exact sh_Lk_ret (i := .ireturn) rfl rfl rfl (by omega) (by omega)
                  · refine sh_Lk_lift (T := m20.T) (I := m20.I) (J := m20.J) (s := m20.s) (pc2 := 366) (lv2 := [(3, .int r10), (2, .int (m.I 66 21)), (0, .ref 67), (1, .int x1)]) (st2 := [.int 41, .int x1, .int r10, .ref 67]) (I2 := m20.I) (J2 := m20.J) (fun hT v kk => ?_) ?_
                    · refine sh_jc (c := .ne) (off := (15)) (pc2 := 361) true rfl (sh_Bnet c) rfl ?_
                      refine sh_w (i := (.aload_n 0)) (len := 1) (pc2 := 362) (lv2 := [(3, .int r10), (2, .int (m.I 66 21)), (0, .ref 67), (1, .int x1)]) (st2 := [.ref 67]) (h2 := (sh_rep m20.T m20.I m20.J)) rfl rfl rfl ?_
                      refine sh_w (i := (.iload_n 3)) (len := 1) (pc2 := 363) (lv2 := [(3, .int r10), (2, .int (m.I 66 21)), (0, .ref 67), (1, .int x1)]) (st2 := [.int r10, .ref 67]) (h2 := (sh_rep m20.T m20.I m20.J)) rfl rfl rfl ?_
                      refine sh_w (i := (.iload_n 1)) (len := 1) (pc2 := 364) (lv2 := [(3, .int r10), (2, .int (m.I 66 21)), (0, .ref 67), (1, .int x1)]) (st2 := [.int x1, .int r10, .ref 67]) (h2 := (sh_rep m20.T m20.I m20.J)) rfl rfl rfl ?_
                      refine sh_w (i := (.bipush 41)) (len := 2) (pc2 := 366) (lv2 := [(3, .int r10), (2, .int (m.I 66 21)), (0, .ref 67), (1, .int x1)]) (st2 := [.int 41, .int x1, .int r10, .ref 67]) (h2 := (sh_rep m20.T m20.I m20.J)) rfl rfl rfl ?_
                      exact kk
                    obtain ⟨r11, m21, e11, e⟩ := sh_bn_e e
                    refine sh_Lk_cV (r := (some (.int (sh_b2 r11)))) (st2 := [.int (sh_b2 r11)]) (pc2 := 369) (k2 := 273) (a := 66) (as := [.ref 67, .int r10, .int x1, .int 41]) (rest := []) rfl rfl rfl (fun hT => (sh_s66 hT.st)) rfl rfl ⟨Nat.le_of_ble_eq_true rfl, Nat.le_of_ble_eq_true rfl⟩ (hQ.f273 e11 ⟨rfl, rfl⟩) rfl rfl (show d + 33 + 1 ≤ d + 1 + 33 by omega) (show 8 + (6 + 11) + (40 * d + 669) ≤ 40 * (d + 1) + 669 by omega) ?_
                    rcases sh_ite e with ⟨c, e⟩ | ⟨c, e⟩
                    · refine sh_Lk_lift (T := m21.T) (I := m21.I) (J := m21.J) (s := m21.s) (pc2 := 377) (lv2 := [(3, .int r10), (2, .int (m.I 66 21)), (0, .ref 67), (1, .int x1)]) (st2 := [.int r10]) (I2 := m21.I) (J2 := m21.J) (fun hT v kk => ?_) ?_
                      · refine sh_j0 (c := .eq) (off := (7)) (pc2 := 372) false rfl (sh_Zeqf c) rfl ?_
                        refine sh_w (i := (.iload_n 3)) (len := 1) (pc2 := 373) (lv2 := [(3, .int r10), (2, .int (m.I 66 21)), (0, .ref 67), (1, .int x1)]) (st2 := [.int r10]) (h2 := (sh_rep m21.T m21.I m21.J)) rfl rfl rfl ?_
                        refine sh_w (i := (.goto 4)) (len := 3) (pc2 := 377) (lv2 := [(3, .int r10), (2, .int (m.I 66 21)), (0, .ref 67), (1, .int x1)]) (st2 := [.int r10]) (h2 := (sh_rep m21.T m21.I m21.J)) rfl rfl rfl ?_
                        exact kk
                      obtain rfl := Option.some.inj e
                      obtain ⟨rfl, rfl⟩ := tg
                      exact sh_Lk_ret (i := .ireturn) rfl rfl rfl (by omega) (by omega)
                    · refine sh_Lk_lift (T := m21.T) (I := m21.I) (J := m21.J) (s := m21.s) (pc2 := 377) (lv2 := [(3, .int r10), (2, .int (m.I 66 21)), (0, .ref 67), (1, .int x1)]) (st2 := [.int (-1)]) (I2 := m21.I) (J2 := m21.J) (fun hT v kk => ?_) ?_
                      · refine sh_j0 (c := .eq) (off := (7)) (pc2 := 376) true rfl (sh_Zeqt c) rfl ?_
                        refine sh_w (i := (.iconst (-1))) (len := 1) (pc2 := 377) (lv2 := [(3, .int r10), (2, .int (m.I 66 21)), (0, .ref 67), (1, .int x1)]) (st2 := [.int (-1)]) (h2 := (sh_rep m21.T m21.I m21.J)) rfl rfl rfl ?_
                        exact kk
                      obtain rfl := Option.some.inj e
                      obtain ⟨rfl, rfl⟩ := tg
                      exact sh_Lk_ret (i := .ireturn) rfl rfl rfl (by omega) (by omega)
                · refine sh_Lk_lift (T := m.T) (I := sh_u2 m.I 66 21 ((m.I 66 21) + 1)) (J := m.J) (s := m.s) (pc2 := 312) (lv2 := [(2, .int (m.I 66 21)), (0, .ref 67), (1, .int x1)]) (st2 := [.int (-1), .int (-1), .int (m.I 66 21), .int 4, .ref 67]) (I2 := sh_u2 m.I 66 21 ((m.I 66 21) + 1)) (J2 := m.J) (fun hT v kk => ?_) ?_
                  · refine sh_jc (c := .eq) (off := (12)) (pc2 := 307) false rfl (sh_Beqf c) rfl ?_
                    refine sh_w (i := (.aload_n 0)) (len := 1) (pc2 := 308) (lv2 := [(2, .int (m.I 66 21)), (0, .ref 67), (1, .int x1)]) (st2 := [.ref 67]) (h2 := (sh_rep m.T (sh_u2 m.I 66 21 ((m.I 66 21) + 1)) m.J)) rfl rfl rfl ?_
                    refine sh_w (i := (.iconst 4)) (len := 1) (pc2 := 309) (lv2 := [(2, .int (m.I 66 21)), (0, .ref 67), (1, .int x1)]) (st2 := [.int 4, .ref 67]) (h2 := (sh_rep m.T (sh_u2 m.I 66 21 ((m.I 66 21) + 1)) m.J)) rfl rfl rfl ?_
                    refine sh_w (i := (.iload_n 2)) (len := 1) (pc2 := 310) (lv2 := [(2, .int (m.I 66 21)), (0, .ref 67), (1, .int x1)]) (st2 := [.int (m.I 66 21), .int 4, .ref 67]) (h2 := (sh_rep m.T (sh_u2 m.I 66 21 ((m.I 66 21) + 1)) m.J)) rfl rfl rfl ?_
                    refine sh_w (i := (.iconst (-1))) (len := 1) (pc2 := 311) (lv2 := [(2, .int (m.I 66 21)), (0, .ref 67), (1, .int x1)]) (st2 := [.int (-1), .int (m.I 66 21), .int 4, .ref 67]) (h2 := (sh_rep m.T (sh_u2 m.I 66 21 ((m.I 66 21) + 1)) m.J)) rfl rfl rfl ?_
                    refine sh_w (i := (.iconst (-1))) (len := 1) (pc2 := 312) (lv2 := [(2, .int (m.I 66 21)), (0, .ref 67), (1, .int x1)]) (st2 := [.int (-1), .int (-1), .int (m.I 66 21), .int 4, .ref 67]) (h2 := (sh_rep m.T (sh_u2 m.I 66 21 ((m.I 66 21) + 1)) m.J)) rfl rfl rfl ?_
                    exact kk
                  obtain ⟨r12, m22, e12, e⟩ := sh_bn_e e
                  refine sh_Lk_cV (r := (some (.int r12))) (st2 := [.int r12]) (pc2 := 315) (k2 := 266) (a := 66) (as := [.ref 67, .int 4, .int (m.I 66 21), .int (-1), .int (-1)]) (rest := []) rfl rfl rfl (fun hT => (sh_s66 hT.st)) rfl rfl ⟨Nat.le_of_ble_eq_true rfl, Nat.le_of_ble_eq_true rfl⟩ (sl_266 e12 ⟨rfl, rfl⟩) rfl rfl (show 8 + 1 ≤ d + 1 + 33 by omega) (show 8 + (5 + 11) + (200) ≤ 40 * (d + 1) + 669 by omega) ?_
                  obtain rfl := Option.some.inj e
                  obtain ⟨rfl, rfl⟩ := tg
                  exact sh_Lk_ret (i := .ireturn) rfl rfl rfl (by omega) (by omega)
              · refine sh_Lk_lift (T := m.T) (I := m.I) (J := m.J) (s := m.s) (pc2 := 279) (lv2 := [(2, .int (m.I 66 21)), (0, .ref 67), (1, .int x1)]) (st2 := [.ref 67]) (I2 := m.I) (J2 := m.J) (fun hT v kk => ?_) ?_
                · refine sh_j0 (c := .ne) (off := (8)) (pc2 := 278) false rfl (sh_Znef c) rfl ?_
                  refine sh_w (i := (.aload_n 0)) (len := 1) (pc2 := 279) (lv2 := [(2, .int (m.I 66 21)), (0, .ref 67), (1, .int x1)]) (st2 := [.ref 67]) (h2 := (sh_rep m.T m.I m.J)) rfl rfl rfl ?_
                  exact kk
                obtain ⟨r13, m23, e13, e⟩ := sh_bn_e e
                refine sh_Lk_cV (r := (some (.int r13))) (st2 := [.int r13]) (pc2 := 282) (k2 := 268) (a := 66) (as := [.ref 67]) (rest := []) rfl rfl rfl (fun hT => (sh_s66 hT.st)) rfl rfl ⟨Nat.le_of_ble_eq_true rfl, Nat.le_of_ble_eq_true rfl⟩ (sl_268 e13 ⟨rfl, rfl⟩) rfl rfl (show 9 + 1 ≤ d + 1 + 33 by omega) (show 8 + (1 + 11) + (222) ≤ 40 * (d + 1) + 669 by omega) ?_
                obtain rfl := Option.some.inj e
                obtain ⟨rfl, rfl⟩ := tg
                exact sh_Lk_ret (i := .ireturn) rfl rfl rfl (by omega) (by omega)
            · refine sh_Lk_lift (T := m.T) (I := m.I) (J := m.J) (s := m.s) (pc2 := 218) (lv2 := [(2, .int (m.I 66 21)), (0, .ref 67), (1, .int x1)]) (st2 := [.int ((m.I 66 21) + 1), .int (-1), .int (m.I 66 21), .int 6, .ref 67]) (I2 := sh_u2 m.I 66 21 ((m.I 66 21) + 1)) (J2 := m.J) (fun hT v kk => ?_) ?_
              · refine sh_j0 (c := .lt) (off := (74)) (pc2 := 199) false rfl (sh_Bltf c) rfl ?_
                refine sh_w (i := (.aload_n 0)) (len := 1) (pc2 := 200) (lv2 := [(2, .int (m.I 66 21)), (0, .ref 67), (1, .int x1)]) (st2 := [.ref 67]) (h2 := (sh_rep m.T m.I m.J)) rfl rfl rfl ?_
                refine sh_w (i := .dup) (len := 1) (pc2 := 201) (lv2 := [(2, .int (m.I 66 21)), (0, .ref 67), (1, .int x1)]) (st2 := [.ref 67, .ref 67]) (h2 := (sh_rep m.T m.I m.J)) rfl rfl rfl ?_
                refine sh_gI1 (len := 3) (x := m.I 66 21) (pc2 := 204) rfl rfl (sh_s66 hT.st) rfl rfl rfl ?_
                refine sh_w (i := (.iconst 1)) (len := 1) (pc2 := 205) (lv2 := [(2, .int (m.I 66 21)), (0, .ref 67), (1, .int x1)]) (st2 := [.int 1, .int (m.I 66 21), .ref 67]) (h2 := (sh_rep m.T m.I m.J)) rfl rfl rfl ?_
                refine sh_w (i := .iadd) (len := 1) (pc2 := 206) (lv2 := [(2, .int (m.I 66 21)), (0, .ref 67), (1, .int x1)]) (st2 := [.int ((m.I 66 21) + 1), .ref 67]) (h2 := (sh_rep m.T m.I m.J)) rfl rfl rfl ?_
                refine sh_pI1 (x := (m.I 66 21) + 1) (pc2 := 209) rfl rfl (sh_s66 hT.st) rfl rfl rfl rfl ?_
                refine sh_w (i := (.aload_n 0)) (len := 1) (pc2 := 210) (lv2 := [(2, .int (m.I 66 21)), (0, .ref 67), (1, .int x1)]) (st2 := [.ref 67]) (h2 := (sh_rep m.T (sh_u2 m.I 66 21 ((m.I 66 21) + 1)) m.J)) rfl rfl rfl ?_
                refine sh_w (i := (.bipush 6)) (len := 2) (pc2 := 212) (lv2 := [(2, .int (m.I 66 21)), (0, .ref 67), (1, .int x1)]) (st2 := [.int 6, .ref 67]) (h2 := (sh_rep m.T (sh_u2 m.I 66 21 ((m.I 66 21) + 1)) m.J)) rfl rfl rfl ?_
                refine sh_w (i := (.iload_n 2)) (len := 1) (pc2 := 213) (lv2 := [(2, .int (m.I 66 21)), (0, .ref 67), (1, .int x1)]) (st2 := [.int (m.I 66 21), .int 6, .ref 67]) (h2 := (sh_rep m.T (sh_u2 m.I 66 21 ((m.I 66 21) + 1)) m.J)) rfl rfl rfl ?_
                refine sh_w (i := (.iconst (-1))) (len := 1) (pc2 := 214) (lv2 := [(2, .int (m.I 66 21)), (0, .ref 67), (1, .int x1)]) (st2 := [.int (-1), .int (m.I 66 21), .int 6, .ref 67]) (h2 := (sh_rep m.T (sh_u2 m.I 66 21 ((m.I 66 21) + 1)) m.J)) rfl rfl rfl ?_
                refine sh_w (i := (.aload_n 0)) (len := 1) (pc2 := 215) (lv2 := [(2, .int (m.I 66 21)), (0, .ref 67), (1, .int x1)]) (st2 := [.ref 67, .int (-1), .int (m.I 66 21), .int 6, .ref 67]) (h2 := (sh_rep m.T (sh_u2 m.I 66 21 ((m.I 66 21) + 1)) m.J)) rfl rfl rfl ?_
                refine sh_gI1 (len := 3) (x := (m.I 66 21) + 1) (pc2 := 218) rfl rfl (sh_s66 hT.st) rfl rfl rfl ?_
                exact kk
              obtain ⟨r14, m24, e14, e⟩ := sh_bn_e e
              refine sh_Lk_cV (r := (some (.int r14))) (st2 := [.int r14]) (pc2 := 221) (k2 := 266) (a := 66) (as := [.ref 67, .int 6, .int (m.I 66 21), .int (-1), .int ((m.I 66 21) + 1)]) (rest := []) rfl rfl rfl (fun hT => (sh_s66 hT.st)) rfl rfl ⟨Nat.le_of_ble_eq_true rfl, Nat.le_of_ble_eq_true rfl⟩ (sl_266 e14 ⟨rfl, rfl⟩) rfl rfl (show 8 + 1 ≤ d + 1 + 33 by omega) (show 8 + (5 + 11) + (200) ≤ 40 * (d + 1) + 669 by omega) ?_
              refine sh_Lk_lift (T := m24.T) (I := m24.I) (J := m24.J) (s := m24.s) (pc2 := 225) (lv2 := [(3, .int r14), (2, .int (m.I 66 21)), (0, .ref 67), (1, .int x1)]) (st2 := [.int 40, .ref 67]) (I2 := m24.I) (J2 := m24.J) (fun hT v kk => ?_) ?_
              · refine sh_w (i := (.istore_n 3)) (len := 1) (pc2 := 222) (lv2 := [(3, .int r14), (2, .int (m.I 66 21)), (0, .ref 67), (1, .int x1)]) (st2 := []) (h2 := (sh_rep m24.T m24.I m24.J)) rfl rfl rfl ?_
                refine sh_w (i := (.aload_n 0)) (len := 1) (pc2 := 223) (lv2 := [(3, .int r14), (2, .int (m.I 66 21)), (0, .ref 67), (1, .int x1)]) (st2 := [.ref 67]) (h2 := (sh_rep m24.T m24.I m24.J)) rfl rfl rfl ?_
                refine sh_w (i := (.bipush 40)) (len := 2) (pc2 := 225) (lv2 := [(3, .int r14), (2, .int (m.I 66 21)), (0, .ref 67), (1, .int x1)]) (st2 := [.int 40, .ref 67]) (h2 := (sh_rep m24.T m24.I m24.J)) rfl rfl rfl ?_
                exact kk
              obtain ⟨r15, m25, e15, e⟩ := sh_bn_e e
              refine sh_Lk_cV (r := (some (.int (sh_b2 r15)))) (st2 := [.int (sh_b2 r15)]) (pc2 := 228) (k2 := 262) (a := 66) (as := [.ref 67, .int 40]) (rest := []) rfl rfl rfl (fun hT => (sh_s66 hT.st)) rfl rfl ⟨Nat.le_of_ble_eq_true rfl, Nat.le_of_ble_eq_true rfl⟩ (sl_262 e15 ⟨rfl, rfl⟩) rfl rfl (show 9 + 1 ≤ d + 1 + 33 by omega) (show 8 + (2 + 11) + (222) ≤ 40 * (d + 1) + 669 by omega) ?_
              rcases sh_ite e with ⟨c, e⟩ | ⟨c, e⟩
              · refine sh_Lk_lift (T := m25.T) (I := m25.I) (J := m25.J) (s := m25.s) (pc2 := 242) (lv2 := [(3, .int r14), (2, .int (m.I 66 21)), (0, .ref 67), (1, .int x1)]) (st2 := [.int (x1 + 1), .ref 67, .int r14, .ref 75]) (I2 := m25.I) (J2 := m25.J) (fun hT v kk => ?_) ?_
                · refine sh_j0 (c := .ne) (off := (5)) (pc2 := 233) true rfl (sh_Znet c) rfl ?_
                  refine sh_w (i := (.aload_n 0)) (len := 1) (pc2 := 234) (lv2 := [(3, .int r14), (2, .int (m.I 66 21)), (0, .ref 67), (1, .int x1)]) (st2 := [.ref 67]) (h2 := (sh_rep m25.T m25.I m25.J)) rfl rfl rfl ?_
                  refine sh_gR1 (len := 3) (x := .ref 75) (pc2 := 237) rfl rfl (sh_s66 hT.st) rfl rfl ?_
                  refine sh_w (i := (.iload_n 3)) (len := 1) (pc2 := 238) (lv2 := [(3, .int r14), (2, .int (m.I 66 21)), (0, .ref 67), (1, .int x1)]) (st2 := [.int r14, .ref 75]) (h2 := (sh_rep m25.T m25.I m25.J)) rfl rfl rfl ?_
                  refine sh_w (i := (.aload_n 0)) (len := 1) (pc2 := 239) (lv2 := [(3, .int r14), (2, .int (m.I 66 21)), (0, .ref 67), (1, .int x1)]) (st2 := [.ref 67, .int r14, .ref 75]) (h2 := (sh_rep m25.T m25.I m25.J)) rfl rfl rfl ?_
                  refine sh_w (i := (.iload_n 1)) (len := 1) (pc2 := 240) (lv2 := [(3, .int r14), (2, .int (m.I 66 21)), (0, .ref 67), (1, .int x1)]) (st2 := [.int x1, .ref 67, .int r14, .ref 75]) (h2 := (sh_rep m25.T m25.I m25.J)) rfl rfl rfl ?_
                  refine sh_w (i := (.iconst 1)) (len := 1) (pc2 := 241) (lv2 := [(3, .int r14), (2, .int (m.I 66 21)), (0, .ref 67), (1, .int x1)]) (st2 := [.int 1, .int x1, .ref 67, .int r14, .ref 75]) (h2 := (sh_rep m25.T m25.I m25.J)) rfl rfl rfl ?_
                  refine sh_w (i := .iadd) (len := 1) (pc2 := 242) (lv2 := [(3, .int r14), (2, .int (m.I 66 21)), (0, .ref 67), (1, .int x1)]) (st2 := [.int (x1 + 1), .ref 67, .int r14, .ref 75]) (h2 := (sh_rep m25.T m25.I m25.J)) rfl rfl rfl ?_
                  exact kk
                obtain ⟨r16, m26, e16, e⟩ := sh_bn_e e
                refine sh_Lk_cV (r := (some (.int r16))) (st2 := [.int r16, .int r14, .ref 75]) (pc2 := 245) (k2 := 267) (a := 66) (as := [.ref 67, .int (x1 + 1)]) (rest := [.int r14, .ref 75]) rfl rfl rfl (fun hT => (sh_s66 hT.st)) rfl rfl ⟨Nat.le_of_ble_eq_true rfl, Nat.le_of_ble_eq_true rfl⟩ (hQ.f267 e16 ⟨rfl, rfl⟩) rfl rfl (show d + 33 + 1 ≤ d + 1 + 33 by omega) (show 8 + (2 + 11) + (40 * d + 669) ≤ 40 * (d + 1) + 669 by omega) ?_
                obtain ⟨c, e⟩ := sh_gd e
                refine sh_Lk_lift (T := m26.T) (I := m26.I) (J := m26.J) (s := m26.s) (pc2 := 251) (lv2 := [(3, .int r14), (2, .int (m.I 66 21)), (0, .ref 67), (1, .int x1)]) (st2 := [.int r14, .ref 75]) (I2 := sh_u2 m26.I 74 (Int32.toNatClampNeg r14) r16) (J2 := m26.J) (fun hT v kk => ?_) ?_
                · refine sh_is1 (x := r16) (i := r14) (pc2 := 246) rfl (sh_s74 hT.st) (sh_okb1 c) (sh_okb2 c) rfl ?_
                  refine sh_w (i := (.aload_n 0)) (len := 1) (pc2 := 247) (lv2 := [(3, .int r14), (2, .int (m.I 66 21)), (0, .ref 67), (1, .int x1)]) (st2 := [.ref 67]) (h2 := (sh_rep m26.T (sh_u2 m26.I 74 (Int32.toNatClampNeg r14) r16) m26.J)) rfl rfl rfl ?_
                  refine sh_gR1 (len := 3) (x := .ref 75) (pc2 := 250) rfl rfl (sh_s66 hT.st) rfl rfl ?_
                  refine sh_w (i := (.iload_n 3)) (len := 1) (pc2 := 251) (lv2 := [(3, .int r14), (2, .int (m.I 66 21)), (0, .ref 67), (1, .int x1)]) (st2 := [.int r14, .ref 75]) (h2 := (sh_rep m26.T (sh_u2 m26.I 74 (Int32.toNatClampNeg r14) r16) m26.J)) rfl rfl rfl ?_
                  exact kk
                obtain ⟨c, e⟩ := sh_gd e
                refine sh_Lk_lift (T := m26.T) (I := sh_u2 m26.I 74 (Int32.toNatClampNeg r14) r16) (J := m26.J) (s := m26.s) (pc2 := 252) (lv2 := [(3, .int r14), (2, .int (m.I 66 21)), (0, .ref 67), (1, .int x1)]) (st2 := [.int ((sh_u2 m26.I 74 (Int32.toNatClampNeg r14) r16) 74 (Int32.toNatClampNeg r14))]) (I2 := sh_u2 m26.I 74 (Int32.toNatClampNeg r14) r16) (J2 := m26.J) (fun hT v kk => ?_) ?_
                · refine sh_ia1 (x := (sh_u2 m26.I 74 (Int32.toNatClampNeg r14) r16) 74 (Int32.toNatClampNeg r14)) (pc2 := 252) rfl (sh_s74 hT.st) (sh_okb1 c) (sh_okb2 c) rfl rfl ?_
                  exact kk
                rcases sh_ite e with ⟨c, e⟩ | ⟨c, e⟩
                · refine sh_Lk_lift (T := m26.T) (I := sh_u2 m26.I 74 (Int32.toNatClampNeg r14) r16) (J := m26.J) (s := m26.s) (pc2 := 269) (lv2 := [(3, .int r14), (2, .int (m.I 66 21)), (0, .ref 67), (1, .int x1)]) (st2 := [.int (-1)]) (I2 := sh_u2 m26.I 74 (Int32.toNatClampNeg r14) r16) (J2 := m26.J) (fun hT v kk => ?_) ?_
                  · refine sh_j0 (c := .lt) (off := (16)) (pc2 := 268) true rfl (sh_Bltt c) rfl ?_
                    refine sh_w (i := (.iconst (-1))) (len := 1) (pc2 := 269) (lv2 := [(3, .int r14), (2, .int (m.I 66 21)), (0, .ref 67), (1, .int x1)]) (st2 := [.int (-1)]) (h2 := (sh_rep m26.T (sh_u2 m26.I 74 (Int32.toNatClampNeg r14) r16) m26.J)) rfl rfl rfl ?_
                    exact kk
                  obtain rfl := Option.some.inj e
                  obtain ⟨rfl, rfl⟩ := tg
                  exact sh_Lk_ret (i := .ireturn) rfl rfl rfl (by omega) (by omega)
                · refine sh_Lk_lift (T := m26.T) (I := sh_u2 m26.I 74 (Int32.toNatClampNeg r14) r16) (J := m26.J) (s := m26.s) (pc2 := 258) (lv2 := [(3, .int r14), (2, .int (m.I 66 21)), (0, .ref 67), (1, .int x1)]) (st2 := [.int 41, .ref 67]) (I2 := sh_u2 m26.I 74 (Int32.toNatClampNeg r14) r16) (J2 := m26.J) (fun hT v kk => ?_) ?_
                  · refine sh_j0 (c := .lt) (off := (16)) (pc2 := 255) false rfl (sh_Bltf c) rfl ?_
                    refine sh_w (i := (.aload_n 0)) (len := 1) (pc2 := 256) (lv2 := [(3, .int r14), (2, .int (m.I 66 21)), (0, .ref 67), (1, .int x1)]) (st2 := [.ref 67]) (h2 := (sh_rep m26.T (sh_u2 m26.I 74 (Int32.toNatClampNeg r14) r16) m26.J)) rfl rfl rfl ?_
                    refine sh_w (i := (.bipush 41)) (len := 2) (pc2 := 258) (lv2 := [(3, .int r14), (2, .int (m.I 66 21)), (0, .ref 67), (1, .int x1)]) (st2 := [.int 41, .ref 67]) (h2 := (sh_rep m26.T (sh_u2 m26.I 74 (Int32.toNatClampNeg r14) r16) m26.J)) rfl rfl rfl ?_
                    exact kk
                  obtain ⟨r17, m27, e17, e⟩ := sh_bn_e e
                  refine sh_Lk_cV (r := (some (.int (sh_b2 r17)))) (st2 := [.int (sh_b2 r17)]) (pc2 := 261) (k2 := 262) (a := 66) (as := [.ref 67, .int 41]) (rest := []) rfl rfl rfl (fun hT => (sh_s66 hT.st)) rfl rfl ⟨Nat.le_of_ble_eq_true rfl, Nat.le_of_ble_eq_true rfl⟩ (sl_262 e17 ⟨rfl, rfl⟩) rfl rfl (show 9 + 1 ≤ d + 1 + 33 by omega) (show 8 + (2 + 11) + (222) ≤ 40 * (d + 1) + 669 by omega) ?_
                  rcases sh_ite e with ⟨c, e⟩ | ⟨c, e⟩
                  · refine sh_Lk_lift (T := m27.T) (I := m27.I) (J := m27.J) (s := m27.s) (pc2 := 269) (lv2 := [(3, .int r14), (2, .int (m.I 66 21)), (0, .ref 67), (1, .int x1)]) (st2 := [.int r14]) (I2 := m27.I) (J2 := m27.J) (fun hT v kk => ?_) ?_
                    · refine sh_j0 (c := .eq) (off := (7)) (pc2 := 264) false rfl (sh_Zeqf c) rfl ?_
                      refine sh_w (i := (.iload_n 3)) (len := 1) (pc2 := 265) (lv2 := [(3, .int r14), (2, .int (m.I 66 21)), (0, .ref 67), (1, .int x1)]) (st2 := [.int r14]) (h2 := (sh_rep m27.T m27.I m27.J)) rfl rfl rfl ?_
                      refine sh_w (i := (.goto 4)) (len := 3) (pc2 := 269) (lv2 := [(3, .int r14), (2, .int (m.I 66 21)), (0, .ref 67), (1, .int x1)]) (st2 := [.int r14]) (h2 := (sh_rep m27.T m27.I m27.J)) rfl rfl rfl ?_
                      exact kk
                    obtain rfl := Option.some.inj e
                    obtain ⟨rfl, rfl⟩ := tg
                    exact sh_Lk_ret (i := .ireturn) rfl rfl rfl (by omega) (by omega)
                  · refine sh_Lk_lift (T := m27.T) (I := m27.I) (J := m27.J) (s := m27.s) (pc2 := 269) (lv2 := [(3, .int r14), (2, .int (m.I 66 21)), (0, .ref 67), (1, .int x1)]) (st2 := [.int (-1)]) (I2 := m27.I) (J2 := m27.J) (fun hT v kk => ?_) ?_
                    · refine sh_j0 (c := .eq) (off := (7)) (pc2 := 268) true rfl (sh_Zeqt c) rfl ?_
                      refine sh_w (i := (.iconst (-1))) (len := 1) (pc2 := 269) (lv2 := [(3, .int r14), (2, .int (m.I 66 21)), (0, .ref 67), (1, .int x1)]) (st2 := [.int (-1)]) (h2 := (sh_rep m27.T m27.I m27.J)) rfl rfl rfl ?_
                      exact kk
                    obtain rfl := Option.some.inj e
                    obtain ⟨rfl, rfl⟩ := tg
                    exact sh_Lk_ret (i := .ireturn) rfl rfl rfl (by omega) (by omega)
              · refine sh_Lk_lift (T := m25.T) (I := m25.I) (J := m25.J) (s := m25.s) (pc2 := 232) (lv2 := [(3, .int r14), (2, .int (m.I 66 21)), (0, .ref 67), (1, .int x1)]) (st2 := [.int (-1)]) (I2 := m25.I) (J2 := m25.J) (fun hT v kk => ?_) ?_
                · refine sh_j0 (c := .ne) (off := (5)) (pc2 := 231) false rfl (sh_Znef c) rfl ?_
                  refine sh_w (i := (.iconst (-1))) (len := 1) (pc2 := 232) (lv2 := [(3, .int r14), (2, .int (m.I 66 21)), (0, .ref 67), (1, .int x1)]) (st2 := [.int (-1)]) (h2 := (sh_rep m25.T m25.I m25.J)) rfl rfl rfl ?_
                  exact kk
                obtain rfl := Option.some.inj e
                obtain ⟨rfl, rfl⟩ := tg
                exact sh_Lk_ret (i := .ireturn) rfl rfl rfl (by omega) (by omega)
theorem sl_273_44 {Q : sh_Q240} {d : Nat} {x1 : Int32} {x2 : Int32} {x3 : Int32} {x5 : Int32} {m m2 : sh_X} {o : Outcome} {z : ((Int32 × sh_X) ⊕ (Bool × sh_X))} (hQ : sh_QL240 Q d) (e : sf_273_44 Q x1 x2 x3 x5 m = some z) (tg : (sh_el (fun q => sh_Lk 273 3 [(0, .ref 67), (1, .int x1), (2, .int x2), (3, .int x3), (4, .int q.1)] [] q.2 o m2 (d + 1 + 33) (40 * (d + 1) + 669)) (sh_tZ o m2)) z) : sh_Lk 273 44 [(0, .ref 67), (1, .int x1), (2, .int x2), (3, .int x3), (5, .int x5)] [] m o m2 (d + 1 + 33) (40 * (d + 1) + 669) := by
  unfold sf_273_44 at e
  refine sh_Lk_lift (T := m.T) (I := m.I) (J := m.J) (s := m.s) (pc2 := 56) (lv2 := [(4, .int x5), (0, .ref 67), (1, .int x1), (2, .int x2), (3, .int x3), (5, .int x5)]) (st2 := [.int (m.I 66 21), .ref 69]) (I2 := m.I) (J2 := m.J) (fun hT v kk => ?_) ?_
  · refine sh_w (i := (.iload 5)) (len := 2) (pc2 := 46) (lv2 := [(0, .ref 67), (1, .int x1), (2, .int x2), (3, .int x3), (5, .int x5)]) (st2 := [.int x5]) (h2 := (sh_rep m.T m.I m.J)) rfl rfl rfl ?_
    refine sh_w (i := (.istore 4)) (len := 2) (pc2 := 48) (lv2 := [(4, .int x5), (0, .ref 67), (1, .int x1), (2, .int x2), (3, .int x3), (5, .int x5)]) (st2 := []) (h2 := (sh_rep m.T m.I m.J)) rfl rfl rfl ?_
    refine sh_w (i := (.aload_n 0)) (len := 1) (pc2 := 49) (lv2 := [(4, .int x5), (0, .ref 67), (1, .int x1), (2, .int x2), (3, .int x3), (5, .int x5)]) (st2 := [.ref 67]) (h2 := (sh_rep m.T m.I m.J)) rfl rfl rfl ?_
    refine sh_gR1 (len := 3) (x := .ref 69) (pc2 := 52) rfl rfl (sh_s66 hT.st) rfl rfl ?_
    refine sh_w (i := (.aload_n 0)) (len := 1) (pc2 := 53) (lv2 := [(4, .int x5), (0, .ref 67), (1, .int x1), (2, .int x2), (3, .int x3), (5, .int x5)]) (st2 := [.ref 67, .ref 69]) (h2 := (sh_rep m.T m.I m.J)) rfl rfl rfl ?_
    refine sh_gI1 (len := 3) (x := m.I 66 21) (pc2 := 56) rfl rfl (sh_s66 hT.st) rfl rfl rfl ?_
    exact kk
  obtain ⟨c, e⟩ := sh_gd e
  refine sh_Lk_lift (T := m.T) (I := m.I) (J := m.J) (s := m.s) (pc2 := 58) (lv2 := [(4, .int x5), (0, .ref 67), (1, .int x1), (2, .int x2), (3, .int x3), (5, .int x5)]) (st2 := [.int x3, .int (m.I 68 (Int32.toNatClampNeg (m.I 66 21)))]) (I2 := m.I) (J2 := m.J) (fun hT v kk => ?_) ?_
  · refine sh_ia1 (x := m.I 68 (Int32.toNatClampNeg (m.I 66 21))) (pc2 := 57) rfl (sh_s68 hT.st) (sh_okb1 c) (sh_okb2 c) rfl rfl ?_
    refine sh_w (i := (.iload_n 3)) (len := 1) (pc2 := 58) (lv2 := [(4, .int x5), (0, .ref 67), (1, .int x1), (2, .int x2), (3, .int x3), (5, .int x5)]) (st2 := [.int x3, .int (m.I 68 (Int32.toNatClampNeg (m.I 66 21)))]) (h2 := (sh_rep m.T m.I m.J)) rfl rfl rfl ?_
    exact kk
  rcases sh_ite e with ⟨c, e⟩ | ⟨c, e⟩
  · refine sh_Lk_lift (T := m.T) (I := m.I) (J := m.J) (s := m.s) (pc2 := 72) (lv2 := [(4, .int x5), (0, .ref 67), (1, .int x1), (2, .int x2), (3, .int x3), (5, .int x5)]) (st2 := [.int 1]) (I2 := sh_u2 m.I 66 21 ((m.I 66 21) + 1)) (J2 := m.J) (fun hT v kk => ?_) ?_
    · refine sh_jc (c := .ne) (off := (15)) (pc2 := 61) false rfl (sh_Bnef c) rfl ?_
      refine sh_w (i := (.aload_n 0)) (len := 1) (pc2 := 62) (lv2 := [(4, .int x5), (0, .ref 67), (1, .int x1), (2, .int x2), (3, .int x3), (5, .int x5)]) (st2 := [.ref 67]) (h2 := (sh_rep m.T m.I m.J)) rfl rfl rfl ?_
      refine sh_w (i := .dup) (len := 1) (pc2 := 63) (lv2 := [(4, .int x5), (0, .ref 67), (1, .int x1), (2, .int x2), (3, .int x3), (5, .int x5)]) (st2 := [.ref 67, .ref 67]) (h2 := (sh_rep m.T m.I m.J)) rfl rfl rfl ?_
      refine sh_gI1 (len := 3) (x := m.I 66 21) (pc2 := 66) rfl rfl (sh_s66 hT.st) rfl rfl rfl ?_
      refine sh_w (i := (.iconst 1)) (len := 1) (pc2 := 67) (lv2 := [(4, .int x5), (0, .ref 67), (1, .int x1), (2, .int x2), (3, .int x3), (5, .int x5)]) (st2 := [.int 1, .int (m.I 66 21), .ref 67]) (h2 := (sh_rep m.T m.I m.J)) rfl rfl rfl ?_
      refine sh_w (i := .iadd) (len := 1) (pc2 := 68) (lv2 := [(4, .int x5), (0, .ref 67), (1, .int x1), (2, .int x2), (3, .int x3), (5, .int x5)]) (st2 := [.int ((m.I 66 21) + 1), .ref 67]) (h2 := (sh_rep m.T m.I m.J)) rfl rfl rfl ?_
      refine sh_pI1 (x := (m.I 66 21) + 1) (pc2 := 71) rfl rfl (sh_s66 hT.st) rfl rfl rfl rfl ?_
      refine sh_w (i := (.iconst 1)) (len := 1) (pc2 := 72) (lv2 := [(4, .int x5), (0, .ref 67), (1, .int x1), (2, .int x2), (3, .int x3), (5, .int x5)]) (st2 := [.int 1]) (h2 := (sh_rep m.T (sh_u2 m.I 66 21 ((m.I 66 21) + 1)) m.J)) rfl rfl rfl ?_
      exact kk
    obtain rfl := Option.some.inj e
    obtain ⟨rfl, rfl⟩ := tg
    exact sh_Lk_ret (i := .ireturn) rfl rfl rfl (by omega) (by omega)
  · refine sh_Lk_lift (T := m.T) (I := m.I) (J := m.J) (s := m.s) (pc2 := 76) (lv2 := [(4, .int x5), (0, .ref 67), (1, .int x1), (2, .int x2), (3, .int x3), (5, .int x5)]) (st2 := [.int 44, .ref 67]) (I2 := m.I) (J2 := m.J) (fun hT v kk => ?_) ?_
    · refine sh_jc (c := .ne) (off := (15)) (pc2 := 73) true rfl (sh_Bnet c) rfl ?_
      refine sh_w (i := (.aload_n 0)) (len := 1) (pc2 := 74) (lv2 := [(4, .int x5), (0, .ref 67), (1, .int x1), (2, .int x2), (3, .int x3), (5, .int x5)]) (st2 := [.ref 67]) (h2 := (sh_rep m.T m.I m.J)) rfl rfl rfl ?_
      refine sh_w (i := (.bipush 44)) (len := 2) (pc2 := 76) (lv2 := [(4, .int x5), (0, .ref 67), (1, .int x1), (2, .int x2), (3, .int x3), (5, .int x5)]) (st2 := [.int 44, .ref 67]) (h2 := (sh_rep m.T m.I m.J)) rfl rfl rfl ?_
      exact kk
    obtain ⟨r1, m11, e1, e⟩ := sh_bn_e e
    refine sh_Lk_cV (r := (some (.int (sh_b2 r1)))) (st2 := [.int (sh_b2 r1)]) (pc2 := 79) (k2 := 262) (a := 66) (as := [.ref 67, .int 44]) (rest := []) rfl rfl rfl (fun hT => (sh_s66 hT.st)) rfl rfl ⟨Nat.le_of_ble_eq_true rfl, Nat.le_of_ble_eq_true rfl⟩ (sl_262 e1 ⟨rfl, rfl⟩) rfl rfl (show 9 + 1 ≤ d + 1 + 33 by omega) (show 8 + (2 + 11) + (222) ≤ 40 * (d + 1) + 669 by omega) ?_
    rcases sh_ite e with ⟨c, e⟩ | ⟨c, e⟩
    · refine sh_Lk_lift (T := m11.T) (I := m11.I) (J := m11.J) (s := m11.s) (pc2 := 3) (lv2 := [(4, .int x5), (0, .ref 67), (1, .int x1), (2, .int x2), (3, .int x3), (5, .int x5)]) (st2 := []) (I2 := m11.I) (J2 := m11.J) (fun hT v kk => ?_) ?_
      · refine sh_j0 (c := .ne) (off := (5)) (pc2 := 84) true rfl (sh_Znet c) rfl ?_
        refine sh_w (i := (.goto (-81))) (len := 3) (pc2 := 3) (lv2 := [(4, .int x5), (0, .ref 67), (1, .int x1), (2, .int x2), (3, .int x3), (5, .int x5)]) (st2 := []) (h2 := (sh_rep m11.T m11.I m11.J)) rfl rfl rfl ?_
        exact kk
      obtain rfl := Option.some.inj e
      exact sh_Lk_sub (sh_sub_c rfl (sh_sub_c rfl (sh_sub_c rfl (sh_sub_c rfl (sh_sub_c rfl (sh_sub_n)))))) tg
    · refine sh_Lk_lift (T := m11.T) (I := m11.I) (J := m11.J) (s := m11.s) (pc2 := 83) (lv2 := [(4, .int x5), (0, .ref 67), (1, .int x1), (2, .int x2), (3, .int x3), (5, .int x5)]) (st2 := [.int 0]) (I2 := m11.I) (J2 := m11.J) (fun hT v kk => ?_) ?_
      · refine sh_j0 (c := .ne) (off := (5)) (pc2 := 82) false rfl (sh_Znef c) rfl ?_
        refine sh_w (i := (.iconst 0)) (len := 1) (pc2 := 83) (lv2 := [(4, .int x5), (0, .ref 67), (1, .int x1), (2, .int x2), (3, .int x3), (5, .int x5)]) (st2 := [.int 0]) (h2 := (sh_rep m11.T m11.I m11.J)) rfl rfl rfl ?_
        exact kk
      obtain rfl := Option.some.inj e
      obtain ⟨rfl, rfl⟩ := tg
      exact sh_Lk_ret (i := .ireturn) rfl rfl rfl (by omega) (by omega)
theorem sl_273_3s {Q : sh_Q240} {d : Nat} {x1 : Int32} {x2 : Int32} {x3 : Int32} {x4 : Int32} {m m2 : sh_X} {o : Outcome} {z : ((Int32 × sh_X) ⊕ (Bool × sh_X))} (hQ : sh_QL240 Q d) (e : sf_273_3s Q x1 x2 x3 x4 m = some z) (tg : (sh_el (fun q => sh_Lk 273 3 [(0, .ref 67), (1, .int x1), (2, .int x2), (3, .int x3), (4, .int q.1)] [] q.2 o m2 (d + 1 + 33) (40 * (d + 1) + 669)) (sh_tZ o m2)) z) : sh_Lk 273 3 [(0, .ref 67), (1, .int x1), (2, .int x2), (3, .int x3), (4, .int x4)] [] m o m2 (d + 1 + 33) (40 * (d + 1) + 669) := by
  unfold sf_273_3s at e
  refine sh_Lk_lift (T := m.T) (I := m.I) (J := m.J) (s := m.s) (pc2 := 7) (lv2 := [(0, .ref 67), (1, .int x1), (2, .int x2), (3, .int x3), (4, .int x4)]) (st2 := [.int (x2 + 1), .ref 67]) (I2 := m.I) (J2 := m.J) (fun hT v kk => ?_) ?_
  · refine sh_w (i := (.aload_n 0)) (len := 1) (pc2 := 4) (lv2 := [(0, .ref 67), (1, .int x1), (2, .int x2), (3, .int x3), (4, .int x4)]) (st2 := [.ref 67]) (h2 := (sh_rep m.T m.I m.J)) rfl rfl rfl ?_
    refine sh_w (i := (.iload_n 2)) (len := 1) (pc2 := 5) (lv2 := [(0, .ref 67), (1, .int x1), (2, .int x2), (3, .int x3), (4, .int x4)]) (st2 := [.int x2, .ref 67]) (h2 := (sh_rep m.T m.I m.J)) rfl rfl rfl ?_
    refine sh_w (i := (.iconst 1)) (len := 1) (pc2 := 6) (lv2 := [(0, .ref 67), (1, .int x1), (2, .int x2), (3, .int x3), (4, .int x4)]) (st2 := [.int 1, .int x2, .ref 67]) (h2 := (sh_rep m.T m.I m.J)) rfl rfl rfl ?_
    refine sh_w (i := .iadd) (len := 1) (pc2 := 7) (lv2 := [(0, .ref 67), (1, .int x1), (2, .int x2), (3, .int x3), (4, .int x4)]) (st2 := [.int (x2 + 1), .ref 67]) (h2 := (sh_rep m.T m.I m.J)) rfl rfl rfl ?_
    exact kk
  obtain ⟨r1, m11, e1, e⟩ := sh_bn_e e
  refine sh_Lk_cV (r := (some (.int r1))) (st2 := [.int r1]) (pc2 := 10) (k2 := 267) (a := 66) (as := [.ref 67, .int (x2 + 1)]) (rest := []) rfl rfl rfl (fun hT => (sh_s66 hT.st)) rfl rfl ⟨Nat.le_of_ble_eq_true rfl, Nat.le_of_ble_eq_true rfl⟩ (hQ.f267 e1 ⟨rfl, rfl⟩) rfl rfl (show d + 33 + 1 ≤ d + 1 + 33 by omega) (show 8 + (2 + 11) + (40 * d + 669) ≤ 40 * (d + 1) + 669 by omega) ?_
  refine sh_Lk_lift (T := m11.T) (I := m11.I) (J := m11.J) (s := m11.s) (pc2 := 14) (lv2 := [(5, .int r1), (0, .ref 67), (1, .int x1), (2, .int x2), (3, .int x3), (4, .int x4)]) (st2 := [.int r1]) (I2 := m11.I) (J2 := m11.J) (fun hT v kk => ?_) ?_
  · refine sh_w (i := (.istore 5)) (len := 2) (pc2 := 12) (lv2 := [(5, .int r1), (0, .ref 67), (1, .int x1), (2, .int x2), (3, .int x3), (4, .int x4)]) (st2 := []) (h2 := (sh_rep m11.T m11.I m11.J)) rfl rfl rfl ?_
    refine sh_w (i := (.iload 5)) (len := 2) (pc2 := 14) (lv2 := [(5, .int r1), (0, .ref 67), (1, .int x1), (2, .int x2), (3, .int x3), (4, .int x4)]) (st2 := [.int r1]) (h2 := (sh_rep m11.T m11.I m11.J)) rfl rfl rfl ?_
    exact kk
  rcases sh_ite e with ⟨c, e⟩ | ⟨c, e⟩
  · refine sh_Lk_lift (T := m11.T) (I := m11.I) (J := m11.J) (s := m11.s) (pc2 := 18) (lv2 := [(5, .int r1), (0, .ref 67), (1, .int x1), (2, .int x2), (3, .int x3), (4, .int x4)]) (st2 := [.int 0]) (I2 := m11.I) (J2 := m11.J) (fun hT v kk => ?_) ?_
    · refine sh_j0 (c := .ge) (off := (5)) (pc2 := 17) false rfl (sh_Bgef c) rfl ?_
      refine sh_w (i := (.iconst 0)) (len := 1) (pc2 := 18) (lv2 := [(5, .int r1), (0, .ref 67), (1, .int x1), (2, .int x2), (3, .int x3), (4, .int x4)]) (st2 := [.int 0]) (h2 := (sh_rep m11.T m11.I m11.J)) rfl rfl rfl ?_
      exact kk
    obtain rfl := Option.some.inj e
    obtain ⟨rfl, rfl⟩ := tg
    exact sh_Lk_ret (i := .ireturn) rfl rfl rfl (by omega) (by omega)
  · refine sh_Lk_lift (T := m11.T) (I := m11.I) (J := m11.J) (s := m11.s) (pc2 := 21) (lv2 := [(5, .int r1), (0, .ref 67), (1, .int x1), (2, .int x2), (3, .int x3), (4, .int x4)]) (st2 := [.int x4]) (I2 := m11.I) (J2 := m11.J) (fun hT v kk => ?_) ?_
    · refine sh_j0 (c := .ge) (off := (5)) (pc2 := 19) true rfl (sh_Bget c) rfl ?_
      refine sh_w (i := (.iload 4)) (len := 2) (pc2 := 21) (lv2 := [(5, .int r1), (0, .ref 67), (1, .int x1), (2, .int x2), (3, .int x3), (4, .int x4)]) (st2 := [.int x4]) (h2 := (sh_rep m11.T m11.I m11.J)) rfl rfl rfl ?_
      exact kk
    rcases sh_ite e with ⟨c, e⟩ | ⟨c, e⟩
    · refine sh_Lk_lift (T := m11.T) (I := m11.I) (J := m11.J) (s := m11.s) (pc2 := 31) (lv2 := [(5, .int r1), (0, .ref 67), (1, .int x1), (2, .int x2), (3, .int x3), (4, .int x4)]) (st2 := [.int r1, .int x1, .ref 75]) (I2 := m11.I) (J2 := m11.J) (fun hT v kk => ?_) ?_
      · refine sh_j0 (c := .ge) (off := (14)) (pc2 := 24) false rfl (sh_Bgef c) rfl ?_
        refine sh_w (i := (.aload_n 0)) (len := 1) (pc2 := 25) (lv2 := [(5, .int r1), (0, .ref 67), (1, .int x1), (2, .int x2), (3, .int x3), (4, .int x4)]) (st2 := [.ref 67]) (h2 := (sh_rep m11.T m11.I m11.J)) rfl rfl rfl ?_
        refine sh_gR1 (len := 3) (x := .ref 75) (pc2 := 28) rfl rfl (sh_s66 hT.st) rfl rfl ?_
        refine sh_w (i := (.iload_n 1)) (len := 1) (pc2 := 29) (lv2 := [(5, .int r1), (0, .ref 67), (1, .int x1), (2, .int x2), (3, .int x3), (4, .int x4)]) (st2 := [.int x1, .ref 75]) (h2 := (sh_rep m11.T m11.I m11.J)) rfl rfl rfl ?_
        refine sh_w (i := (.iload 5)) (len := 2) (pc2 := 31) (lv2 := [(5, .int r1), (0, .ref 67), (1, .int x1), (2, .int x2), (3, .int x3), (4, .int x4)]) (st2 := [.int r1, .int x1, .ref 75]) (h2 := (sh_rep m11.T m11.I m11.J)) rfl rfl rfl ?_
        exact kk
      obtain ⟨c, e⟩ := sh_gd e
      refine sh_Lk_lift (T := m11.T) (I := m11.I) (J := m11.J) (s := m11.s) (pc2 := 44) (lv2 := [(5, .int r1), (0, .ref 67), (1, .int x1), (2, .int x2), (3, .int x3), (4, .int x4)]) (st2 := []) (I2 := sh_u2 m11.I 74 (Int32.toNatClampNeg x1) r1) (J2 := m11.J) (fun hT v kk => ?_) ?_
      · refine sh_is1 (x := r1) (i := x1) (pc2 := 32) rfl (sh_s74 hT.st) (sh_okb1 c) (sh_okb2 c) rfl ?_
        refine sh_w (i := (.goto 12)) (len := 3) (pc2 := 44) (lv2 := [(5, .int r1), (0, .ref 67), (1, .int x1), (2, .int x2), (3, .int x3), (4, .int x4)]) (st2 := []) (h2 := (sh_rep m11.T (sh_u2 m11.I 74 (Int32.toNatClampNeg x1) r1) m11.J)) rfl rfl rfl ?_
        exact kk
      exact sh_Lk_sub (sh_sub_c rfl (sh_sub_c rfl (sh_sub_c rfl (sh_sub_c rfl (sh_sub_c rfl (sh_sub_n)))))) (sl_273_44 hQ e tg)
    · refine sh_Lk_lift (T := m11.T) (I := m11.I) (J := m11.J) (s := m11.s) (pc2 := 43) (lv2 := [(5, .int r1), (0, .ref 67), (1, .int x1), (2, .int x2), (3, .int x3), (4, .int x4)]) (st2 := [.int r1, .int x4, .ref 78]) (I2 := m11.I) (J2 := m11.J) (fun hT v kk => ?_) ?_
      · refine sh_j0 (c := .ge) (off := (14)) (pc2 := 35) true rfl (sh_Bget c) rfl ?_
        refine sh_w (i := (.aload_n 0)) (len := 1) (pc2 := 36) (lv2 := [(5, .int r1), (0, .ref 67), (1, .int x1), (2, .int x2), (3, .int x3), (4, .int x4)]) (st2 := [.ref 67]) (h2 := (sh_rep m11.T m11.I m11.J)) rfl rfl rfl ?_
        refine sh_gR1 (len := 3) (x := .ref 78) (pc2 := 39) rfl rfl (sh_s66 hT.st) rfl rfl ?_
        refine sh_w (i := (.iload 4)) (len := 2) (pc2 := 41) (lv2 := [(5, .int r1), (0, .ref 67), (1, .int x1), (2, .int x2), (3, .int x3), (4, .int x4)]) (st2 := [.int x4, .ref 78]) (h2 := (sh_rep m11.T m11.I m11.J)) rfl rfl rfl ?_
        refine sh_w (i := (.iload 5)) (len := 2) (pc2 := 43) (lv2 := [(5, .int r1), (0, .ref 67), (1, .int x1), (2, .int x2), (3, .int x3), (4, .int x4)]) (st2 := [.int r1, .int x4, .ref 78]) (h2 := (sh_rep m11.T m11.I m11.J)) rfl rfl rfl ?_
        exact kk
      obtain ⟨c, e⟩ := sh_gd e
      refine sh_Lk_lift (T := m11.T) (I := m11.I) (J := m11.J) (s := m11.s) (pc2 := 44) (lv2 := [(5, .int r1), (0, .ref 67), (1, .int x1), (2, .int x2), (3, .int x3), (4, .int x4)]) (st2 := []) (I2 := sh_u2 m11.I 77 (Int32.toNatClampNeg x4) r1) (J2 := m11.J) (fun hT v kk => ?_) ?_
      · refine sh_is1 (x := r1) (i := x4) (pc2 := 44) rfl (sh_s77 hT.st) (sh_okb1 c) (sh_okb2 c) rfl ?_
        exact kk
      exact sh_Lk_sub (sh_sub_c rfl (sh_sub_c rfl (sh_sub_c rfl (sh_sub_c rfl (sh_sub_c rfl (sh_sub_n)))))) (sl_273_44 hQ e tg)
theorem sl_273_3 {Q : sh_Q240} {d : Nat} {x1 : Int32} {x2 : Int32} {x3 : Int32} {x4 : Int32} {m m2 : sh_X} {o : Outcome} {z : (Bool × sh_X)} (hQ : sh_QL240 Q d) (e : sf_273_3 Q x1 x2 x3 x4 m = some z) (tg : (sh_tZ o m2) z) : sh_Lk 273 3 [(0, .ref 67), (1, .int x1), (2, .int x2), (3, .int x3), (4, .int x4)] [] m o m2 (d + 1 + 33) (40 * (d + 1) + 669) := by
  unfold sf_273_3 at e
  exact sh_while_lk (P := fun q => sh_Lk 273 3 [(0, .ref 67), (1, .int x1), (2, .int x2), (3, .int x3), (4, .int q.1)] [] q.2 o m2 (d + 1 + 33) (40 * (d + 1) + 669)) (Q := (sh_tZ o m2)) (fun q z e tg => sl_273_3s (x1 := x1) (x2 := x2) (x3 := x3) (x4 := q.1) (m := q.2) hQ e tg) (s := (x4, m)) e tg
theorem sl_273 {Q : sh_Q240} {d : Nat} {x1 : Int32} {x2 : Int32} {x3 : Int32} {m m2 : sh_X} {o : Outcome} {z : (Bool × sh_X)} (hQ : sh_QL240 Q d) (e : sf_273 Q x1 x2 x3 m = some z) (tg : (sh_tZ o m2) z) : sh_Lk 273 0 [(0, .ref 67), (1, .int x1), (2, .int x2), (3, .int x3)] [] m o m2 (d + 1 + 33) (40 * (d + 1) + 669) := by
  unfold sf_273 at e
  refine sh_Lk_lift (T := m.T) (I := m.I) (J := m.J) (s := m.s) (pc2 := 3) (lv2 := [(4, .int (-1)), (0, .ref 67), (1, .int x1), (2, .int x2), (3, .int x3)]) (st2 := []) (I2 := m.I) (J2 := m.J) (fun hT v kk => ?_) ?_
  · refine sh_w (i := (.iconst (-1))) (len := 1) (pc2 := 1) (lv2 := [(0, .ref 67), (1, .int x1), (2, .int x2), (3, .int x3)]) (st2 := [.int (-1)]) (h2 := (sh_rep m.T m.I m.J)) rfl rfl rfl ?_
    refine sh_w (i := (.istore 4)) (len := 2) (pc2 := 3) (lv2 := [(4, .int (-1)), (0, .ref 67), (1, .int x1), (2, .int x2), (3, .int x3)]) (st2 := []) (h2 := (sh_rep m.T m.I m.J)) rfl rfl rfl ?_
    exact kk
  exact sh_Lk_sub (sh_sub_c rfl (sh_sub_c rfl (sh_sub_c rfl (sh_sub_c rfl (sh_sub_c rfl (sh_sub_n)))))) (sl_273_3 hQ e tg)
theorem sq_240_l : ∀ d, sh_QL240 (sq_240 d) d
  | 0 => ⟨(fun h _ => by cases h), (fun h _ => by cases h), (fun h _ => by cases h), (fun h _ => by cases h), (fun h _ => by cases h), (fun h _ => by cases h)⟩
  | d + 1 => ⟨(fun h t => sl_267 (sq_240_l d) h t), (fun h t => sl_269 (sq_240_l d) h t), (fun h t => sl_270 (sq_240_l d) h t), (fun h t => sl_271 (sq_240_l d) h t), (fun h t => sl_272 (sq_240_l d) h t), (fun h t => sl_273 (sq_240_l d) h t)⟩
theorem sl_277 {x1 : Nat} {m m2 : sh_X} {o : Outcome} {z : (Bool × sh_X)} (e : sf_277 x1 m = some z) (tg : (sh_tZ o m2) z) : sh_Lk 277 0 [(0, .ref 67), (1, .ref (1000001 + x1))] [] m o m2 31 623 := by
  unfold sf_277 at e
  refine sh_Lk_lift (T := m.T) (I := m.I) (J := m.J) (s := m.s) (pc2 := 6) (lv2 := [(0, .ref 67), (1, .ref (1000001 + x1))]) (st2 := [.ref (1000001 + x1), .int (m.I 66 21), .ref 67]) (I2 := m.I) (J2 := m.J) (fun hT v kk => ?_) ?_
  · refine sh_w (i := (.aload_n 0)) (len := 1) (pc2 := 1) (lv2 := [(0, .ref 67), (1, .ref (1000001 + x1))]) (st2 := [.ref 67]) (h2 := (sh_rep m.T m.I m.J)) rfl rfl rfl ?_
    refine sh_w (i := (.aload_n 0)) (len := 1) (pc2 := 2) (lv2 := [(0, .ref 67), (1, .ref (1000001 + x1))]) (st2 := [.ref 67, .ref 67]) (h2 := (sh_rep m.T m.I m.J)) rfl rfl rfl ?_
    refine sh_gI1 (len := 3) (x := m.I 66 21) (pc2 := 5) rfl rfl (sh_s66 hT.st) rfl rfl rfl ?_
    refine sh_w (i := (.aload_n 1)) (len := 1) (pc2 := 6) (lv2 := [(0, .ref 67), (1, .ref (1000001 + x1))]) (st2 := [.ref (1000001 + x1), .int (m.I 66 21), .ref 67]) (h2 := (sh_rep m.T m.I m.J)) rfl rfl rfl ?_
    exact kk
  obtain ⟨r1, e1, e⟩ := sh_bc_e e
  refine sh_Lk_cV (r := (some (.int (sh_b2 r1)))) (st2 := [.int (sh_b2 r1)]) (pc2 := 9) (k2 := 256) (a := 66) (as := [.ref 67, .int (m.I 66 21), .ref (1000001 + x1)]) (rest := []) rfl rfl rfl (fun hT => (sh_s66 hT.st)) rfl rfl ⟨Nat.le_of_ble_eq_true rfl, Nat.le_of_ble_eq_true rfl⟩ (sl_256 e1 ⟨rfl, rfl⟩) rfl rfl (Nat.le_of_ble_eq_true rfl) (Nat.le_of_ble_eq_true rfl) ?_
  rcases sh_ite e with ⟨c, e⟩ | ⟨c, e⟩
  · refine sh_Lk_lift (T := m.T) (I := m.I) (J := m.J) (s := m.s) (pc2 := 38) (lv2 := [(0, .ref 67), (1, .ref (1000001 + x1))]) (st2 := [.int 1]) (I2 := sh_u2 m.I 66 21 ((m.I 66 21) + 1)) (J2 := m.J) (fun hT v kk => ?_) ?_
    · refine sh_j0 (c := .ne) (off := (18)) (pc2 := 27) true rfl (sh_Znet c) rfl ?_
      refine sh_w (i := (.aload_n 0)) (len := 1) (pc2 := 28) (lv2 := [(0, .ref 67), (1, .ref (1000001 + x1))]) (st2 := [.ref 67]) (h2 := (sh_rep m.T m.I m.J)) rfl rfl rfl ?_
      refine sh_w (i := .dup) (len := 1) (pc2 := 29) (lv2 := [(0, .ref 67), (1, .ref (1000001 + x1))]) (st2 := [.ref 67, .ref 67]) (h2 := (sh_rep m.T m.I m.J)) rfl rfl rfl ?_
      refine sh_gI1 (len := 3) (x := m.I 66 21) (pc2 := 32) rfl rfl (sh_s66 hT.st) rfl rfl rfl ?_
      refine sh_w (i := (.iconst 1)) (len := 1) (pc2 := 33) (lv2 := [(0, .ref 67), (1, .ref (1000001 + x1))]) (st2 := [.int 1, .int (m.I 66 21), .ref 67]) (h2 := (sh_rep m.T m.I m.J)) rfl rfl rfl ?_
      refine sh_w (i := .iadd) (len := 1) (pc2 := 34) (lv2 := [(0, .ref 67), (1, .ref (1000001 + x1))]) (st2 := [.int ((m.I 66 21) + 1), .ref 67]) (h2 := (sh_rep m.T m.I m.J)) rfl rfl rfl ?_
      refine sh_pI1 (x := (m.I 66 21) + 1) (pc2 := 37) rfl rfl (sh_s66 hT.st) rfl rfl rfl rfl ?_
      refine sh_w (i := (.iconst 1)) (len := 1) (pc2 := 38) (lv2 := [(0, .ref 67), (1, .ref (1000001 + x1))]) (st2 := [.int 1]) (h2 := (sh_rep m.T (sh_u2 m.I 66 21 ((m.I 66 21) + 1)) m.J)) rfl rfl rfl ?_
      exact kk
    obtain rfl := Option.some.inj e
    obtain ⟨rfl, rfl⟩ := tg
    exact sh_Lk_ret (i := .ireturn) rfl rfl rfl (Nat.le_of_ble_eq_true rfl) (Nat.le_of_ble_eq_true rfl)
  · refine sh_Lk_lift (T := m.T) (I := m.I) (J := m.J) (s := m.s) (pc2 := 22) (lv2 := [(0, .ref 67), (1, .ref (1000001 + x1))]) (st2 := [.int (m.I 66 21), .ref 70, .int 2, .ref 67]) (I2 := m.I) (J2 := m.J) (fun hT v kk => ?_) ?_
    · refine sh_j0 (c := .ne) (off := (18)) (pc2 := 12) false rfl (sh_Znef c) rfl ?_
      refine sh_w (i := (.aload_n 0)) (len := 1) (pc2 := 13) (lv2 := [(0, .ref 67), (1, .ref (1000001 + x1))]) (st2 := [.ref 67]) (h2 := (sh_rep m.T m.I m.J)) rfl rfl rfl ?_
      refine sh_w (i := (.iconst 2)) (len := 1) (pc2 := 14) (lv2 := [(0, .ref 67), (1, .ref (1000001 + x1))]) (st2 := [.int 2, .ref 67]) (h2 := (sh_rep m.T m.I m.J)) rfl rfl rfl ?_
      refine sh_w (i := (.aload_n 0)) (len := 1) (pc2 := 15) (lv2 := [(0, .ref 67), (1, .ref (1000001 + x1))]) (st2 := [.ref 67, .int 2, .ref 67]) (h2 := (sh_rep m.T m.I m.J)) rfl rfl rfl ?_
      refine sh_gR1 (len := 3) (x := .ref 70) (pc2 := 18) rfl rfl (sh_s66 hT.st) rfl rfl ?_
      refine sh_w (i := (.aload_n 0)) (len := 1) (pc2 := 19) (lv2 := [(0, .ref 67), (1, .ref (1000001 + x1))]) (st2 := [.ref 67, .ref 70, .int 2, .ref 67]) (h2 := (sh_rep m.T m.I m.J)) rfl rfl rfl ?_
      refine sh_gI1 (len := 3) (x := m.I 66 21) (pc2 := 22) rfl rfl (sh_s66 hT.st) rfl rfl rfl ?_
      exact kk
    obtain ⟨c, e⟩ := sh_gd e
    refine sh_Lk_lift (T := m.T) (I := m.I) (J := m.J) (s := m.s) (pc2 := 23) (lv2 := [(0, .ref 67), (1, .ref (1000001 + x1))]) (st2 := [.int (m.I 69 (Int32.toNatClampNeg (m.I 66 21))), .int 2, .ref 67]) (I2 := m.I) (J2 := m.J) (fun hT v kk => ?_) ?_
    · refine sh_ia1 (x := m.I 69 (Int32.toNatClampNeg (m.I 66 21))) (pc2 := 23) rfl (sh_s69 hT.st) (sh_okb1 c) (sh_okb2 c) rfl rfl ?_
      exact kk
    obtain ⟨r2, m12, e2, e⟩ := sh_bn_e e
    refine sh_Lk_cV (r := (some (.int (sh_b2 r2)))) (st2 := [.int (sh_b2 r2)]) (pc2 := 26) (k2 := 252) (a := 66) (as := [.ref 67, .int 2, .int (m.I 69 (Int32.toNatClampNeg (m.I 66 21)))]) (rest := []) rfl rfl rfl (fun hT => (sh_s66 hT.st)) rfl rfl ⟨Nat.le_of_ble_eq_true rfl, Nat.le_of_ble_eq_true rfl⟩ (sl_252 e2 ⟨rfl, rfl⟩) rfl rfl (Nat.le_of_ble_eq_true rfl) (Nat.le_of_ble_eq_true rfl) ?_
    obtain rfl := Option.some.inj e
    obtain ⟨rfl, rfl⟩ := tg
    exact sh_Lk_ret (i := .ireturn) rfl rfl (sh_rb rfl _) (Nat.le_of_ble_eq_true rfl) (Nat.le_of_ble_eq_true rfl)
def sh_QL242 (Q : sh_Q242) (d : Nat) : Prop := (∀ {x1 : Int32} {m m2 : sh_X} {o : Outcome} {z : (Int32 × sh_X)}, Q.f264 x1 m = some z → (sh_tI o m2) z → sh_Lk 264 0 [(0, .ref 67), (1, .int x1)] [] m o m2 (d + 1034) (40 * d + 40690)) ∧ (∀ {x1 : Int32} {m m2 : sh_X} {o : Outcome} {z : (Int32 × sh_X)}, Q.f265 x1 m = some z → (sh_tI o m2) z → sh_Lk 265 0 [(0, .ref 67), (1, .int x1)] [] m o m2 (d + 1034) (40 * d + 40690)) ∧ (∀ {x1 : Int32} {x2 : Int32} {m m2 : sh_X} {o : Outcome} {z : (Int32 × sh_X)}, Q.f275 x1 x2 m = some z → (sh_tI o m2) z → sh_Lk 275 0 [(0, .ref 67), (1, .int x1), (2, .int x2)] [] m o m2 (d + 1034) (40 * d + 40690)) ∧ (∀ {x1 : Int32} {x2 : Int32} {m m2 : sh_X} {o : Outcome} {z : (Int32 × sh_X)}, Q.f276 x1 x2 m = some z → (sh_tI o m2) z → sh_Lk 276 0 [(0, .ref 67), (1, .int x1), (2, .int x2)] [] m o m2 (d + 1034) (40 * d + 40690))
theorem sh_QL242.f264 {Q : sh_Q242} {d : Nat} (h : sh_QL242 Q d) : ∀ {x1 : Int32} {m m2 : sh_X} {o : Outcome} {z : (Int32 × sh_X)}, Q.f264 x1 m = some z → (sh_tI o m2) z → sh_Lk 264 0 [(0, .ref 67), (1, .int x1)] [] m o m2 (d + 1034) (40 * d + 40690) := h.1
theorem sh_QL242.f265 {Q : sh_Q242} {d : Nat} (h : sh_QL242 Q d) : ∀ {x1 : Int32} {m m2 : sh_X} {o : Outcome} {z : (Int32 × sh_X)}, Q.f265 x1 m = some z → (sh_tI o m2) z → sh_Lk 265 0 [(0, .ref 67), (1, .int x1)] [] m o m2 (d + 1034) (40 * d + 40690) := h.2.1
theorem sh_QL242.f275 {Q : sh_Q242} {d : Nat} (h : sh_QL242 Q d) : ∀ {x1 : Int32} {x2 : Int32} {m m2 : sh_X} {o : Outcome} {z : (Int32 × sh_X)}, Q.f275 x1 x2 m = some z → (sh_tI o m2) z → sh_Lk 275 0 [(0, .ref 67), (1, .int x1), (2, .int x2)] [] m o m2 (d + 1034) (40 * d + 40690) := h.2.2.1
theorem sh_QL242.f276 {Q : sh_Q242} {d : Nat} (h : sh_QL242 Q d) : ∀ {x1 : Int32} {x2 : Int32} {m m2 : sh_X} {o : Outcome} {z : (Int32 × sh_X)}, Q.f276 x1 x2 m = some z → (sh_tI o m2) z → sh_Lk 276 0 [(0, .ref 67), (1, .int x1), (2, .int x2)] [] m o m2 (d + 1034) (40 * d + 40690) := h.2.2.2
theorem sh_QL242.mk {Q : sh_Q242} {d : Nat} (f264 : ∀ {x1 : Int32} {m m2 : sh_X} {o : Outcome} {z : (Int32 × sh_X)}, Q.f264 x1 m = some z → (sh_tI o m2) z → sh_Lk 264 0 [(0, .ref 67), (1, .int x1)] [] m o m2 (d + 1034) (40 * d + 40690)) (f265 : ∀ {x1 : Int32} {m m2 : sh_X} {o : Outcome} {z : (Int32 × sh_X)}, Q.f265 x1 m = some z → (sh_tI o m2) z → sh_Lk 265 0 [(0, .ref 67), (1, .int x1)] [] m o m2 (d + 1034) (40 * d + 40690)) (f275 : ∀ {x1 : Int32} {x2 : Int32} {m m2 : sh_X} {o : Outcome} {z : (Int32 × sh_X)}, Q.f275 x1 x2 m = some z → (sh_tI o m2) z → sh_Lk 275 0 [(0, .ref 67), (1, .int x1), (2, .int x2)] [] m o m2 (d + 1034) (40 * d + 40690)) (f276 : ∀ {x1 : Int32} {x2 : Int32} {m m2 : sh_X} {o : Outcome} {z : (Int32 × sh_X)}, Q.f276 x1 x2 m = some z → (sh_tI o m2) z → sh_Lk 276 0 [(0, .ref 67), (1, .int x1), (2, .int x2)] [] m o m2 (d + 1034) (40 * d + 40690)) : sh_QL242 Q d := ⟨f264, f265, f275, f276⟩
theorem sl_264_128 {Q : sh_Q242} {d : Nat} {x1 : Int32} {x2 : Int32} {x4 : Int32} {m m2 : sh_X} {o : Outcome} {z : ((Int32 × Int32 × sh_X) ⊕ (Int32 × sh_X))} (hQ : sh_QL242 Q d) (e : sf_264_128 Q x1 x2 x4 m = some z) (tg : (sh_el (fun q => sh_Lk 264 4 [(0, .ref 67), (1, .int x1), (2, .int q.1), (3, .int q.2.1)] [] q.2.2 o m2 (d + 1 + 1034) (40 * (d + 1) + 40690)) (sh_tI o m2)) z) : sh_Lk 264 128 [(0, .ref 67), (1, .int x1), (2, .int x2), (4, .int x4)] [] m o m2 (d + 1 + 1034) (40 * (d + 1) + 40690) := by
  unfold sf_264_128 at e
  refine sh_Lk_lift (T := m.T) (I := m.I) (J := m.J) (s := m.s) (pc2 := 4) (lv2 := [(3, .int x4), (0, .ref 67), (1, .int x1), (2, .int x2), (4, .int x4)]) (st2 := []) (I2 := m.I) (J2 := m.J) (fun hT v kk => ?_) ?_
  · refine sh_w (i := (.iload 4)) (len := 2) (pc2 := 130) (lv2 := [(0, .ref 67), (1, .int x1), (2, .int x2), (4, .int x4)]) (st2 := [.int x4]) (h2 := (sh_rep m.T m.I m.J)) rfl rfl rfl ?_
    refine sh_w (i := (.istore_n 3)) (len := 1) (pc2 := 131) (lv2 := [(3, .int x4), (0, .ref 67), (1, .int x1), (2, .int x2), (4, .int x4)]) (st2 := []) (h2 := (sh_rep m.T m.I m.J)) rfl rfl rfl ?_
    refine sh_w (i := (.goto (-127))) (len := 3) (pc2 := 4) (lv2 := [(3, .int x4), (0, .ref 67), (1, .int x1), (2, .int x2), (4, .int x4)]) (st2 := []) (h2 := (sh_rep m.T m.I m.J)) rfl rfl rfl ?_
    exact kk
  obtain rfl := Option.some.inj e
  exact sh_Lk_sub (sh_sub_c rfl (sh_sub_c rfl (sh_sub_c rfl (sh_sub_c rfl (sh_sub_n))))) tg
theorem sl_264_71 {Q : sh_Q242} {d : Nat} {x1 : Int32} {x2 : Int32} {x3 : Int32} {m m2 : sh_X} {o : Outcome} {z : ((Int32 × Int32 × sh_X) ⊕ (Int32 × sh_X))} (hQ : sh_QL242 Q d) (e : sf_264_71 Q x1 x2 x3 m = some z) (tg : (sh_el (fun q => sh_Lk 264 4 [(0, .ref 67), (1, .int x1), (2, .int q.1), (3, .int q.2.1)] [] q.2.2 o m2 (d + 1 + 1034) (40 * (d + 1) + 40690)) (sh_tI o m2)) z) : sh_Lk 264 71 [(0, .ref 67), (1, .int x1), (2, .int x2), (3, .int x3)] [] m o m2 (d + 1 + 1034) (40 * (d + 1) + 40690) := by
  unfold sf_264_71 at e
  refine sh_Lk_lift (T := m.T) (I := m.I) (J := m.J) (s := m.s) (pc2 := 74) (lv2 := [(0, .ref 67), (1, .int x1), (2, .int x2), (3, .int x3)]) (st2 := [.int 40, .int x1]) (I2 := m.I) (J2 := m.J) (fun hT v kk => ?_) ?_
  · refine sh_w (i := (.iload_n 1)) (len := 1) (pc2 := 72) (lv2 := [(0, .ref 67), (1, .int x1), (2, .int x2), (3, .int x3)]) (st2 := [.int x1]) (h2 := (sh_rep m.T m.I m.J)) rfl rfl rfl ?_
    refine sh_w (i := (.bipush 40)) (len := 2) (pc2 := 74) (lv2 := [(0, .ref 67), (1, .int x1), (2, .int x2), (3, .int x3)]) (st2 := [.int 40, .int x1]) (h2 := (sh_rep m.T m.I m.J)) rfl rfl rfl ?_
    exact kk
  rcases sh_ite e with ⟨c, e⟩ | ⟨c, e⟩
  · refine sh_Lk_lift (T := m.T) (I := m.I) (J := m.J) (s := m.s) (pc2 := 87) (lv2 := [(0, .ref 67), (1, .int x1), (2, .int x2), (3, .int x3)]) (st2 := [.int (m.I 66 21), .ref 70, .int 2, .ref 67]) (I2 := m.I) (J2 := m.J) (fun hT v kk => ?_) ?_
    · refine sh_jc (c := .le) (off := (21)) (pc2 := 77) false rfl (sh_Blef c) rfl ?_
      refine sh_w (i := (.aload_n 0)) (len := 1) (pc2 := 78) (lv2 := [(0, .ref 67), (1, .int x1), (2, .int x2), (3, .int x3)]) (st2 := [.ref 67]) (h2 := (sh_rep m.T m.I m.J)) rfl rfl rfl ?_
      refine sh_w (i := (.iconst 2)) (len := 1) (pc2 := 79) (lv2 := [(0, .ref 67), (1, .int x1), (2, .int x2), (3, .int x3)]) (st2 := [.int 2, .ref 67]) (h2 := (sh_rep m.T m.I m.J)) rfl rfl rfl ?_
      refine sh_w (i := (.aload_n 0)) (len := 1) (pc2 := 80) (lv2 := [(0, .ref 67), (1, .int x1), (2, .int x2), (3, .int x3)]) (st2 := [.ref 67, .int 2, .ref 67]) (h2 := (sh_rep m.T m.I m.J)) rfl rfl rfl ?_
      refine sh_gR1 (len := 3) (x := .ref 70) (pc2 := 83) rfl rfl (sh_s66 hT.st) rfl rfl ?_
      refine sh_w (i := (.aload_n 0)) (len := 1) (pc2 := 84) (lv2 := [(0, .ref 67), (1, .int x1), (2, .int x2), (3, .int x3)]) (st2 := [.ref 67, .ref 70, .int 2, .ref 67]) (h2 := (sh_rep m.T m.I m.J)) rfl rfl rfl ?_
      refine sh_gI1 (len := 3) (x := m.I 66 21) (pc2 := 87) rfl rfl (sh_s66 hT.st) rfl rfl rfl ?_
      exact kk
    obtain ⟨c, e⟩ := sh_gd e
    refine sh_Lk_lift (T := m.T) (I := m.I) (J := m.J) (s := m.s) (pc2 := 88) (lv2 := [(0, .ref 67), (1, .int x1), (2, .int x2), (3, .int x3)]) (st2 := [.int (m.I 69 (Int32.toNatClampNeg (m.I 66 21))), .int 2, .ref 67]) (I2 := m.I) (J2 := m.J) (fun hT v kk => ?_) ?_
    · refine sh_ia1 (x := m.I 69 (Int32.toNatClampNeg (m.I 66 21))) (pc2 := 88) rfl (sh_s69 hT.st) (sh_okb1 c) (sh_okb2 c) rfl rfl ?_
      exact kk
    obtain ⟨r1, m11, e1, e⟩ := sh_bn_e e
    refine sh_Lk_cV (r := (some (.int (sh_b2 r1)))) (st2 := [.int (sh_b2 r1)]) (pc2 := 91) (k2 := 252) (a := 66) (as := [.ref 67, .int 2, .int (m.I 69 (Int32.toNatClampNeg (m.I 66 21)))]) (rest := []) rfl rfl rfl (fun hT => (sh_s66 hT.st)) rfl rfl ⟨Nat.le_of_ble_eq_true rfl, Nat.le_of_ble_eq_true rfl⟩ (sl_252 e1 ⟨rfl, rfl⟩) rfl rfl (show 8 + 1 ≤ d + 1 + 1034 by omega) (show 8 + (3 + 11) + (200) ≤ 40 * (d + 1) + 40690 by omega) ?_
    refine sh_Lk_lift (T := m11.T) (I := m11.I) (J := m11.J) (s := m11.s) (pc2 := 94) (lv2 := [(0, .ref 67), (1, .int x1), (2, .int x2), (3, .int x3)]) (st2 := [.int (-2)]) (I2 := m11.I) (J2 := m11.J) (fun hT v kk => ?_) ?_
    · refine sh_w (i := .pop) (len := 1) (pc2 := 92) (lv2 := [(0, .ref 67), (1, .int x1), (2, .int x2), (3, .int x3)]) (st2 := []) (h2 := (sh_rep m11.T m11.I m11.J)) rfl rfl rfl ?_
      refine sh_w (i := (.bipush (-2))) (len := 2) (pc2 := 94) (lv2 := [(0, .ref 67), (1, .int x1), (2, .int x2), (3, .int x3)]) (st2 := [.int (-2)]) (h2 := (sh_rep m11.T m11.I m11.J)) rfl rfl rfl ?_
      exact kk
    obtain rfl := Option.some.inj e
    obtain ⟨rfl, rfl⟩ := tg
    exact sh_Lk_ret (i := .ireturn) rfl rfl rfl (by omega) (by omega)
  · refine sh_Lk_lift (T := m.T) (I := m.I) (J := m.J) (s := m.s) (pc2 := 97) (lv2 := [(0, .ref 67), (1, .int x1), (2, .int x2), (3, .int x3)]) (st2 := [.int x1, .ref 67]) (I2 := m.I) (J2 := m.J) (fun hT v kk => ?_) ?_
    · refine sh_jc (c := .le) (off := (21)) (pc2 := 95) true rfl (sh_Blet c) rfl ?_
      refine sh_w (i := (.aload_n 0)) (len := 1) (pc2 := 96) (lv2 := [(0, .ref 67), (1, .int x1), (2, .int x2), (3, .int x3)]) (st2 := [.ref 67]) (h2 := (sh_rep m.T m.I m.J)) rfl rfl rfl ?_
      refine sh_w (i := (.iload_n 1)) (len := 1) (pc2 := 97) (lv2 := [(0, .ref 67), (1, .int x1), (2, .int x2), (3, .int x3)]) (st2 := [.int x1, .ref 67]) (h2 := (sh_rep m.T m.I m.J)) rfl rfl rfl ?_
      exact kk
    obtain ⟨r2, m12, e2, e⟩ := sh_bn_e e
    refine sh_Lk_cV (r := (some (.int r2))) (st2 := [.int r2]) (pc2 := 100) (k2 := 265) (a := 66) (as := [.ref 67, .int x1]) (rest := []) rfl rfl rfl (fun hT => (sh_s66 hT.st)) rfl rfl ⟨Nat.le_of_ble_eq_true rfl, Nat.le_of_ble_eq_true rfl⟩ (hQ.f265 e2 ⟨rfl, rfl⟩) rfl rfl (show d + 1034 + 1 ≤ d + 1 + 1034 by omega) (show 8 + (4 + 11) + (40 * d + 40690) ≤ 40 * (d + 1) + 40690 by omega) ?_
    refine sh_Lk_lift (T := m12.T) (I := m12.I) (J := m12.J) (s := m12.s) (pc2 := 104) (lv2 := [(4, .int r2), (0, .ref 67), (1, .int x1), (2, .int x2), (3, .int x3)]) (st2 := [.int r2]) (I2 := m12.I) (J2 := m12.J) (fun hT v kk => ?_) ?_
    · refine sh_w (i := (.istore 4)) (len := 2) (pc2 := 102) (lv2 := [(4, .int r2), (0, .ref 67), (1, .int x1), (2, .int x2), (3, .int x3)]) (st2 := []) (h2 := (sh_rep m12.T m12.I m12.J)) rfl rfl rfl ?_
      refine sh_w (i := (.iload 4)) (len := 2) (pc2 := 104) (lv2 := [(4, .int r2), (0, .ref 67), (1, .int x1), (2, .int x2), (3, .int x3)]) (st2 := [.int r2]) (h2 := (sh_rep m12.T m12.I m12.J)) rfl rfl rfl ?_
      exact kk
    rcases sh_ite e with ⟨c, e⟩ | ⟨c, e⟩
    · refine sh_Lk_lift (T := m12.T) (I := m12.I) (J := m12.J) (s := m12.s) (pc2 := 109) (lv2 := [(4, .int r2), (0, .ref 67), (1, .int x1), (2, .int x2), (3, .int x3)]) (st2 := [.int (-2)]) (I2 := m12.I) (J2 := m12.J) (fun hT v kk => ?_) ?_
      · refine sh_j0 (c := .ge) (off := (6)) (pc2 := 107) false rfl (sh_Bgef c) rfl ?_
        refine sh_w (i := (.bipush (-2))) (len := 2) (pc2 := 109) (lv2 := [(4, .int r2), (0, .ref 67), (1, .int x1), (2, .int x2), (3, .int x3)]) (st2 := [.int (-2)]) (h2 := (sh_rep m12.T m12.I m12.J)) rfl rfl rfl ?_
        exact kk
      obtain rfl := Option.some.inj e
      obtain ⟨rfl, rfl⟩ := tg
      exact sh_Lk_ret (i := .ireturn) rfl rfl rfl (by omega) (by omega)
    · refine sh_Lk_lift (T := m12.T) (I := m12.I) (J := m12.J) (s := m12.s) (pc2 := 111) (lv2 := [(4, .int r2), (0, .ref 67), (1, .int x1), (2, .int x2), (3, .int x3)]) (st2 := [.int x2]) (I2 := m12.I) (J2 := m12.J) (fun hT v kk => ?_) ?_
      · refine sh_j0 (c := .ge) (off := (6)) (pc2 := 110) true rfl (sh_Bget c) rfl ?_
        refine sh_w (i := (.iload_n 2)) (len := 1) (pc2 := 111) (lv2 := [(4, .int r2), (0, .ref 67), (1, .int x1), (2, .int x2), (3, .int x3)]) (st2 := [.int x2]) (h2 := (sh_rep m12.T m12.I m12.J)) rfl rfl rfl ?_
        exact kk
      rcases sh_ite e with ⟨c, e⟩ | ⟨c, e⟩
      · refine sh_Lk_lift (T := m12.T) (I := m12.I) (J := m12.J) (s := m12.s) (pc2 := 128) (lv2 := [(2, .int r2), (4, .int r2), (0, .ref 67), (1, .int x1), (3, .int x3)]) (st2 := []) (I2 := m12.I) (J2 := m12.J) (fun hT v kk => ?_) ?_
        · refine sh_j0 (c := .ge) (off := (9)) (pc2 := 114) false rfl (sh_Bgef c) rfl ?_
          refine sh_w (i := (.iload 4)) (len := 2) (pc2 := 116) (lv2 := [(4, .int r2), (0, .ref 67), (1, .int x1), (2, .int x2), (3, .int x3)]) (st2 := [.int r2]) (h2 := (sh_rep m12.T m12.I m12.J)) rfl rfl rfl ?_
          refine sh_w (i := (.istore_n 2)) (len := 1) (pc2 := 117) (lv2 := [(2, .int r2), (4, .int r2), (0, .ref 67), (1, .int x1), (3, .int x3)]) (st2 := []) (h2 := (sh_rep m12.T m12.I m12.J)) rfl rfl rfl ?_
          refine sh_w (i := (.goto 11)) (len := 3) (pc2 := 128) (lv2 := [(2, .int r2), (4, .int r2), (0, .ref 67), (1, .int x1), (3, .int x3)]) (st2 := []) (h2 := (sh_rep m12.T m12.I m12.J)) rfl rfl rfl ?_
          exact kk
        exact sh_Lk_sub (sh_sub_c rfl (sh_sub_c rfl (sh_sub_c rfl (sh_sub_c rfl (sh_sub_n))))) (sl_264_128 hQ e tg)
      · refine sh_Lk_lift (T := m12.T) (I := m12.I) (J := m12.J) (s := m12.s) (pc2 := 127) (lv2 := [(4, .int r2), (0, .ref 67), (1, .int x1), (2, .int x2), (3, .int x3)]) (st2 := [.int r2, .int x3, .ref 78]) (I2 := m12.I) (J2 := m12.J) (fun hT v kk => ?_) ?_
        · refine sh_j0 (c := .ge) (off := (9)) (pc2 := 120) true rfl (sh_Bget c) rfl ?_
          refine sh_w (i := (.aload_n 0)) (len := 1) (pc2 := 121) (lv2 := [(4, .int r2), (0, .ref 67), (1, .int x1), (2, .int x2), (3, .int x3)]) (st2 := [.ref 67]) (h2 := (sh_rep m12.T m12.I m12.J)) rfl rfl rfl ?_
          refine sh_gR1 (len := 3) (x := .ref 78) (pc2 := 124) rfl rfl (sh_s66 hT.st) rfl rfl ?_
          refine sh_w (i := (.iload_n 3)) (len := 1) (pc2 := 125) (lv2 := [(4, .int r2), (0, .ref 67), (1, .int x1), (2, .int x2), (3, .int x3)]) (st2 := [.int x3, .ref 78]) (h2 := (sh_rep m12.T m12.I m12.J)) rfl rfl rfl ?_
          refine sh_w (i := (.iload 4)) (len := 2) (pc2 := 127) (lv2 := [(4, .int r2), (0, .ref 67), (1, .int x1), (2, .int x2), (3, .int x3)]) (st2 := [.int r2, .int x3, .ref 78]) (h2 := (sh_rep m12.T m12.I m12.J)) rfl rfl rfl ?_
          exact kk
        obtain ⟨c, e⟩ := sh_gd e
        refine sh_Lk_lift (T := m12.T) (I := m12.I) (J := m12.J) (s := m12.s) (pc2 := 128) (lv2 := [(4, .int r2), (0, .ref 67), (1, .int x1), (2, .int x2), (3, .int x3)]) (st2 := []) (I2 := sh_u2 m12.I 77 (Int32.toNatClampNeg x3) r2) (J2 := m12.J) (fun hT v kk => ?_) ?_
        · refine sh_is1 (x := r2) (i := x3) (pc2 := 128) rfl (sh_s77 hT.st) (sh_okb1 c) (sh_okb2 c) rfl ?_
          exact kk
        exact sh_Lk_sub (sh_sub_c rfl (sh_sub_c rfl (sh_sub_c rfl (sh_sub_c rfl (sh_sub_n))))) (sl_264_128 hQ e tg)
theorem sl_264_4s {Q : sh_Q242} {d : Nat} {x1 : Int32} {x2 : Int32} {x3 : Int32} {m m2 : sh_X} {o : Outcome} {z : ((Int32 × Int32 × sh_X) ⊕ (Int32 × sh_X))} (hQ : sh_QL242 Q d) (e : sf_264_4s Q x1 x2 x3 m = some z) (tg : (sh_el (fun q => sh_Lk 264 4 [(0, .ref 67), (1, .int x1), (2, .int q.1), (3, .int q.2.1)] [] q.2.2 o m2 (d + 1 + 1034) (40 * (d + 1) + 40690)) (sh_tI o m2)) z) : sh_Lk 264 4 [(0, .ref 67), (1, .int x1), (2, .int x2), (3, .int x3)] [] m o m2 (d + 1 + 1034) (40 * (d + 1) + 40690) := by
  unfold sf_264_4s at e
  refine sh_Lk_lift (T := m.T) (I := m.I) (J := m.J) (s := m.s) (pc2 := 12) (lv2 := [(0, .ref 67), (1, .int x1), (2, .int x2), (3, .int x3)]) (st2 := [.ref 1000017, .int (m.I 66 21), .ref 67]) (I2 := m.I) (J2 := m.J) (fun hT v kk => ?_) ?_
  · refine sh_w (i := (.aload_n 0)) (len := 1) (pc2 := 5) (lv2 := [(0, .ref 67), (1, .int x1), (2, .int x2), (3, .int x3)]) (st2 := [.ref 67]) (h2 := (sh_rep m.T m.I m.J)) rfl rfl rfl ?_
    refine sh_w (i := (.aload_n 0)) (len := 1) (pc2 := 6) (lv2 := [(0, .ref 67), (1, .int x1), (2, .int x2), (3, .int x3)]) (st2 := [.ref 67, .ref 67]) (h2 := (sh_rep m.T m.I m.J)) rfl rfl rfl ?_
    refine sh_gI1 (len := 3) (x := m.I 66 21) (pc2 := 9) rfl rfl (sh_s66 hT.st) rfl rfl rfl ?_
    refine sh_w (i := (.ldc_w 266)) (len := 3) (pc2 := 12) (lv2 := [(0, .ref 67), (1, .int x1), (2, .int x2), (3, .int x3)]) (st2 := [.ref 1000017, .int (m.I 66 21), .ref 67]) (h2 := (sh_rep m.T m.I m.J)) rfl rfl rfl ?_
    exact kk
  obtain ⟨r1, e1, e⟩ := sh_bc_e e
  refine sh_Lk_cV (r := (some (.int (sh_b2 r1)))) (st2 := [.int (sh_b2 r1)]) (pc2 := 15) (k2 := 256) (a := 66) (as := [.ref 67, .int (m.I 66 21), .ref 1000017]) (rest := []) rfl rfl rfl (fun hT => (sh_s66 hT.st)) rfl rfl ⟨Nat.le_of_ble_eq_true rfl, Nat.le_of_ble_eq_true rfl⟩ (sl_256 e1 ⟨rfl, rfl⟩) rfl rfl (show 30 + 1 ≤ d + 1 + 1034 by omega) (show 8 + (4 + 11) + (600) ≤ 40 * (d + 1) + 40690 by omega) ?_
  rcases sh_ite e with ⟨c, e⟩ | ⟨c, e⟩
  · refine sh_Lk_lift (T := m.T) (I := m.I) (J := m.J) (s := m.s) (pc2 := 71) (lv2 := [(0, .ref 67), (1, .int x1), (2, .int x2), (3, .int x3)]) (st2 := []) (I2 := m.I) (J2 := m.J) (fun hT v kk => ?_) ?_
    · refine sh_j0 (c := .ne) (off := (56)) (pc2 := 71) true rfl (sh_Znet c) rfl ?_
      exact kk
    exact sh_Lk_sub (sh_sub_c rfl (sh_sub_c rfl (sh_sub_c rfl (sh_sub_c rfl (sh_sub_n))))) (sl_264_71 hQ e tg)
  · refine sh_Lk_lift (T := m.T) (I := m.I) (J := m.J) (s := m.s) (pc2 := 26) (lv2 := [(0, .ref 67), (1, .int x1), (2, .int x2), (3, .int x3)]) (st2 := [.ref 1000015, .int (m.I 66 21), .ref 67]) (I2 := m.I) (J2 := m.J) (fun hT v kk => ?_) ?_
    · refine sh_j0 (c := .ne) (off := (56)) (pc2 := 18) false rfl (sh_Znef c) rfl ?_
      refine sh_w (i := (.aload_n 0)) (len := 1) (pc2 := 19) (lv2 := [(0, .ref 67), (1, .int x1), (2, .int x2), (3, .int x3)]) (st2 := [.ref 67]) (h2 := (sh_rep m.T m.I m.J)) rfl rfl rfl ?_
      refine sh_w (i := (.aload_n 0)) (len := 1) (pc2 := 20) (lv2 := [(0, .ref 67), (1, .int x1), (2, .int x2), (3, .int x3)]) (st2 := [.ref 67, .ref 67]) (h2 := (sh_rep m.T m.I m.J)) rfl rfl rfl ?_
      refine sh_gI1 (len := 3) (x := m.I 66 21) (pc2 := 23) rfl rfl (sh_s66 hT.st) rfl rfl rfl ?_
      refine sh_w (i := (.ldc_w 262)) (len := 3) (pc2 := 26) (lv2 := [(0, .ref 67), (1, .int x1), (2, .int x2), (3, .int x3)]) (st2 := [.ref 1000015, .int (m.I 66 21), .ref 67]) (h2 := (sh_rep m.T m.I m.J)) rfl rfl rfl ?_
      exact kk
    obtain ⟨r2, e2, e⟩ := sh_bc_e e
    refine sh_Lk_cV (r := (some (.int (sh_b2 r2)))) (st2 := [.int (sh_b2 r2)]) (pc2 := 29) (k2 := 256) (a := 66) (as := [.ref 67, .int (m.I 66 21), .ref 1000015]) (rest := []) rfl rfl rfl (fun hT => (sh_s66 hT.st)) rfl rfl ⟨Nat.le_of_ble_eq_true rfl, Nat.le_of_ble_eq_true rfl⟩ (sl_256 e2 ⟨rfl, rfl⟩) rfl rfl (show 30 + 1 ≤ d + 1 + 1034 by omega) (show 8 + (4 + 11) + (600) ≤ 40 * (d + 1) + 40690 by omega) ?_
    rcases sh_ite e with ⟨c, e⟩ | ⟨c, e⟩
    · refine sh_Lk_lift (T := m.T) (I := m.I) (J := m.J) (s := m.s) (pc2 := 71) (lv2 := [(0, .ref 67), (1, .int x1), (2, .int x2), (3, .int x3)]) (st2 := []) (I2 := m.I) (J2 := m.J) (fun hT v kk => ?_) ?_
      · refine sh_j0 (c := .ne) (off := (42)) (pc2 := 71) true rfl (sh_Znet c) rfl ?_
        exact kk
      exact sh_Lk_sub (sh_sub_c rfl (sh_sub_c rfl (sh_sub_c rfl (sh_sub_c rfl (sh_sub_n))))) (sl_264_71 hQ e tg)
    · refine sh_Lk_lift (T := m.T) (I := m.I) (J := m.J) (s := m.s) (pc2 := 40) (lv2 := [(0, .ref 67), (1, .int x1), (2, .int x2), (3, .int x3)]) (st2 := [.ref 1000014, .int (m.I 66 21), .ref 67]) (I2 := m.I) (J2 := m.J) (fun hT v kk => ?_) ?_
      · refine sh_j0 (c := .ne) (off := (42)) (pc2 := 32) false rfl (sh_Znef c) rfl ?_
        refine sh_w (i := (.aload_n 0)) (len := 1) (pc2 := 33) (lv2 := [(0, .ref 67), (1, .int x1), (2, .int x2), (3, .int x3)]) (st2 := [.ref 67]) (h2 := (sh_rep m.T m.I m.J)) rfl rfl rfl ?_
        refine sh_w (i := (.aload_n 0)) (len := 1) (pc2 := 34) (lv2 := [(0, .ref 67), (1, .int x1), (2, .int x2), (3, .int x3)]) (st2 := [.ref 67, .ref 67]) (h2 := (sh_rep m.T m.I m.J)) rfl rfl rfl ?_
        refine sh_gI1 (len := 3) (x := m.I 66 21) (pc2 := 37) rfl rfl (sh_s66 hT.st) rfl rfl rfl ?_
        refine sh_w (i := (.ldc_w 260)) (len := 3) (pc2 := 40) (lv2 := [(0, .ref 67), (1, .int x1), (2, .int x2), (3, .int x3)]) (st2 := [.ref 1000014, .int (m.I 66 21), .ref 67]) (h2 := (sh_rep m.T m.I m.J)) rfl rfl rfl ?_
        exact kk
      obtain ⟨r3, e3, e⟩ := sh_bc_e e
      refine sh_Lk_cV (r := (some (.int (sh_b2 r3)))) (st2 := [.int (sh_b2 r3)]) (pc2 := 43) (k2 := 256) (a := 66) (as := [.ref 67, .int (m.I 66 21), .ref 1000014]) (rest := []) rfl rfl rfl (fun hT => (sh_s66 hT.st)) rfl rfl ⟨Nat.le_of_ble_eq_true rfl, Nat.le_of_ble_eq_true rfl⟩ (sl_256 e3 ⟨rfl, rfl⟩) rfl rfl (show 30 + 1 ≤ d + 1 + 1034 by omega) (show 8 + (4 + 11) + (600) ≤ 40 * (d + 1) + 40690 by omega) ?_
      rcases sh_ite e with ⟨c, e⟩ | ⟨c, e⟩
      · refine sh_Lk_lift (T := m.T) (I := m.I) (J := m.J) (s := m.s) (pc2 := 71) (lv2 := [(0, .ref 67), (1, .int x1), (2, .int x2), (3, .int x3)]) (st2 := []) (I2 := m.I) (J2 := m.J) (fun hT v kk => ?_) ?_
        · refine sh_j0 (c := .ne) (off := (28)) (pc2 := 71) true rfl (sh_Znet c) rfl ?_
          exact kk
        exact sh_Lk_sub (sh_sub_c rfl (sh_sub_c rfl (sh_sub_c rfl (sh_sub_c rfl (sh_sub_n))))) (sl_264_71 hQ e tg)
      · refine sh_Lk_lift (T := m.T) (I := m.I) (J := m.J) (s := m.s) (pc2 := 54) (lv2 := [(0, .ref 67), (1, .int x1), (2, .int x2), (3, .int x3)]) (st2 := [.ref 1000018, .int (m.I 66 21), .ref 67]) (I2 := m.I) (J2 := m.J) (fun hT v kk => ?_) ?_
        · refine sh_j0 (c := .ne) (off := (28)) (pc2 := 46) false rfl (sh_Znef c) rfl ?_
          refine sh_w (i := (.aload_n 0)) (len := 1) (pc2 := 47) (lv2 := [(0, .ref 67), (1, .int x1), (2, .int x2), (3, .int x3)]) (st2 := [.ref 67]) (h2 := (sh_rep m.T m.I m.J)) rfl rfl rfl ?_
          refine sh_w (i := (.aload_n 0)) (len := 1) (pc2 := 48) (lv2 := [(0, .ref 67), (1, .int x1), (2, .int x2), (3, .int x3)]) (st2 := [.ref 67, .ref 67]) (h2 := (sh_rep m.T m.I m.J)) rfl rfl rfl ?_
          refine sh_gI1 (len := 3) (x := m.I 66 21) (pc2 := 51) rfl rfl (sh_s66 hT.st) rfl rfl rfl ?_
          refine sh_w (i := (.ldc_w 268)) (len := 3) (pc2 := 54) (lv2 := [(0, .ref 67), (1, .int x1), (2, .int x2), (3, .int x3)]) (st2 := [.ref 1000018, .int (m.I 66 21), .ref 67]) (h2 := (sh_rep m.T m.I m.J)) rfl rfl rfl ?_
          exact kk
        obtain ⟨r4, e4, e⟩ := sh_bc_e e
        refine sh_Lk_cV (r := (some (.int (sh_b2 r4)))) (st2 := [.int (sh_b2 r4)]) (pc2 := 57) (k2 := 256) (a := 66) (as := [.ref 67, .int (m.I 66 21), .ref 1000018]) (rest := []) rfl rfl rfl (fun hT => (sh_s66 hT.st)) rfl rfl ⟨Nat.le_of_ble_eq_true rfl, Nat.le_of_ble_eq_true rfl⟩ (sl_256 e4 ⟨rfl, rfl⟩) rfl rfl (show 30 + 1 ≤ d + 1 + 1034 by omega) (show 8 + (4 + 11) + (600) ≤ 40 * (d + 1) + 40690 by omega) ?_
        rcases sh_ite e with ⟨c, e⟩ | ⟨c, e⟩
        · refine sh_Lk_lift (T := m.T) (I := m.I) (J := m.J) (s := m.s) (pc2 := 71) (lv2 := [(0, .ref 67), (1, .int x1), (2, .int x2), (3, .int x3)]) (st2 := []) (I2 := m.I) (J2 := m.J) (fun hT v kk => ?_) ?_
          · refine sh_j0 (c := .ne) (off := (14)) (pc2 := 71) true rfl (sh_Znet c) rfl ?_
            exact kk
          exact sh_Lk_sub (sh_sub_c rfl (sh_sub_c rfl (sh_sub_c rfl (sh_sub_c rfl (sh_sub_n))))) (sl_264_71 hQ e tg)
        · refine sh_Lk_lift (T := m.T) (I := m.I) (J := m.J) (s := m.s) (pc2 := 65) (lv2 := [(0, .ref 67), (1, .int x1), (2, .int x2), (3, .int x3)]) (st2 := [.int (m.I 66 21), .ref 67]) (I2 := m.I) (J2 := m.J) (fun hT v kk => ?_) ?_
          · refine sh_j0 (c := .ne) (off := (14)) (pc2 := 60) false rfl (sh_Znef c) rfl ?_
            refine sh_w (i := (.aload_n 0)) (len := 1) (pc2 := 61) (lv2 := [(0, .ref 67), (1, .int x1), (2, .int x2), (3, .int x3)]) (st2 := [.ref 67]) (h2 := (sh_rep m.T m.I m.J)) rfl rfl rfl ?_
            refine sh_w (i := (.aload_n 0)) (len := 1) (pc2 := 62) (lv2 := [(0, .ref 67), (1, .int x1), (2, .int x2), (3, .int x3)]) (st2 := [.ref 67, .ref 67]) (h2 := (sh_rep m.T m.I m.J)) rfl rfl rfl ?_
            refine sh_gI1 (len := 3) (x := m.I 66 21) (pc2 := 65) rfl rfl (sh_s66 hT.st) rfl rfl rfl ?_
            exact kk
          obtain ⟨r5, e5, e⟩ := sh_bc_e e
          refine sh_Lk_cV (r := (some (.int (sh_b2 r5)))) (st2 := [.int (sh_b2 r5)]) (pc2 := 68) (k2 := 259) (a := 66) (as := [.ref 67, .int (m.I 66 21)]) (rest := []) rfl rfl rfl (fun hT => (sh_s66 hT.st)) rfl rfl ⟨Nat.le_of_ble_eq_true rfl, Nat.le_of_ble_eq_true rfl⟩ (sl_259 e5 ⟨rfl, rfl⟩) rfl rfl (show 32 + 1 ≤ d + 1 + 1034 by omega) (show 8 + (2 + 11) + (648) ≤ 40 * (d + 1) + 40690 by omega) ?_
          rcases sh_ite e with ⟨c, e⟩ | ⟨c, e⟩
          · refine sh_Lk_lift (T := m.T) (I := m.I) (J := m.J) (s := m.s) (pc2 := 71) (lv2 := [(0, .ref 67), (1, .int x1), (2, .int x2), (3, .int x3)]) (st2 := []) (I2 := m.I) (J2 := m.J) (fun hT v kk => ?_) ?_
            · refine sh_j0 (c := .eq) (off := (66)) (pc2 := 71) false rfl (sh_Zeqf c) rfl ?_
              exact kk
            exact sh_Lk_sub (sh_sub_c rfl (sh_sub_c rfl (sh_sub_c rfl (sh_sub_c rfl (sh_sub_n))))) (sl_264_71 hQ e tg)
          · refine sh_Lk_lift (T := m.T) (I := m.I) (J := m.J) (s := m.s) (pc2 := 135) (lv2 := [(0, .ref 67), (1, .int x1), (2, .int x2), (3, .int x3)]) (st2 := [.int x2]) (I2 := m.I) (J2 := m.J) (fun hT v kk => ?_) ?_
            · refine sh_j0 (c := .eq) (off := (66)) (pc2 := 134) true rfl (sh_Zeqt c) rfl ?_
              refine sh_w (i := (.iload_n 2)) (len := 1) (pc2 := 135) (lv2 := [(0, .ref 67), (1, .int x1), (2, .int x2), (3, .int x3)]) (st2 := [.int x2]) (h2 := (sh_rep m.T m.I m.J)) rfl rfl rfl ?_
              exact kk
            obtain rfl := Option.some.inj e
            obtain ⟨rfl, rfl⟩ := tg
            exact sh_Lk_ret (i := .ireturn) rfl rfl rfl (by omega) (by omega)
theorem sl_264_4 {Q : sh_Q242} {d : Nat} {x1 : Int32} {x2 : Int32} {x3 : Int32} {m m2 : sh_X} {o : Outcome} {z : (Int32 × sh_X)} (hQ : sh_QL242 Q d) (e : sf_264_4 Q x1 x2 x3 m = some z) (tg : (sh_tI o m2) z) : sh_Lk 264 4 [(0, .ref 67), (1, .int x1), (2, .int x2), (3, .int x3)] [] m o m2 (d + 1 + 1034) (40 * (d + 1) + 40690) := by
  unfold sf_264_4 at e
  exact sh_while_lk (P := fun q => sh_Lk 264 4 [(0, .ref 67), (1, .int x1), (2, .int q.1), (3, .int q.2.1)] [] q.2.2 o m2 (d + 1 + 1034) (40 * (d + 1) + 40690)) (Q := (sh_tI o m2)) (fun q z e tg => sl_264_4s (x1 := x1) (x2 := q.1) (x3 := q.2.1) (m := q.2.2) hQ e tg) (s := (x2, x3, m)) e tg
theorem sl_264 {Q : sh_Q242} {d : Nat} {x1 : Int32} {m m2 : sh_X} {o : Outcome} {z : (Int32 × sh_X)} (hQ : sh_QL242 Q d) (e : sf_264 Q x1 m = some z) (tg : (sh_tI o m2) z) : sh_Lk 264 0 [(0, .ref 67), (1, .int x1)] [] m o m2 (d + 1 + 1034) (40 * (d + 1) + 40690) := by
  unfold sf_264 at e
  refine sh_Lk_lift (T := m.T) (I := m.I) (J := m.J) (s := m.s) (pc2 := 4) (lv2 := [(3, .int (-1)), (2, .int (-1)), (0, .ref 67), (1, .int x1)]) (st2 := []) (I2 := m.I) (J2 := m.J) (fun hT v kk => ?_) ?_
  · refine sh_w (i := (.iconst (-1))) (len := 1) (pc2 := 1) (lv2 := [(0, .ref 67), (1, .int x1)]) (st2 := [.int (-1)]) (h2 := (sh_rep m.T m.I m.J)) rfl rfl rfl ?_
    refine sh_w (i := (.istore_n 2)) (len := 1) (pc2 := 2) (lv2 := [(2, .int (-1)), (0, .ref 67), (1, .int x1)]) (st2 := []) (h2 := (sh_rep m.T m.I m.J)) rfl rfl rfl ?_
    refine sh_w (i := (.iconst (-1))) (len := 1) (pc2 := 3) (lv2 := [(2, .int (-1)), (0, .ref 67), (1, .int x1)]) (st2 := [.int (-1)]) (h2 := (sh_rep m.T m.I m.J)) rfl rfl rfl ?_
    refine sh_w (i := (.istore_n 3)) (len := 1) (pc2 := 4) (lv2 := [(3, .int (-1)), (2, .int (-1)), (0, .ref 67), (1, .int x1)]) (st2 := []) (h2 := (sh_rep m.T m.I m.J)) rfl rfl rfl ?_
    exact kk
  exact sh_Lk_sub (sh_sub_c rfl (sh_sub_c rfl (sh_sub_c rfl (sh_sub_c rfl (sh_sub_n))))) (sl_264_4 hQ e tg)
theorem sl_265_261 {Q : sh_Q242} {d : Nat} {x1 : Int32} {x3 : Int32} {m m2 : sh_X} {o : Outcome} {z : (Int32 × sh_X)} (hQ : sh_QL242 Q d) (e : sf_265_261 Q x1 x3 m = some z) (tg : (sh_tI o m2) z) : sh_Lk 265 261 [(0, .ref 67), (1, .int x1), (3, .int x3)] [] m o m2 (d + 1 + 1034) (40 * (d + 1) + 40690) := by
  unfold sf_265_261 at e
  refine sh_Lk_lift (T := m.T) (I := m.I) (J := m.J) (s := m.s) (pc2 := 264) (lv2 := [(0, .ref 67), (1, .int x1), (3, .int x3)]) (st2 := [.int 61, .ref 67]) (I2 := m.I) (J2 := m.J) (fun hT v kk => ?_) ?_
  · refine sh_w (i := (.aload_n 0)) (len := 1) (pc2 := 262) (lv2 := [(0, .ref 67), (1, .int x1), (3, .int x3)]) (st2 := [.ref 67]) (h2 := (sh_rep m.T m.I m.J)) rfl rfl rfl ?_
    refine sh_w (i := (.bipush 61)) (len := 2) (pc2 := 264) (lv2 := [(0, .ref 67), (1, .int x1), (3, .int x3)]) (st2 := [.int 61, .ref 67]) (h2 := (sh_rep m.T m.I m.J)) rfl rfl rfl ?_
    exact kk
  obtain ⟨r1, m11, e1, e⟩ := sh_bn_e e
  refine sh_Lk_cV (r := (some (.int (sh_b2 r1)))) (st2 := [.int (sh_b2 r1)]) (pc2 := 267) (k2 := 262) (a := 66) (as := [.ref 67, .int 61]) (rest := []) rfl rfl rfl (fun hT => (sh_s66 hT.st)) rfl rfl ⟨Nat.le_of_ble_eq_true rfl, Nat.le_of_ble_eq_true rfl⟩ (sl_262 e1 ⟨rfl, rfl⟩) rfl rfl (show 9 + 1 ≤ d + 1 + 1034 by omega) (show 8 + (2 + 11) + (222) ≤ 40 * (d + 1) + 40690 by omega) ?_
  rcases sh_ite e with ⟨c, e⟩ | ⟨c, e⟩
  · refine sh_Lk_lift (T := m11.T) (I := m11.I) (J := m11.J) (s := m11.s) (pc2 := 279) (lv2 := [(0, .ref 67), (1, .int x1), (3, .int x3)]) (st2 := [.int x1, .ref 67, .int x3, .ref 75]) (I2 := m11.I) (J2 := m11.J) (fun hT v kk => ?_) ?_
    · refine sh_j0 (c := .ne) (off := (5)) (pc2 := 272) true rfl (sh_Znet c) rfl ?_
      refine sh_w (i := (.aload_n 0)) (len := 1) (pc2 := 273) (lv2 := [(0, .ref 67), (1, .int x1), (3, .int x3)]) (st2 := [.ref 67]) (h2 := (sh_rep m11.T m11.I m11.J)) rfl rfl rfl ?_
      refine sh_gR1 (len := 3) (x := .ref 75) (pc2 := 276) rfl rfl (sh_s66 hT.st) rfl rfl ?_
      refine sh_w (i := (.iload_n 3)) (len := 1) (pc2 := 277) (lv2 := [(0, .ref 67), (1, .int x1), (3, .int x3)]) (st2 := [.int x3, .ref 75]) (h2 := (sh_rep m11.T m11.I m11.J)) rfl rfl rfl ?_
      refine sh_w (i := (.aload_n 0)) (len := 1) (pc2 := 278) (lv2 := [(0, .ref 67), (1, .int x1), (3, .int x3)]) (st2 := [.ref 67, .int x3, .ref 75]) (h2 := (sh_rep m11.T m11.I m11.J)) rfl rfl rfl ?_
      refine sh_w (i := (.iload_n 1)) (len := 1) (pc2 := 279) (lv2 := [(0, .ref 67), (1, .int x1), (3, .int x3)]) (st2 := [.int x1, .ref 67, .int x3, .ref 75]) (h2 := (sh_rep m11.T m11.I m11.J)) rfl rfl rfl ?_
      exact kk
    obtain ⟨r2, m12, e2, e⟩ := sh_bn_e e
    refine sh_Lk_cV (r := (some (.int r2))) (st2 := [.int r2, .int x3, .ref 75]) (pc2 := 282) (k2 := 267) (a := 66) (as := [.ref 67, .int x1]) (rest := [.int x3, .ref 75]) rfl rfl rfl (fun hT => (sh_s66 hT.st)) rfl rfl ⟨Nat.le_of_ble_eq_true rfl, Nat.le_of_ble_eq_true rfl⟩ ((sq_240_l sh_dp).f267 e2 ⟨rfl, rfl⟩) rfl rfl (show 1033 + 1 ≤ d + 1 + 1034 by omega) (show 8 + (2 + 11) + (40669) ≤ 40 * (d + 1) + 40690 by omega) ?_
    obtain ⟨c, e⟩ := sh_gd e
    refine sh_Lk_lift (T := m12.T) (I := m12.I) (J := m12.J) (s := m12.s) (pc2 := 288) (lv2 := [(0, .ref 67), (1, .int x1), (3, .int x3)]) (st2 := [.int x3, .ref 75]) (I2 := sh_u2 m12.I 74 (Int32.toNatClampNeg x3) r2) (J2 := m12.J) (fun hT v kk => ?_) ?_
    · refine sh_is1 (x := r2) (i := x3) (pc2 := 283) rfl (sh_s74 hT.st) (sh_okb1 c) (sh_okb2 c) rfl ?_
      refine sh_w (i := (.aload_n 0)) (len := 1) (pc2 := 284) (lv2 := [(0, .ref 67), (1, .int x1), (3, .int x3)]) (st2 := [.ref 67]) (h2 := (sh_rep m12.T (sh_u2 m12.I 74 (Int32.toNatClampNeg x3) r2) m12.J)) rfl rfl rfl ?_
      refine sh_gR1 (len := 3) (x := .ref 75) (pc2 := 287) rfl rfl (sh_s66 hT.st) rfl rfl ?_
      refine sh_w (i := (.iload_n 3)) (len := 1) (pc2 := 288) (lv2 := [(0, .ref 67), (1, .int x1), (3, .int x3)]) (st2 := [.int x3, .ref 75]) (h2 := (sh_rep m12.T (sh_u2 m12.I 74 (Int32.toNatClampNeg x3) r2) m12.J)) rfl rfl rfl ?_
      exact kk
    obtain ⟨c, e⟩ := sh_gd e
    refine sh_Lk_lift (T := m12.T) (I := sh_u2 m12.I 74 (Int32.toNatClampNeg x3) r2) (J := m12.J) (s := m12.s) (pc2 := 289) (lv2 := [(0, .ref 67), (1, .int x1), (3, .int x3)]) (st2 := [.int ((sh_u2 m12.I 74 (Int32.toNatClampNeg x3) r2) 74 (Int32.toNatClampNeg x3))]) (I2 := sh_u2 m12.I 74 (Int32.toNatClampNeg x3) r2) (J2 := m12.J) (fun hT v kk => ?_) ?_
    · refine sh_ia1 (x := (sh_u2 m12.I 74 (Int32.toNatClampNeg x3) r2) 74 (Int32.toNatClampNeg x3)) (pc2 := 289) rfl (sh_s74 hT.st) (sh_okb1 c) (sh_okb2 c) rfl rfl ?_
      exact kk
    rcases sh_ite e with ⟨c, e⟩ | ⟨c, e⟩
    · refine sh_Lk_lift (T := m12.T) (I := sh_u2 m12.I 74 (Int32.toNatClampNeg x3) r2) (J := m12.J) (s := m12.s) (pc2 := 306) (lv2 := [(0, .ref 67), (1, .int x1), (3, .int x3)]) (st2 := [.int (-1)]) (I2 := sh_u2 m12.I 74 (Int32.toNatClampNeg x3) r2) (J2 := m12.J) (fun hT v kk => ?_) ?_
      · refine sh_j0 (c := .lt) (off := (16)) (pc2 := 305) true rfl (sh_Bltt c) rfl ?_
        refine sh_w (i := (.iconst (-1))) (len := 1) (pc2 := 306) (lv2 := [(0, .ref 67), (1, .int x1), (3, .int x3)]) (st2 := [.int (-1)]) (h2 := (sh_rep m12.T (sh_u2 m12.I 74 (Int32.toNatClampNeg x3) r2) m12.J)) rfl rfl rfl ?_
        exact kk
      obtain rfl := Option.some.inj e
      obtain ⟨rfl, rfl⟩ := tg
      exact sh_Lk_ret (i := .ireturn) rfl rfl rfl (by omega) (by omega)
    · refine sh_Lk_lift (T := m12.T) (I := sh_u2 m12.I 74 (Int32.toNatClampNeg x3) r2) (J := m12.J) (s := m12.s) (pc2 := 295) (lv2 := [(0, .ref 67), (1, .int x1), (3, .int x3)]) (st2 := [.int 59, .ref 67]) (I2 := sh_u2 m12.I 74 (Int32.toNatClampNeg x3) r2) (J2 := m12.J) (fun hT v kk => ?_) ?_
      · refine sh_j0 (c := .lt) (off := (16)) (pc2 := 292) false rfl (sh_Bltf c) rfl ?_
        refine sh_w (i := (.aload_n 0)) (len := 1) (pc2 := 293) (lv2 := [(0, .ref 67), (1, .int x1), (3, .int x3)]) (st2 := [.ref 67]) (h2 := (sh_rep m12.T (sh_u2 m12.I 74 (Int32.toNatClampNeg x3) r2) m12.J)) rfl rfl rfl ?_
        refine sh_w (i := (.bipush 59)) (len := 2) (pc2 := 295) (lv2 := [(0, .ref 67), (1, .int x1), (3, .int x3)]) (st2 := [.int 59, .ref 67]) (h2 := (sh_rep m12.T (sh_u2 m12.I 74 (Int32.toNatClampNeg x3) r2) m12.J)) rfl rfl rfl ?_
        exact kk
      obtain ⟨r3, m13, e3, e⟩ := sh_bn_e e
      refine sh_Lk_cV (r := (some (.int (sh_b2 r3)))) (st2 := [.int (sh_b2 r3)]) (pc2 := 298) (k2 := 262) (a := 66) (as := [.ref 67, .int 59]) (rest := []) rfl rfl rfl (fun hT => (sh_s66 hT.st)) rfl rfl ⟨Nat.le_of_ble_eq_true rfl, Nat.le_of_ble_eq_true rfl⟩ (sl_262 e3 ⟨rfl, rfl⟩) rfl rfl (show 9 + 1 ≤ d + 1 + 1034 by omega) (show 8 + (2 + 11) + (222) ≤ 40 * (d + 1) + 40690 by omega) ?_
      rcases sh_ite e with ⟨c, e⟩ | ⟨c, e⟩
      · refine sh_Lk_lift (T := m13.T) (I := m13.I) (J := m13.J) (s := m13.s) (pc2 := 306) (lv2 := [(0, .ref 67), (1, .int x1), (3, .int x3)]) (st2 := [.int x3]) (I2 := m13.I) (J2 := m13.J) (fun hT v kk => ?_) ?_
        · refine sh_j0 (c := .eq) (off := (7)) (pc2 := 301) false rfl (sh_Zeqf c) rfl ?_
          refine sh_w (i := (.iload_n 3)) (len := 1) (pc2 := 302) (lv2 := [(0, .ref 67), (1, .int x1), (3, .int x3)]) (st2 := [.int x3]) (h2 := (sh_rep m13.T m13.I m13.J)) rfl rfl rfl ?_
          refine sh_w (i := (.goto 4)) (len := 3) (pc2 := 306) (lv2 := [(0, .ref 67), (1, .int x1), (3, .int x3)]) (st2 := [.int x3]) (h2 := (sh_rep m13.T m13.I m13.J)) rfl rfl rfl ?_
          exact kk
        obtain rfl := Option.some.inj e
        obtain ⟨rfl, rfl⟩ := tg
        exact sh_Lk_ret (i := .ireturn) rfl rfl rfl (by omega) (by omega)
      · refine sh_Lk_lift (T := m13.T) (I := m13.I) (J := m13.J) (s := m13.s) (pc2 := 306) (lv2 := [(0, .ref 67), (1, .int x1), (3, .int x3)]) (st2 := [.int (-1)]) (I2 := m13.I) (J2 := m13.J) (fun hT v kk => ?_) ?_
        · refine sh_j0 (c := .eq) (off := (7)) (pc2 := 305) true rfl (sh_Zeqt c) rfl ?_
          refine sh_w (i := (.iconst (-1))) (len := 1) (pc2 := 306) (lv2 := [(0, .ref 67), (1, .int x1), (3, .int x3)]) (st2 := [.int (-1)]) (h2 := (sh_rep m13.T m13.I m13.J)) rfl rfl rfl ?_
          exact kk
        obtain rfl := Option.some.inj e
        obtain ⟨rfl, rfl⟩ := tg
        exact sh_Lk_ret (i := .ireturn) rfl rfl rfl (by omega) (by omega)
  · refine sh_Lk_lift (T := m11.T) (I := m11.I) (J := m11.J) (s := m11.s) (pc2 := 271) (lv2 := [(0, .ref 67), (1, .int x1), (3, .int x3)]) (st2 := [.int (-1)]) (I2 := m11.I) (J2 := m11.J) (fun hT v kk => ?_) ?_
    · refine sh_j0 (c := .ne) (off := (5)) (pc2 := 270) false rfl (sh_Znef c) rfl ?_
      refine sh_w (i := (.iconst (-1))) (len := 1) (pc2 := 271) (lv2 := [(0, .ref 67), (1, .int x1), (3, .int x3)]) (st2 := [.int (-1)]) (h2 := (sh_rep m11.T m11.I m11.J)) rfl rfl rfl ?_
      exact kk
    obtain rfl := Option.some.inj e
    obtain ⟨rfl, rfl⟩ := tg
    exact sh_Lk_ret (i := .ireturn) rfl rfl rfl (by omega) (by omega)
theorem sl_265 {Q : sh_Q242} {d : Nat} {x1 : Int32} {m m2 : sh_X} {o : Outcome} {z : (Int32 × sh_X)} (hQ : sh_QL242 Q d) (e : sf_265 Q x1 m = some z) (tg : (sh_tI o m2) z) : sh_Lk 265 0 [(0, .ref 67), (1, .int x1)] [] m o m2 (d + 1 + 1034) (40 * (d + 1) + 40690) := by
  unfold sf_265 at e
  refine sh_Lk_lift (T := m.T) (I := m.I) (J := m.J) (s := m.s) (pc2 := 20) (lv2 := [(2, .int (m.I 66 21)), (0, .ref 67), (1, .int x1)]) (st2 := [.ref 1000017, .int (m.I 66 21), .ref 67]) (I2 := sh_u2 m.I 66 21 ((m.I 66 21) + 1)) (J2 := m.J) (fun hT v kk => ?_) ?_
  · refine sh_w (i := (.aload_n 0)) (len := 1) (pc2 := 1) (lv2 := [(0, .ref 67), (1, .int x1)]) (st2 := [.ref 67]) (h2 := (sh_rep m.T m.I m.J)) rfl rfl rfl ?_
    refine sh_gI1 (len := 3) (x := m.I 66 21) (pc2 := 4) rfl rfl (sh_s66 hT.st) rfl rfl rfl ?_
    refine sh_w (i := (.istore_n 2)) (len := 1) (pc2 := 5) (lv2 := [(2, .int (m.I 66 21)), (0, .ref 67), (1, .int x1)]) (st2 := []) (h2 := (sh_rep m.T m.I m.J)) rfl rfl rfl ?_
    refine sh_w (i := (.aload_n 0)) (len := 1) (pc2 := 6) (lv2 := [(2, .int (m.I 66 21)), (0, .ref 67), (1, .int x1)]) (st2 := [.ref 67]) (h2 := (sh_rep m.T m.I m.J)) rfl rfl rfl ?_
    refine sh_w (i := .dup) (len := 1) (pc2 := 7) (lv2 := [(2, .int (m.I 66 21)), (0, .ref 67), (1, .int x1)]) (st2 := [.ref 67, .ref 67]) (h2 := (sh_rep m.T m.I m.J)) rfl rfl rfl ?_
    refine sh_gI1 (len := 3) (x := m.I 66 21) (pc2 := 10) rfl rfl (sh_s66 hT.st) rfl rfl rfl ?_
    refine sh_w (i := (.iconst 1)) (len := 1) (pc2 := 11) (lv2 := [(2, .int (m.I 66 21)), (0, .ref 67), (1, .int x1)]) (st2 := [.int 1, .int (m.I 66 21), .ref 67]) (h2 := (sh_rep m.T m.I m.J)) rfl rfl rfl ?_
    refine sh_w (i := .iadd) (len := 1) (pc2 := 12) (lv2 := [(2, .int (m.I 66 21)), (0, .ref 67), (1, .int x1)]) (st2 := [.int ((m.I 66 21) + 1), .ref 67]) (h2 := (sh_rep m.T m.I m.J)) rfl rfl rfl ?_
    refine sh_pI1 (x := (m.I 66 21) + 1) (pc2 := 15) rfl rfl (sh_s66 hT.st) rfl rfl rfl rfl ?_
    refine sh_w (i := (.aload_n 0)) (len := 1) (pc2 := 16) (lv2 := [(2, .int (m.I 66 21)), (0, .ref 67), (1, .int x1)]) (st2 := [.ref 67]) (h2 := (sh_rep m.T (sh_u2 m.I 66 21 ((m.I 66 21) + 1)) m.J)) rfl rfl rfl ?_
    refine sh_w (i := (.iload_n 2)) (len := 1) (pc2 := 17) (lv2 := [(2, .int (m.I 66 21)), (0, .ref 67), (1, .int x1)]) (st2 := [.int (m.I 66 21), .ref 67]) (h2 := (sh_rep m.T (sh_u2 m.I 66 21 ((m.I 66 21) + 1)) m.J)) rfl rfl rfl ?_
    refine sh_w (i := (.ldc_w 266)) (len := 3) (pc2 := 20) (lv2 := [(2, .int (m.I 66 21)), (0, .ref 67), (1, .int x1)]) (st2 := [.ref 1000017, .int (m.I 66 21), .ref 67]) (h2 := (sh_rep m.T (sh_u2 m.I 66 21 ((m.I 66 21) + 1)) m.J)) rfl rfl rfl ?_
    exact kk
  obtain ⟨r1, e1, e⟩ := sh_bc_e e
  refine sh_Lk_cV (r := (some (.int (sh_b2 r1)))) (st2 := [.int (sh_b2 r1)]) (pc2 := 23) (k2 := 256) (a := 66) (as := [.ref 67, .int (m.I 66 21), .ref 1000017]) (rest := []) rfl rfl rfl (fun hT => (sh_s66 hT.st)) rfl rfl ⟨Nat.le_of_ble_eq_true rfl, Nat.le_of_ble_eq_true rfl⟩ (sl_256 e1 ⟨rfl, rfl⟩) rfl rfl (show 30 + 1 ≤ d + 1 + 1034 by omega) (show 8 + (4 + 11) + (600) ≤ 40 * (d + 1) + 40690 by omega) ?_
  rcases sh_ite e with ⟨c, e⟩ | ⟨c, e⟩
  · refine sh_Lk_lift (T := m.T) (I := sh_u2 m.I 66 21 ((m.I 66 21) + 1)) (J := m.J) (s := m.s) (pc2 := 35) (lv2 := [(2, .int (m.I 66 21)), (0, .ref 67), (1, .int x1)]) (st2 := [.int ((m.I 66 21) + 1), .int (-1), .int (m.I 66 21), .int 20, .ref 67]) (I2 := sh_u2 m.I 66 21 ((m.I 66 21) + 1)) (J2 := m.J) (fun hT v kk => ?_) ?_
    · refine sh_j0 (c := .eq) (off := (69)) (pc2 := 26) false rfl (sh_Zeqf c) rfl ?_
      refine sh_w (i := (.aload_n 0)) (len := 1) (pc2 := 27) (lv2 := [(2, .int (m.I 66 21)), (0, .ref 67), (1, .int x1)]) (st2 := [.ref 67]) (h2 := (sh_rep m.T (sh_u2 m.I 66 21 ((m.I 66 21) + 1)) m.J)) rfl rfl rfl ?_
      refine sh_w (i := (.bipush 20)) (len := 2) (pc2 := 29) (lv2 := [(2, .int (m.I 66 21)), (0, .ref 67), (1, .int x1)]) (st2 := [.int 20, .ref 67]) (h2 := (sh_rep m.T (sh_u2 m.I 66 21 ((m.I 66 21) + 1)) m.J)) rfl rfl rfl ?_
      refine sh_w (i := (.iload_n 2)) (len := 1) (pc2 := 30) (lv2 := [(2, .int (m.I 66 21)), (0, .ref 67), (1, .int x1)]) (st2 := [.int (m.I 66 21), .int 20, .ref 67]) (h2 := (sh_rep m.T (sh_u2 m.I 66 21 ((m.I 66 21) + 1)) m.J)) rfl rfl rfl ?_
      refine sh_w (i := (.iconst (-1))) (len := 1) (pc2 := 31) (lv2 := [(2, .int (m.I 66 21)), (0, .ref 67), (1, .int x1)]) (st2 := [.int (-1), .int (m.I 66 21), .int 20, .ref 67]) (h2 := (sh_rep m.T (sh_u2 m.I 66 21 ((m.I 66 21) + 1)) m.J)) rfl rfl rfl ?_
      refine sh_w (i := (.aload_n 0)) (len := 1) (pc2 := 32) (lv2 := [(2, .int (m.I 66 21)), (0, .ref 67), (1, .int x1)]) (st2 := [.ref 67, .int (-1), .int (m.I 66 21), .int 20, .ref 67]) (h2 := (sh_rep m.T (sh_u2 m.I 66 21 ((m.I 66 21) + 1)) m.J)) rfl rfl rfl ?_
      refine sh_gI1 (len := 3) (x := (m.I 66 21) + 1) (pc2 := 35) rfl rfl (sh_s66 hT.st) rfl rfl rfl ?_
      exact kk
    obtain ⟨r2, m12, e2, e⟩ := sh_bn_e e
    refine sh_Lk_cV (r := (some (.int r2))) (st2 := [.int r2]) (pc2 := 38) (k2 := 266) (a := 66) (as := [.ref 67, .int 20, .int (m.I 66 21), .int (-1), .int ((m.I 66 21) + 1)]) (rest := []) rfl rfl rfl (fun hT => (sh_s66 hT.st)) rfl rfl ⟨Nat.le_of_ble_eq_true rfl, Nat.le_of_ble_eq_true rfl⟩ (sl_266 e2 ⟨rfl, rfl⟩) rfl rfl (show 8 + 1 ≤ d + 1 + 1034 by omega) (show 8 + (5 + 11) + (200) ≤ 40 * (d + 1) + 40690 by omega) ?_
    refine sh_Lk_lift (T := m12.T) (I := m12.I) (J := m12.J) (s := m12.s) (pc2 := 40) (lv2 := [(3, .int r2), (2, .int (m.I 66 21)), (0, .ref 67), (1, .int x1)]) (st2 := [.ref 67]) (I2 := m12.I) (J2 := m12.J) (fun hT v kk => ?_) ?_
    · refine sh_w (i := (.istore_n 3)) (len := 1) (pc2 := 39) (lv2 := [(3, .int r2), (2, .int (m.I 66 21)), (0, .ref 67), (1, .int x1)]) (st2 := []) (h2 := (sh_rep m12.T m12.I m12.J)) rfl rfl rfl ?_
      refine sh_w (i := (.aload_n 0)) (len := 1) (pc2 := 40) (lv2 := [(3, .int r2), (2, .int (m.I 66 21)), (0, .ref 67), (1, .int x1)]) (st2 := [.ref 67]) (h2 := (sh_rep m12.T m12.I m12.J)) rfl rfl rfl ?_
      exact kk
    obtain ⟨r3, m13, e3, e⟩ := sh_bn_e e
    refine sh_Lk_cV (r := (some (.int (sh_b2 r3)))) (st2 := [.int (sh_b2 r3)]) (pc2 := 43) (k2 := 258) (a := 66) (as := [.ref 67]) (rest := []) rfl rfl rfl (fun hT => (sh_s66 hT.st)) rfl rfl ⟨Nat.le_of_ble_eq_true rfl, Nat.le_of_ble_eq_true rfl⟩ (sl_258 e3 ⟨rfl, rfl⟩) rfl rfl (show 33 + 1 ≤ d + 1 + 1034 by omega) (show 8 + (1 + 11) + (669) ≤ 40 * (d + 1) + 40690 by omega) ?_
    rcases sh_ite e with ⟨c, e⟩ | ⟨c, e⟩
    · refine sh_Lk_lift (T := m13.T) (I := m13.I) (J := m13.J) (s := m13.s) (pc2 := 49) (lv2 := [(3, .int r2), (2, .int (m.I 66 21)), (0, .ref 67), (1, .int x1)]) (st2 := [.int 61, .ref 67]) (I2 := m13.I) (J2 := m13.J) (fun hT v kk => ?_) ?_
      · refine sh_j0 (c := .eq) (off := (12)) (pc2 := 46) false rfl (sh_Zeqf c) rfl ?_
        refine sh_w (i := (.aload_n 0)) (len := 1) (pc2 := 47) (lv2 := [(3, .int r2), (2, .int (m.I 66 21)), (0, .ref 67), (1, .int x1)]) (st2 := [.ref 67]) (h2 := (sh_rep m13.T m13.I m13.J)) rfl rfl rfl ?_
        refine sh_w (i := (.bipush 61)) (len := 2) (pc2 := 49) (lv2 := [(3, .int r2), (2, .int (m.I 66 21)), (0, .ref 67), (1, .int x1)]) (st2 := [.int 61, .ref 67]) (h2 := (sh_rep m13.T m13.I m13.J)) rfl rfl rfl ?_
        exact kk
      obtain ⟨r4, m14, e4, e⟩ := sh_bn_e e
      refine sh_Lk_cV (r := (some (.int (sh_b2 r4)))) (st2 := [.int (sh_b2 r4)]) (pc2 := 52) (k2 := 262) (a := 66) (as := [.ref 67, .int 61]) (rest := []) rfl rfl rfl (fun hT => (sh_s66 hT.st)) rfl rfl ⟨Nat.le_of_ble_eq_true rfl, Nat.le_of_ble_eq_true rfl⟩ (sl_262 e4 ⟨rfl, rfl⟩) rfl rfl (show 9 + 1 ≤ d + 1 + 1034 by omega) (show 8 + (2 + 11) + (222) ≤ 40 * (d + 1) + 40690 by omega) ?_
      rcases sh_ite e with ⟨c, e⟩ | ⟨c, e⟩
      · refine sh_Lk_lift (T := m14.T) (I := m14.I) (J := m14.J) (s := m14.s) (pc2 := 64) (lv2 := [(3, .int r2), (2, .int (m.I 66 21)), (0, .ref 67), (1, .int x1)]) (st2 := [.int x1, .ref 67, .int r2, .ref 75]) (I2 := m14.I) (J2 := m14.J) (fun hT v kk => ?_) ?_
        · refine sh_j0 (c := .ne) (off := (5)) (pc2 := 57) true rfl (sh_Znet c) rfl ?_
          refine sh_w (i := (.aload_n 0)) (len := 1) (pc2 := 58) (lv2 := [(3, .int r2), (2, .int (m.I 66 21)), (0, .ref 67), (1, .int x1)]) (st2 := [.ref 67]) (h2 := (sh_rep m14.T m14.I m14.J)) rfl rfl rfl ?_
          refine sh_gR1 (len := 3) (x := .ref 75) (pc2 := 61) rfl rfl (sh_s66 hT.st) rfl rfl ?_
          refine sh_w (i := (.iload_n 3)) (len := 1) (pc2 := 62) (lv2 := [(3, .int r2), (2, .int (m.I 66 21)), (0, .ref 67), (1, .int x1)]) (st2 := [.int r2, .ref 75]) (h2 := (sh_rep m14.T m14.I m14.J)) rfl rfl rfl ?_
          refine sh_w (i := (.aload_n 0)) (len := 1) (pc2 := 63) (lv2 := [(3, .int r2), (2, .int (m.I 66 21)), (0, .ref 67), (1, .int x1)]) (st2 := [.ref 67, .int r2, .ref 75]) (h2 := (sh_rep m14.T m14.I m14.J)) rfl rfl rfl ?_
          refine sh_w (i := (.iload_n 1)) (len := 1) (pc2 := 64) (lv2 := [(3, .int r2), (2, .int (m.I 66 21)), (0, .ref 67), (1, .int x1)]) (st2 := [.int x1, .ref 67, .int r2, .ref 75]) (h2 := (sh_rep m14.T m14.I m14.J)) rfl rfl rfl ?_
          exact kk
        obtain ⟨r5, m15, e5, e⟩ := sh_bn_e e
        refine sh_Lk_cV (r := (some (.int r5))) (st2 := [.int r5, .int r2, .ref 75]) (pc2 := 67) (k2 := 267) (a := 66) (as := [.ref 67, .int x1]) (rest := [.int r2, .ref 75]) rfl rfl rfl (fun hT => (sh_s66 hT.st)) rfl rfl ⟨Nat.le_of_ble_eq_true rfl, Nat.le_of_ble_eq_true rfl⟩ ((sq_240_l sh_dp).f267 e5 ⟨rfl, rfl⟩) rfl rfl (show 1033 + 1 ≤ d + 1 + 1034 by omega) (show 8 + (2 + 11) + (40669) ≤ 40 * (d + 1) + 40690 by omega) ?_
        obtain ⟨c, e⟩ := sh_gd e
        refine sh_Lk_lift (T := m15.T) (I := m15.I) (J := m15.J) (s := m15.s) (pc2 := 73) (lv2 := [(3, .int r2), (2, .int (m.I 66 21)), (0, .ref 67), (1, .int x1)]) (st2 := [.int r2, .ref 75]) (I2 := sh_u2 m15.I 74 (Int32.toNatClampNeg r2) r5) (J2 := m15.J) (fun hT v kk => ?_) ?_
        · refine sh_is1 (x := r5) (i := r2) (pc2 := 68) rfl (sh_s74 hT.st) (sh_okb1 c) (sh_okb2 c) rfl ?_
          refine sh_w (i := (.aload_n 0)) (len := 1) (pc2 := 69) (lv2 := [(3, .int r2), (2, .int (m.I 66 21)), (0, .ref 67), (1, .int x1)]) (st2 := [.ref 67]) (h2 := (sh_rep m15.T (sh_u2 m15.I 74 (Int32.toNatClampNeg r2) r5) m15.J)) rfl rfl rfl ?_
          refine sh_gR1 (len := 3) (x := .ref 75) (pc2 := 72) rfl rfl (sh_s66 hT.st) rfl rfl ?_
          refine sh_w (i := (.iload_n 3)) (len := 1) (pc2 := 73) (lv2 := [(3, .int r2), (2, .int (m.I 66 21)), (0, .ref 67), (1, .int x1)]) (st2 := [.int r2, .ref 75]) (h2 := (sh_rep m15.T (sh_u2 m15.I 74 (Int32.toNatClampNeg r2) r5) m15.J)) rfl rfl rfl ?_
          exact kk
        obtain ⟨c, e⟩ := sh_gd e
        refine sh_Lk_lift (T := m15.T) (I := sh_u2 m15.I 74 (Int32.toNatClampNeg r2) r5) (J := m15.J) (s := m15.s) (pc2 := 74) (lv2 := [(3, .int r2), (2, .int (m.I 66 21)), (0, .ref 67), (1, .int x1)]) (st2 := [.int ((sh_u2 m15.I 74 (Int32.toNatClampNeg r2) r5) 74 (Int32.toNatClampNeg r2))]) (I2 := sh_u2 m15.I 74 (Int32.toNatClampNeg r2) r5) (J2 := m15.J) (fun hT v kk => ?_) ?_
        · refine sh_ia1 (x := (sh_u2 m15.I 74 (Int32.toNatClampNeg r2) r5) 74 (Int32.toNatClampNeg r2)) (pc2 := 74) rfl (sh_s74 hT.st) (sh_okb1 c) (sh_okb2 c) rfl rfl ?_
          exact kk
        rcases sh_ite e with ⟨c, e⟩ | ⟨c, e⟩
        · refine sh_Lk_lift (T := m15.T) (I := sh_u2 m15.I 74 (Int32.toNatClampNeg r2) r5) (J := m15.J) (s := m15.s) (pc2 := 91) (lv2 := [(3, .int r2), (2, .int (m.I 66 21)), (0, .ref 67), (1, .int x1)]) (st2 := [.int (-1)]) (I2 := sh_u2 m15.I 74 (Int32.toNatClampNeg r2) r5) (J2 := m15.J) (fun hT v kk => ?_) ?_
          · refine sh_j0 (c := .lt) (off := (16)) (pc2 := 90) true rfl (sh_Bltt c) rfl ?_
            refine sh_w (i := (.iconst (-1))) (len := 1) (pc2 := 91) (lv2 := [(3, .int r2), (2, .int (m.I 66 21)), (0, .ref 67), (1, .int x1)]) (st2 := [.int (-1)]) (h2 := (sh_rep m15.T (sh_u2 m15.I 74 (Int32.toNatClampNeg r2) r5) m15.J)) rfl rfl rfl ?_
            exact kk
          obtain rfl := Option.some.inj e
          obtain ⟨rfl, rfl⟩ := tg
          exact sh_Lk_ret (i := .ireturn) rfl rfl rfl (by omega) (by omega)
        · refine sh_Lk_lift (T := m15.T) (I := sh_u2 m15.I 74 (Int32.toNatClampNeg r2) r5) (J := m15.J) (s := m15.s) (pc2 := 80) (lv2 := [(3, .int r2), (2, .int (m.I 66 21)), (0, .ref 67), (1, .int x1)]) (st2 := [.int 59, .ref 67]) (I2 := sh_u2 m15.I 74 (Int32.toNatClampNeg r2) r5) (J2 := m15.J) (fun hT v kk => ?_) ?_
          · refine sh_j0 (c := .lt) (off := (16)) (pc2 := 77) false rfl (sh_Bltf c) rfl ?_
            refine sh_w (i := (.aload_n 0)) (len := 1) (pc2 := 78) (lv2 := [(3, .int r2), (2, .int (m.I 66 21)), (0, .ref 67), (1, .int x1)]) (st2 := [.ref 67]) (h2 := (sh_rep m15.T (sh_u2 m15.I 74 (Int32.toNatClampNeg r2) r5) m15.J)) rfl rfl rfl ?_
            refine sh_w (i := (.bipush 59)) (len := 2) (pc2 := 80) (lv2 := [(3, .int r2), (2, .int (m.I 66 21)), (0, .ref 67), (1, .int x1)]) (st2 := [.int 59, .ref 67]) (h2 := (sh_rep m15.T (sh_u2 m15.I 74 (Int32.toNatClampNeg r2) r5) m15.J)) rfl rfl rfl ?_
            exact kk
          obtain ⟨r6, m16, e6, e⟩ := sh_bn_e e
          refine sh_Lk_cV (r := (some (.int (sh_b2 r6)))) (st2 := [.int (sh_b2 r6)]) (pc2 := 83) (k2 := 262) (a := 66) (as := [.ref 67, .int 59]) (rest := []) rfl rfl rfl (fun hT => (sh_s66 hT.st)) rfl rfl ⟨Nat.le_of_ble_eq_true rfl, Nat.le_of_ble_eq_true rfl⟩ (sl_262 e6 ⟨rfl, rfl⟩) rfl rfl (show 9 + 1 ≤ d + 1 + 1034 by omega) (show 8 + (2 + 11) + (222) ≤ 40 * (d + 1) + 40690 by omega) ?_
          rcases sh_ite e with ⟨c, e⟩ | ⟨c, e⟩
          · refine sh_Lk_lift (T := m16.T) (I := m16.I) (J := m16.J) (s := m16.s) (pc2 := 91) (lv2 := [(3, .int r2), (2, .int (m.I 66 21)), (0, .ref 67), (1, .int x1)]) (st2 := [.int r2]) (I2 := m16.I) (J2 := m16.J) (fun hT v kk => ?_) ?_
            · refine sh_j0 (c := .eq) (off := (7)) (pc2 := 86) false rfl (sh_Zeqf c) rfl ?_
              refine sh_w (i := (.iload_n 3)) (len := 1) (pc2 := 87) (lv2 := [(3, .int r2), (2, .int (m.I 66 21)), (0, .ref 67), (1, .int x1)]) (st2 := [.int r2]) (h2 := (sh_rep m16.T m16.I m16.J)) rfl rfl rfl ?_
              refine sh_w (i := (.goto 4)) (len := 3) (pc2 := 91) (lv2 := [(3, .int r2), (2, .int (m.I 66 21)), (0, .ref 67), (1, .int x1)]) (st2 := [.int r2]) (h2 := (sh_rep m16.T m16.I m16.J)) rfl rfl rfl ?_
              exact kk
            obtain rfl := Option.some.inj e
            obtain ⟨rfl, rfl⟩ := tg
            exact sh_Lk_ret (i := .ireturn) rfl rfl rfl (by omega) (by omega)
          · refine sh_Lk_lift (T := m16.T) (I := m16.I) (J := m16.J) (s := m16.s) (pc2 := 91) (lv2 := [(3, .int r2), (2, .int (m.I 66 21)), (0, .ref 67), (1, .int x1)]) (st2 := [.int (-1)]) (I2 := m16.I) (J2 := m16.J) (fun hT v kk => ?_) ?_
            · refine sh_j0 (c := .eq) (off := (7)) (pc2 := 90) true rfl (sh_Zeqt c) rfl ?_
              refine sh_w (i := (.iconst (-1))) (len := 1) (pc2 := 91) (lv2 := [(3, .int r2), (2, .int (m.I 66 21)), (0, .ref 67), (1, .int x1)]) (st2 := [.int (-1)]) (h2 := (sh_rep m16.T m16.I m16.J)) rfl rfl rfl ?_
              exact kk
            obtain rfl := Option.some.inj e
            obtain ⟨rfl, rfl⟩ := tg
            exact sh_Lk_ret (i := .ireturn) rfl rfl rfl (by omega) (by omega)
      · refine sh_Lk_lift (T := m14.T) (I := m14.I) (J := m14.J) (s := m14.s) (pc2 := 56) (lv2 := [(3, .int r2), (2, .int (m.I 66 21)), (0, .ref 67), (1, .int x1)]) (st2 := [.int (-1)]) (I2 := m14.I) (J2 := m14.J) (fun hT v kk => ?_) ?_
        · refine sh_j0 (c := .ne) (off := (5)) (pc2 := 55) false rfl (sh_Znef c) rfl ?_
          refine sh_w (i := (.iconst (-1))) (len := 1) (pc2 := 56) (lv2 := [(3, .int r2), (2, .int (m.I 66 21)), (0, .ref 67), (1, .int x1)]) (st2 := [.int (-1)]) (h2 := (sh_rep m14.T m14.I m14.J)) rfl rfl rfl ?_
          exact kk
        obtain rfl := Option.some.inj e
        obtain ⟨rfl, rfl⟩ := tg
        exact sh_Lk_ret (i := .ireturn) rfl rfl rfl (by omega) (by omega)
    · refine sh_Lk_lift (T := m13.T) (I := m13.I) (J := m13.J) (s := m13.s) (pc2 := 56) (lv2 := [(3, .int r2), (2, .int (m.I 66 21)), (0, .ref 67), (1, .int x1)]) (st2 := [.int (-1)]) (I2 := m13.I) (J2 := m13.J) (fun hT v kk => ?_) ?_
      · refine sh_j0 (c := .eq) (off := (12)) (pc2 := 55) true rfl (sh_Zeqt c) rfl ?_
        refine sh_w (i := (.iconst (-1))) (len := 1) (pc2 := 56) (lv2 := [(3, .int r2), (2, .int (m.I 66 21)), (0, .ref 67), (1, .int x1)]) (st2 := [.int (-1)]) (h2 := (sh_rep m13.T m13.I m13.J)) rfl rfl rfl ?_
        exact kk
      obtain rfl := Option.some.inj e
      obtain ⟨rfl, rfl⟩ := tg
      exact sh_Lk_ret (i := .ireturn) rfl rfl rfl (by omega) (by omega)
  · refine sh_Lk_lift (T := m.T) (I := sh_u2 m.I 66 21 ((m.I 66 21) + 1)) (J := m.J) (s := m.s) (pc2 := 97) (lv2 := [(2, .int (m.I 66 21)), (0, .ref 67), (1, .int x1)]) (st2 := [.ref 1000018, .int (m.I 66 21), .ref 67]) (I2 := sh_u2 m.I 66 21 ((m.I 66 21) + 1)) (J2 := m.J) (fun hT v kk => ?_) ?_
    · refine sh_j0 (c := .eq) (off := (69)) (pc2 := 92) true rfl (sh_Zeqt c) rfl ?_
      refine sh_w (i := (.aload_n 0)) (len := 1) (pc2 := 93) (lv2 := [(2, .int (m.I 66 21)), (0, .ref 67), (1, .int x1)]) (st2 := [.ref 67]) (h2 := (sh_rep m.T (sh_u2 m.I 66 21 ((m.I 66 21) + 1)) m.J)) rfl rfl rfl ?_
      refine sh_w (i := (.iload_n 2)) (len := 1) (pc2 := 94) (lv2 := [(2, .int (m.I 66 21)), (0, .ref 67), (1, .int x1)]) (st2 := [.int (m.I 66 21), .ref 67]) (h2 := (sh_rep m.T (sh_u2 m.I 66 21 ((m.I 66 21) + 1)) m.J)) rfl rfl rfl ?_
      refine sh_w (i := (.ldc_w 268)) (len := 3) (pc2 := 97) (lv2 := [(2, .int (m.I 66 21)), (0, .ref 67), (1, .int x1)]) (st2 := [.ref 1000018, .int (m.I 66 21), .ref 67]) (h2 := (sh_rep m.T (sh_u2 m.I 66 21 ((m.I 66 21) + 1)) m.J)) rfl rfl rfl ?_
      exact kk
    obtain ⟨r7, e7, e⟩ := sh_bc_e e
    refine sh_Lk_cV (r := (some (.int (sh_b2 r7)))) (st2 := [.int (sh_b2 r7)]) (pc2 := 100) (k2 := 256) (a := 66) (as := [.ref 67, .int (m.I 66 21), .ref 1000018]) (rest := []) rfl rfl rfl (fun hT => (sh_s66 hT.st)) rfl rfl ⟨Nat.le_of_ble_eq_true rfl, Nat.le_of_ble_eq_true rfl⟩ (sl_256 e7 ⟨rfl, rfl⟩) rfl rfl (show 30 + 1 ≤ d + 1 + 1034 by omega) (show 8 + (4 + 11) + (600) ≤ 40 * (d + 1) + 40690 by omega) ?_
    rcases sh_ite e with ⟨c, e⟩ | ⟨c, e⟩
    · refine sh_Lk_lift (T := m.T) (I := sh_u2 m.I 66 21 ((m.I 66 21) + 1)) (J := m.J) (s := m.s) (pc2 := 109) (lv2 := [(2, .int (m.I 66 21)), (0, .ref 67), (1, .int x1)]) (st2 := [.int (-1), .int (-1), .int (m.I 66 21), .int 24, .ref 67]) (I2 := sh_u2 m.I 66 21 ((m.I 66 21) + 1)) (J2 := m.J) (fun hT v kk => ?_) ?_
      · refine sh_j0 (c := .eq) (off := (48)) (pc2 := 103) false rfl (sh_Zeqf c) rfl ?_
        refine sh_w (i := (.aload_n 0)) (len := 1) (pc2 := 104) (lv2 := [(2, .int (m.I 66 21)), (0, .ref 67), (1, .int x1)]) (st2 := [.ref 67]) (h2 := (sh_rep m.T (sh_u2 m.I 66 21 ((m.I 66 21) + 1)) m.J)) rfl rfl rfl ?_
        refine sh_w (i := (.bipush 24)) (len := 2) (pc2 := 106) (lv2 := [(2, .int (m.I 66 21)), (0, .ref 67), (1, .int x1)]) (st2 := [.int 24, .ref 67]) (h2 := (sh_rep m.T (sh_u2 m.I 66 21 ((m.I 66 21) + 1)) m.J)) rfl rfl rfl ?_
        refine sh_w (i := (.iload_n 2)) (len := 1) (pc2 := 107) (lv2 := [(2, .int (m.I 66 21)), (0, .ref 67), (1, .int x1)]) (st2 := [.int (m.I 66 21), .int 24, .ref 67]) (h2 := (sh_rep m.T (sh_u2 m.I 66 21 ((m.I 66 21) + 1)) m.J)) rfl rfl rfl ?_
        refine sh_w (i := (.iconst (-1))) (len := 1) (pc2 := 108) (lv2 := [(2, .int (m.I 66 21)), (0, .ref 67), (1, .int x1)]) (st2 := [.int (-1), .int (m.I 66 21), .int 24, .ref 67]) (h2 := (sh_rep m.T (sh_u2 m.I 66 21 ((m.I 66 21) + 1)) m.J)) rfl rfl rfl ?_
        refine sh_w (i := (.iconst (-1))) (len := 1) (pc2 := 109) (lv2 := [(2, .int (m.I 66 21)), (0, .ref 67), (1, .int x1)]) (st2 := [.int (-1), .int (-1), .int (m.I 66 21), .int 24, .ref 67]) (h2 := (sh_rep m.T (sh_u2 m.I 66 21 ((m.I 66 21) + 1)) m.J)) rfl rfl rfl ?_
        exact kk
      obtain ⟨r8, m18, e8, e⟩ := sh_bn_e e
      refine sh_Lk_cV (r := (some (.int r8))) (st2 := [.int r8]) (pc2 := 112) (k2 := 266) (a := 66) (as := [.ref 67, .int 24, .int (m.I 66 21), .int (-1), .int (-1)]) (rest := []) rfl rfl rfl (fun hT => (sh_s66 hT.st)) rfl rfl ⟨Nat.le_of_ble_eq_true rfl, Nat.le_of_ble_eq_true rfl⟩ (sl_266 e8 ⟨rfl, rfl⟩) rfl rfl (show 8 + 1 ≤ d + 1 + 1034 by omega) (show 8 + (5 + 11) + (200) ≤ 40 * (d + 1) + 40690 by omega) ?_
      refine sh_Lk_lift (T := m18.T) (I := m18.I) (J := m18.J) (s := m18.s) (pc2 := 120) (lv2 := [(3, .int r8), (2, .int (m.I 66 21)), (0, .ref 67), (1, .int x1)]) (st2 := [.int x1, .ref 67, .int r8, .ref 75]) (I2 := m18.I) (J2 := m18.J) (fun hT v kk => ?_) ?_
      · refine sh_w (i := (.istore_n 3)) (len := 1) (pc2 := 113) (lv2 := [(3, .int r8), (2, .int (m.I 66 21)), (0, .ref 67), (1, .int x1)]) (st2 := []) (h2 := (sh_rep m18.T m18.I m18.J)) rfl rfl rfl ?_
        refine sh_w (i := (.aload_n 0)) (len := 1) (pc2 := 114) (lv2 := [(3, .int r8), (2, .int (m.I 66 21)), (0, .ref 67), (1, .int x1)]) (st2 := [.ref 67]) (h2 := (sh_rep m18.T m18.I m18.J)) rfl rfl rfl ?_
        refine sh_gR1 (len := 3) (x := .ref 75) (pc2 := 117) rfl rfl (sh_s66 hT.st) rfl rfl ?_
        refine sh_w (i := (.iload_n 3)) (len := 1) (pc2 := 118) (lv2 := [(3, .int r8), (2, .int (m.I 66 21)), (0, .ref 67), (1, .int x1)]) (st2 := [.int r8, .ref 75]) (h2 := (sh_rep m18.T m18.I m18.J)) rfl rfl rfl ?_
        refine sh_w (i := (.aload_n 0)) (len := 1) (pc2 := 119) (lv2 := [(3, .int r8), (2, .int (m.I 66 21)), (0, .ref 67), (1, .int x1)]) (st2 := [.ref 67, .int r8, .ref 75]) (h2 := (sh_rep m18.T m18.I m18.J)) rfl rfl rfl ?_
        refine sh_w (i := (.iload_n 1)) (len := 1) (pc2 := 120) (lv2 := [(3, .int r8), (2, .int (m.I 66 21)), (0, .ref 67), (1, .int x1)]) (st2 := [.int x1, .ref 67, .int r8, .ref 75]) (h2 := (sh_rep m18.T m18.I m18.J)) rfl rfl rfl ?_
        exact kk
      obtain ⟨r9, m19, e9, e⟩ := sh_bn_e e
      refine sh_Lk_cV (r := (some (.int r9))) (st2 := [.int r9, .int r8, .ref 75]) (pc2 := 123) (k2 := 267) (a := 66) (as := [.ref 67, .int x1]) (rest := [.int r8, .ref 75]) rfl rfl rfl (fun hT => (sh_s66 hT.st)) rfl rfl ⟨Nat.le_of_ble_eq_true rfl, Nat.le_of_ble_eq_true rfl⟩ ((sq_240_l sh_dp).f267 e9 ⟨rfl, rfl⟩) rfl rfl (show 1033 + 1 ≤ d + 1 + 1034 by omega) (show 8 + (2 + 11) + (40669) ≤ 40 * (d + 1) + 40690 by omega) ?_
      obtain ⟨c, e⟩ := sh_gd e
      refine sh_Lk_lift (T := m19.T) (I := m19.I) (J := m19.J) (s := m19.s) (pc2 := 129) (lv2 := [(3, .int r8), (2, .int (m.I 66 21)), (0, .ref 67), (1, .int x1)]) (st2 := [.int r8, .ref 75]) (I2 := sh_u2 m19.I 74 (Int32.toNatClampNeg r8) r9) (J2 := m19.J) (fun hT v kk => ?_) ?_
      · refine sh_is1 (x := r9) (i := r8) (pc2 := 124) rfl (sh_s74 hT.st) (sh_okb1 c) (sh_okb2 c) rfl ?_
        refine sh_w (i := (.aload_n 0)) (len := 1) (pc2 := 125) (lv2 := [(3, .int r8), (2, .int (m.I 66 21)), (0, .ref 67), (1, .int x1)]) (st2 := [.ref 67]) (h2 := (sh_rep m19.T (sh_u2 m19.I 74 (Int32.toNatClampNeg r8) r9) m19.J)) rfl rfl rfl ?_
        refine sh_gR1 (len := 3) (x := .ref 75) (pc2 := 128) rfl rfl (sh_s66 hT.st) rfl rfl ?_
        refine sh_w (i := (.iload_n 3)) (len := 1) (pc2 := 129) (lv2 := [(3, .int r8), (2, .int (m.I 66 21)), (0, .ref 67), (1, .int x1)]) (st2 := [.int r8, .ref 75]) (h2 := (sh_rep m19.T (sh_u2 m19.I 74 (Int32.toNatClampNeg r8) r9) m19.J)) rfl rfl rfl ?_
        exact kk
      obtain ⟨c, e⟩ := sh_gd e
      refine sh_Lk_lift (T := m19.T) (I := sh_u2 m19.I 74 (Int32.toNatClampNeg r8) r9) (J := m19.J) (s := m19.s) (pc2 := 130) (lv2 := [(3, .int r8), (2, .int (m.I 66 21)), (0, .ref 67), (1, .int x1)]) (st2 := [.int ((sh_u2 m19.I 74 (Int32.toNatClampNeg r8) r9) 74 (Int32.toNatClampNeg r8))]) (I2 := sh_u2 m19.I 74 (Int32.toNatClampNeg r8) r9) (J2 := m19.J) (fun hT v kk => ?_) ?_
      · refine sh_ia1 (x := (sh_u2 m19.I 74 (Int32.toNatClampNeg r8) r9) 74 (Int32.toNatClampNeg r8)) (pc2 := 130) rfl (sh_s74 hT.st) (sh_okb1 c) (sh_okb2 c) rfl rfl ?_
        exact kk
      rcases sh_ite e with ⟨c, e⟩ | ⟨c, e⟩
      · refine sh_Lk_lift (T := m19.T) (I := sh_u2 m19.I 74 (Int32.toNatClampNeg r8) r9) (J := m19.J) (s := m19.s) (pc2 := 147) (lv2 := [(3, .int r8), (2, .int (m.I 66 21)), (0, .ref 67), (1, .int x1)]) (st2 := [.int (-1)]) (I2 := sh_u2 m19.I 74 (Int32.toNatClampNeg r8) r9) (J2 := m19.J) (fun hT v kk => ?_) ?_
        · refine sh_j0 (c := .lt) (off := (16)) (pc2 := 146) true rfl (sh_Bltt c) rfl ?_
          refine sh_w (i := (.iconst (-1))) (len := 1) (pc2 := 147) (lv2 := [(3, .int r8), (2, .int (m.I 66 21)), (0, .ref 67), (1, .int x1)]) (st2 := [.int (-1)]) (h2 := (sh_rep m19.T (sh_u2 m19.I 74 (Int32.toNatClampNeg r8) r9) m19.J)) rfl rfl rfl ?_
          exact kk
        obtain rfl := Option.some.inj e
        obtain ⟨rfl, rfl⟩ := tg
        exact sh_Lk_ret (i := .ireturn) rfl rfl rfl (by omega) (by omega)
      · refine sh_Lk_lift (T := m19.T) (I := sh_u2 m19.I 74 (Int32.toNatClampNeg r8) r9) (J := m19.J) (s := m19.s) (pc2 := 136) (lv2 := [(3, .int r8), (2, .int (m.I 66 21)), (0, .ref 67), (1, .int x1)]) (st2 := [.int 59, .ref 67]) (I2 := sh_u2 m19.I 74 (Int32.toNatClampNeg r8) r9) (J2 := m19.J) (fun hT v kk => ?_) ?_
        · refine sh_j0 (c := .lt) (off := (16)) (pc2 := 133) false rfl (sh_Bltf c) rfl ?_
          refine sh_w (i := (.aload_n 0)) (len := 1) (pc2 := 134) (lv2 := [(3, .int r8), (2, .int (m.I 66 21)), (0, .ref 67), (1, .int x1)]) (st2 := [.ref 67]) (h2 := (sh_rep m19.T (sh_u2 m19.I 74 (Int32.toNatClampNeg r8) r9) m19.J)) rfl rfl rfl ?_
          refine sh_w (i := (.bipush 59)) (len := 2) (pc2 := 136) (lv2 := [(3, .int r8), (2, .int (m.I 66 21)), (0, .ref 67), (1, .int x1)]) (st2 := [.int 59, .ref 67]) (h2 := (sh_rep m19.T (sh_u2 m19.I 74 (Int32.toNatClampNeg r8) r9) m19.J)) rfl rfl rfl ?_
          exact kk
        obtain ⟨r10, m20, e10, e⟩ := sh_bn_e e
        refine sh_Lk_cV (r := (some (.int (sh_b2 r10)))) (st2 := [.int (sh_b2 r10)]) (pc2 := 139) (k2 := 262) (a := 66) (as := [.ref 67, .int 59]) (rest := []) rfl rfl rfl (fun hT => (sh_s66 hT.st)) rfl rfl ⟨Nat.le_of_ble_eq_true rfl, Nat.le_of_ble_eq_true rfl⟩ (sl_262 e10 ⟨rfl, rfl⟩) rfl rfl (show 9 + 1 ≤ d + 1 + 1034 by omega) (show 8 + (2 + 11) + (222) ≤ 40 * (d + 1) + 40690 by omega) ?_
        rcases sh_ite e with ⟨c, e⟩ | ⟨c, e⟩
        · refine sh_Lk_lift (T := m20.T) (I := m20.I) (J := m20.J) (s := m20.s) (pc2 := 147) (lv2 := [(3, .int r8), (2, .int (m.I 66 21)), (0, .ref 67), (1, .int x1)]) (st2 := [.int r8]) (I2 := m20.I) (J2 := m20.J) (fun hT v kk => ?_) ?_
          · refine sh_j0 (c := .eq) (off := (7)) (pc2 := 142) false rfl (sh_Zeqf c) rfl ?_
            refine sh_w (i := (.iload_n 3)) (len := 1) (pc2 := 143) (lv2 := [(3, .int r8), (2, .int (m.I 66 21)), (0, .ref 67), (1, .int x1)]) (st2 := [.int r8]) (h2 := (sh_rep m20.T m20.I m20.J)) rfl rfl rfl ?_
            refine sh_w (i := (.goto 4)) (len := 3) (pc2 := 147) (lv2 := [(3, .int r8), (2, .int (m.I 66 21)), (0, .ref 67), (1, .int x1)]) (st2 := [.int r8]) (h2 := (sh_rep m20.T m20.I m20.J)) rfl rfl rfl ?_
            exact kk
          obtain rfl := Option.some.inj e
          obtain ⟨rfl, rfl⟩ := tg
          exact sh_Lk_ret (i := .ireturn) rfl rfl rfl (by omega) (by omega)
        · refine sh_Lk_lift (T := m20.T) (I := m20.I) (J := m20.J) (s := m20.s) (pc2 := 147) (lv2 := [(3, .int r8), (2, .int (m.I 66 21)), (0, .ref 67), (1, .int x1)]) (st2 := [.int (-1)]) (I2 := m20.I) (J2 := m20.J) (fun hT v kk => ?_) ?_
          · refine sh_j0 (c := .eq) (off := (7)) (pc2 := 146) true rfl (sh_Zeqt c) rfl ?_
            refine sh_w (i := (.iconst (-1))) (len := 1) (pc2 := 147) (lv2 := [(3, .int r8), (2, .int (m.I 66 21)), (0, .ref 67), (1, .int x1)]) (st2 := [.int (-1)]) (h2 := (sh_rep m20.T m20.I m20.J)) rfl rfl rfl ?_
            exact kk
          obtain rfl := Option.some.inj e
          obtain ⟨rfl, rfl⟩ := tg
          exact sh_Lk_ret (i := .ireturn) rfl rfl rfl (by omega) (by omega)
    · refine sh_Lk_lift (T := m.T) (I := sh_u2 m.I 66 21 ((m.I 66 21) + 1)) (J := m.J) (s := m.s) (pc2 := 153) (lv2 := [(2, .int (m.I 66 21)), (0, .ref 67), (1, .int x1)]) (st2 := [.ref 1000015, .int (m.I 66 21), .ref 67]) (I2 := sh_u2 m.I 66 21 ((m.I 66 21) + 1)) (J2 := m.J) (fun hT v kk => ?_) ?_
      · refine sh_j0 (c := .eq) (off := (48)) (pc2 := 148) true rfl (sh_Zeqt c) rfl ?_
        refine sh_w (i := (.aload_n 0)) (len := 1) (pc2 := 149) (lv2 := [(2, .int (m.I 66 21)), (0, .ref 67), (1, .int x1)]) (st2 := [.ref 67]) (h2 := (sh_rep m.T (sh_u2 m.I 66 21 ((m.I 66 21) + 1)) m.J)) rfl rfl rfl ?_
        refine sh_w (i := (.iload_n 2)) (len := 1) (pc2 := 150) (lv2 := [(2, .int (m.I 66 21)), (0, .ref 67), (1, .int x1)]) (st2 := [.int (m.I 66 21), .ref 67]) (h2 := (sh_rep m.T (sh_u2 m.I 66 21 ((m.I 66 21) + 1)) m.J)) rfl rfl rfl ?_
        refine sh_w (i := (.ldc_w 262)) (len := 3) (pc2 := 153) (lv2 := [(2, .int (m.I 66 21)), (0, .ref 67), (1, .int x1)]) (st2 := [.ref 1000015, .int (m.I 66 21), .ref 67]) (h2 := (sh_rep m.T (sh_u2 m.I 66 21 ((m.I 66 21) + 1)) m.J)) rfl rfl rfl ?_
        exact kk
      obtain ⟨r11, e11, e⟩ := sh_bc_e e
      refine sh_Lk_cV (r := (some (.int (sh_b2 r11)))) (st2 := [.int (sh_b2 r11)]) (pc2 := 156) (k2 := 256) (a := 66) (as := [.ref 67, .int (m.I 66 21), .ref 1000015]) (rest := []) rfl rfl rfl (fun hT => (sh_s66 hT.st)) rfl rfl ⟨Nat.le_of_ble_eq_true rfl, Nat.le_of_ble_eq_true rfl⟩ (sl_256 e11 ⟨rfl, rfl⟩) rfl rfl (show 30 + 1 ≤ d + 1 + 1034 by omega) (show 8 + (4 + 11) + (600) ≤ 40 * (d + 1) + 40690 by omega) ?_
      rcases sh_ite e with ⟨c, e⟩ | ⟨c, e⟩
      · refine sh_Lk_lift (T := m.T) (I := sh_u2 m.I 66 21 ((m.I 66 21) + 1)) (J := m.J) (s := m.s) (pc2 := 162) (lv2 := [(2, .int (m.I 66 21)), (0, .ref 67), (1, .int x1)]) (st2 := [.int x1, .int (m.I 66 21), .ref 67]) (I2 := sh_u2 m.I 66 21 ((m.I 66 21) + 1)) (J2 := m.J) (fun hT v kk => ?_) ?_
        · refine sh_j0 (c := .eq) (off := (10)) (pc2 := 159) false rfl (sh_Zeqf c) rfl ?_
          refine sh_w (i := (.aload_n 0)) (len := 1) (pc2 := 160) (lv2 := [(2, .int (m.I 66 21)), (0, .ref 67), (1, .int x1)]) (st2 := [.ref 67]) (h2 := (sh_rep m.T (sh_u2 m.I 66 21 ((m.I 66 21) + 1)) m.J)) rfl rfl rfl ?_
          refine sh_w (i := (.iload_n 2)) (len := 1) (pc2 := 161) (lv2 := [(2, .int (m.I 66 21)), (0, .ref 67), (1, .int x1)]) (st2 := [.int (m.I 66 21), .ref 67]) (h2 := (sh_rep m.T (sh_u2 m.I 66 21 ((m.I 66 21) + 1)) m.J)) rfl rfl rfl ?_
          refine sh_w (i := (.iload_n 1)) (len := 1) (pc2 := 162) (lv2 := [(2, .int (m.I 66 21)), (0, .ref 67), (1, .int x1)]) (st2 := [.int x1, .int (m.I 66 21), .ref 67]) (h2 := (sh_rep m.T (sh_u2 m.I 66 21 ((m.I 66 21) + 1)) m.J)) rfl rfl rfl ?_
          exact kk
        obtain ⟨r12, m22, e12, e⟩ := sh_bn_e e
        refine sh_Lk_cV (r := (some (.int r12))) (st2 := [.int r12]) (pc2 := 165) (k2 := 275) (a := 66) (as := [.ref 67, .int (m.I 66 21), .int x1]) (rest := []) rfl rfl rfl (fun hT => (sh_s66 hT.st)) rfl rfl ⟨Nat.le_of_ble_eq_true rfl, Nat.le_of_ble_eq_true rfl⟩ (hQ.f275 e12 ⟨rfl, rfl⟩) rfl rfl (show d + 1034 + 1 ≤ d + 1 + 1034 by omega) (show 8 + (4 + 11) + (40 * d + 40690) ≤ 40 * (d + 1) + 40690 by omega) ?_
        obtain rfl := Option.some.inj e
        obtain ⟨rfl, rfl⟩ := tg
        exact sh_Lk_ret (i := .ireturn) rfl rfl rfl (by omega) (by omega)
      · refine sh_Lk_lift (T := m.T) (I := sh_u2 m.I 66 21 ((m.I 66 21) + 1)) (J := m.J) (s := m.s) (pc2 := 171) (lv2 := [(2, .int (m.I 66 21)), (0, .ref 67), (1, .int x1)]) (st2 := [.ref 1000014, .int (m.I 66 21), .ref 67]) (I2 := sh_u2 m.I 66 21 ((m.I 66 21) + 1)) (J2 := m.J) (fun hT v kk => ?_) ?_
        · refine sh_j0 (c := .eq) (off := (10)) (pc2 := 166) true rfl (sh_Zeqt c) rfl ?_
          refine sh_w (i := (.aload_n 0)) (len := 1) (pc2 := 167) (lv2 := [(2, .int (m.I 66 21)), (0, .ref 67), (1, .int x1)]) (st2 := [.ref 67]) (h2 := (sh_rep m.T (sh_u2 m.I 66 21 ((m.I 66 21) + 1)) m.J)) rfl rfl rfl ?_
          refine sh_w (i := (.iload_n 2)) (len := 1) (pc2 := 168) (lv2 := [(2, .int (m.I 66 21)), (0, .ref 67), (1, .int x1)]) (st2 := [.int (m.I 66 21), .ref 67]) (h2 := (sh_rep m.T (sh_u2 m.I 66 21 ((m.I 66 21) + 1)) m.J)) rfl rfl rfl ?_
          refine sh_w (i := (.ldc_w 260)) (len := 3) (pc2 := 171) (lv2 := [(2, .int (m.I 66 21)), (0, .ref 67), (1, .int x1)]) (st2 := [.ref 1000014, .int (m.I 66 21), .ref 67]) (h2 := (sh_rep m.T (sh_u2 m.I 66 21 ((m.I 66 21) + 1)) m.J)) rfl rfl rfl ?_
          exact kk
        obtain ⟨r13, e13, e⟩ := sh_bc_e e
        refine sh_Lk_cV (r := (some (.int (sh_b2 r13)))) (st2 := [.int (sh_b2 r13)]) (pc2 := 174) (k2 := 256) (a := 66) (as := [.ref 67, .int (m.I 66 21), .ref 1000014]) (rest := []) rfl rfl rfl (fun hT => (sh_s66 hT.st)) rfl rfl ⟨Nat.le_of_ble_eq_true rfl, Nat.le_of_ble_eq_true rfl⟩ (sl_256 e13 ⟨rfl, rfl⟩) rfl rfl (show 30 + 1 ≤ d + 1 + 1034 by omega) (show 8 + (4 + 11) + (600) ≤ 40 * (d + 1) + 40690 by omega) ?_
        rcases sh_ite e with ⟨c, e⟩ | ⟨c, e⟩
        · refine sh_Lk_lift (T := m.T) (I := sh_u2 m.I 66 21 ((m.I 66 21) + 1)) (J := m.J) (s := m.s) (pc2 := 180) (lv2 := [(2, .int (m.I 66 21)), (0, .ref 67), (1, .int x1)]) (st2 := [.int x1, .int (m.I 66 21), .ref 67]) (I2 := sh_u2 m.I 66 21 ((m.I 66 21) + 1)) (J2 := m.J) (fun hT v kk => ?_) ?_
          · refine sh_j0 (c := .eq) (off := (10)) (pc2 := 177) false rfl (sh_Zeqf c) rfl ?_
            refine sh_w (i := (.aload_n 0)) (len := 1) (pc2 := 178) (lv2 := [(2, .int (m.I 66 21)), (0, .ref 67), (1, .int x1)]) (st2 := [.ref 67]) (h2 := (sh_rep m.T (sh_u2 m.I 66 21 ((m.I 66 21) + 1)) m.J)) rfl rfl rfl ?_
            refine sh_w (i := (.iload_n 2)) (len := 1) (pc2 := 179) (lv2 := [(2, .int (m.I 66 21)), (0, .ref 67), (1, .int x1)]) (st2 := [.int (m.I 66 21), .ref 67]) (h2 := (sh_rep m.T (sh_u2 m.I 66 21 ((m.I 66 21) + 1)) m.J)) rfl rfl rfl ?_
            refine sh_w (i := (.iload_n 1)) (len := 1) (pc2 := 180) (lv2 := [(2, .int (m.I 66 21)), (0, .ref 67), (1, .int x1)]) (st2 := [.int x1, .int (m.I 66 21), .ref 67]) (h2 := (sh_rep m.T (sh_u2 m.I 66 21 ((m.I 66 21) + 1)) m.J)) rfl rfl rfl ?_
            exact kk
          obtain ⟨r14, m24, e14, e⟩ := sh_bn_e e
          refine sh_Lk_cV (r := (some (.int r14))) (st2 := [.int r14]) (pc2 := 183) (k2 := 276) (a := 66) (as := [.ref 67, .int (m.I 66 21), .int x1]) (rest := []) rfl rfl rfl (fun hT => (sh_s66 hT.st)) rfl rfl ⟨Nat.le_of_ble_eq_true rfl, Nat.le_of_ble_eq_true rfl⟩ (hQ.f276 e14 ⟨rfl, rfl⟩) rfl rfl (show d + 1034 + 1 ≤ d + 1 + 1034 by omega) (show 8 + (4 + 11) + (40 * d + 40690) ≤ 40 * (d + 1) + 40690 by omega) ?_
          obtain rfl := Option.some.inj e
          obtain ⟨rfl, rfl⟩ := tg
          exact sh_Lk_ret (i := .ireturn) rfl rfl rfl (by omega) (by omega)
        · refine sh_Lk_lift (T := m.T) (I := sh_u2 m.I 66 21 ((m.I 66 21) + 1)) (J := m.J) (s := m.s) (pc2 := 190) (lv2 := [(2, .int (m.I 66 21)), (0, .ref 67), (1, .int x1)]) (st2 := [.int (-1), .int (-1), .int (m.I 66 21), .int 21, .ref 67]) (I2 := sh_u2 m.I 66 21 ((m.I 66 21) + 1)) (J2 := m.J) (fun hT v kk => ?_) ?_
          · refine sh_j0 (c := .eq) (off := (10)) (pc2 := 184) true rfl (sh_Zeqt c) rfl ?_
            refine sh_w (i := (.aload_n 0)) (len := 1) (pc2 := 185) (lv2 := [(2, .int (m.I 66 21)), (0, .ref 67), (1, .int x1)]) (st2 := [.ref 67]) (h2 := (sh_rep m.T (sh_u2 m.I 66 21 ((m.I 66 21) + 1)) m.J)) rfl rfl rfl ?_
            refine sh_w (i := (.bipush 21)) (len := 2) (pc2 := 187) (lv2 := [(2, .int (m.I 66 21)), (0, .ref 67), (1, .int x1)]) (st2 := [.int 21, .ref 67]) (h2 := (sh_rep m.T (sh_u2 m.I 66 21 ((m.I 66 21) + 1)) m.J)) rfl rfl rfl ?_
            refine sh_w (i := (.iload_n 2)) (len := 1) (pc2 := 188) (lv2 := [(2, .int (m.I 66 21)), (0, .ref 67), (1, .int x1)]) (st2 := [.int (m.I 66 21), .int 21, .ref 67]) (h2 := (sh_rep m.T (sh_u2 m.I 66 21 ((m.I 66 21) + 1)) m.J)) rfl rfl rfl ?_
            refine sh_w (i := (.iconst (-1))) (len := 1) (pc2 := 189) (lv2 := [(2, .int (m.I 66 21)), (0, .ref 67), (1, .int x1)]) (st2 := [.int (-1), .int (m.I 66 21), .int 21, .ref 67]) (h2 := (sh_rep m.T (sh_u2 m.I 66 21 ((m.I 66 21) + 1)) m.J)) rfl rfl rfl ?_
            refine sh_w (i := (.iconst (-1))) (len := 1) (pc2 := 190) (lv2 := [(2, .int (m.I 66 21)), (0, .ref 67), (1, .int x1)]) (st2 := [.int (-1), .int (-1), .int (m.I 66 21), .int 21, .ref 67]) (h2 := (sh_rep m.T (sh_u2 m.I 66 21 ((m.I 66 21) + 1)) m.J)) rfl rfl rfl ?_
            exact kk
          obtain ⟨r15, m25, e15, e⟩ := sh_bn_e e
          refine sh_Lk_cV (r := (some (.int r15))) (st2 := [.int r15]) (pc2 := 193) (k2 := 266) (a := 66) (as := [.ref 67, .int 21, .int (m.I 66 21), .int (-1), .int (-1)]) (rest := []) rfl rfl rfl (fun hT => (sh_s66 hT.st)) rfl rfl ⟨Nat.le_of_ble_eq_true rfl, Nat.le_of_ble_eq_true rfl⟩ (sl_266 e15 ⟨rfl, rfl⟩) rfl rfl (show 8 + 1 ≤ d + 1 + 1034 by omega) (show 8 + (5 + 11) + (200) ≤ 40 * (d + 1) + 40690 by omega) ?_
          refine sh_Lk_lift (T := m25.T) (I := m25.I) (J := m25.J) (s := m25.s) (pc2 := 202) (lv2 := [(3, .int r15), (2, .int (m.I 66 21)), (0, .ref 67), (1, .int x1)]) (st2 := [.int (m25.I 66 21), .ref 69]) (I2 := m25.I) (J2 := m25.J) (fun hT v kk => ?_) ?_
          · refine sh_w (i := (.istore_n 3)) (len := 1) (pc2 := 194) (lv2 := [(3, .int r15), (2, .int (m.I 66 21)), (0, .ref 67), (1, .int x1)]) (st2 := []) (h2 := (sh_rep m25.T m25.I m25.J)) rfl rfl rfl ?_
            refine sh_w (i := (.aload_n 0)) (len := 1) (pc2 := 195) (lv2 := [(3, .int r15), (2, .int (m.I 66 21)), (0, .ref 67), (1, .int x1)]) (st2 := [.ref 67]) (h2 := (sh_rep m25.T m25.I m25.J)) rfl rfl rfl ?_
            refine sh_gR1 (len := 3) (x := .ref 69) (pc2 := 198) rfl rfl (sh_s66 hT.st) rfl rfl ?_
            refine sh_w (i := (.aload_n 0)) (len := 1) (pc2 := 199) (lv2 := [(3, .int r15), (2, .int (m.I 66 21)), (0, .ref 67), (1, .int x1)]) (st2 := [.ref 67, .ref 69]) (h2 := (sh_rep m25.T m25.I m25.J)) rfl rfl rfl ?_
            refine sh_gI1 (len := 3) (x := m25.I 66 21) (pc2 := 202) rfl rfl (sh_s66 hT.st) rfl rfl rfl ?_
            exact kk
          obtain ⟨c, e⟩ := sh_gd e
          refine sh_Lk_lift (T := m25.T) (I := m25.I) (J := m25.J) (s := m25.s) (pc2 := 205) (lv2 := [(3, .int r15), (2, .int (m.I 66 21)), (0, .ref 67), (1, .int x1)]) (st2 := [.int 91, .int (m25.I 68 (Int32.toNatClampNeg (m25.I 66 21)))]) (I2 := m25.I) (J2 := m25.J) (fun hT v kk => ?_) ?_
          · refine sh_ia1 (x := m25.I 68 (Int32.toNatClampNeg (m25.I 66 21))) (pc2 := 203) rfl (sh_s68 hT.st) (sh_okb1 c) (sh_okb2 c) rfl rfl ?_
            refine sh_w (i := (.bipush 91)) (len := 2) (pc2 := 205) (lv2 := [(3, .int r15), (2, .int (m.I 66 21)), (0, .ref 67), (1, .int x1)]) (st2 := [.int 91, .int (m25.I 68 (Int32.toNatClampNeg (m25.I 66 21)))]) (h2 := (sh_rep m25.T m25.I m25.J)) rfl rfl rfl ?_
            exact kk
          rcases sh_ite e with ⟨c, e⟩ | ⟨c, e⟩
          · refine sh_Lk_lift (T := m25.T) (I := m25.I) (J := m25.J) (s := m25.s) (pc2 := 217) (lv2 := [(3, .int r15), (2, .int (m.I 66 21)), (0, .ref 67), (1, .int x1)]) (st2 := [.int (m25.I 66 21), .int r15, .ref 77]) (I2 := m25.I) (J2 := m25.J) (fun hT v kk => ?_) ?_
            · refine sh_jc (c := .ne) (off := (56)) (pc2 := 208) false rfl (sh_Bnef c) rfl ?_
              refine sh_w (i := (.aload_n 0)) (len := 1) (pc2 := 209) (lv2 := [(3, .int r15), (2, .int (m.I 66 21)), (0, .ref 67), (1, .int x1)]) (st2 := [.ref 67]) (h2 := (sh_rep m25.T m25.I m25.J)) rfl rfl rfl ?_
              refine sh_gR1 (len := 3) (x := .ref 77) (pc2 := 212) rfl rfl (sh_s66 hT.st) rfl rfl ?_
              refine sh_w (i := (.iload_n 3)) (len := 1) (pc2 := 213) (lv2 := [(3, .int r15), (2, .int (m.I 66 21)), (0, .ref 67), (1, .int x1)]) (st2 := [.int r15, .ref 77]) (h2 := (sh_rep m25.T m25.I m25.J)) rfl rfl rfl ?_
              refine sh_w (i := (.aload_n 0)) (len := 1) (pc2 := 214) (lv2 := [(3, .int r15), (2, .int (m.I 66 21)), (0, .ref 67), (1, .int x1)]) (st2 := [.ref 67, .int r15, .ref 77]) (h2 := (sh_rep m25.T m25.I m25.J)) rfl rfl rfl ?_
              refine sh_gI1 (len := 3) (x := m25.I 66 21) (pc2 := 217) rfl rfl (sh_s66 hT.st) rfl rfl rfl ?_
              exact kk
            obtain ⟨c, e⟩ := sh_gd e
            refine sh_Lk_lift (T := m25.T) (I := m25.I) (J := m25.J) (s := m25.s) (pc2 := 237) (lv2 := [(3, .int r15), (2, .int (m.I 66 21)), (0, .ref 67), (1, .int x1)]) (st2 := [.int (x1 + 1), .ref 67, .int r15, .ref 76]) (I2 := sh_u2 (sh_u2 m25.I 76 (Int32.toNatClampNeg r15) (m25.I 66 21)) 66 21 ((m25.I 66 21) + 1)) (J2 := m25.J) (fun hT v kk => ?_) ?_
            · refine sh_is1 (x := m25.I 66 21) (i := r15) (pc2 := 218) rfl (sh_s76 hT.st) (sh_okb1 c) (sh_okb2 c) rfl ?_
              refine sh_w (i := (.aload_n 0)) (len := 1) (pc2 := 219) (lv2 := [(3, .int r15), (2, .int (m.I 66 21)), (0, .ref 67), (1, .int x1)]) (st2 := [.ref 67]) (h2 := (sh_rep m25.T (sh_u2 m25.I 76 (Int32.toNatClampNeg r15) (m25.I 66 21)) m25.J)) rfl rfl rfl ?_
              refine sh_w (i := .dup) (len := 1) (pc2 := 220) (lv2 := [(3, .int r15), (2, .int (m.I 66 21)), (0, .ref 67), (1, .int x1)]) (st2 := [.ref 67, .ref 67]) (h2 := (sh_rep m25.T (sh_u2 m25.I 76 (Int32.toNatClampNeg r15) (m25.I 66 21)) m25.J)) rfl rfl rfl ?_
              refine sh_gI1 (len := 3) (x := m25.I 66 21) (pc2 := 223) rfl rfl (sh_s66 hT.st) rfl rfl rfl ?_
              refine sh_w (i := (.iconst 1)) (len := 1) (pc2 := 224) (lv2 := [(3, .int r15), (2, .int (m.I 66 21)), (0, .ref 67), (1, .int x1)]) (st2 := [.int 1, .int (m25.I 66 21), .ref 67]) (h2 := (sh_rep m25.T (sh_u2 m25.I 76 (Int32.toNatClampNeg r15) (m25.I 66 21)) m25.J)) rfl rfl rfl ?_
              refine sh_w (i := .iadd) (len := 1) (pc2 := 225) (lv2 := [(3, .int r15), (2, .int (m.I 66 21)), (0, .ref 67), (1, .int x1)]) (st2 := [.int ((m25.I 66 21) + 1), .ref 67]) (h2 := (sh_rep m25.T (sh_u2 m25.I 76 (Int32.toNatClampNeg r15) (m25.I 66 21)) m25.J)) rfl rfl rfl ?_
              refine sh_pI1 (x := (m25.I 66 21) + 1) (pc2 := 228) rfl rfl (sh_s66 hT.st) rfl rfl rfl rfl ?_
              refine sh_w (i := (.aload_n 0)) (len := 1) (pc2 := 229) (lv2 := [(3, .int r15), (2, .int (m.I 66 21)), (0, .ref 67), (1, .int x1)]) (st2 := [.ref 67]) (h2 := (sh_rep m25.T (sh_u2 (sh_u2 m25.I 76 (Int32.toNatClampNeg r15) (m25.I 66 21)) 66 21 ((m25.I 66 21) + 1)) m25.J)) rfl rfl rfl ?_
              refine sh_gR1 (len := 3) (x := .ref 76) (pc2 := 232) rfl rfl (sh_s66 hT.st) rfl rfl ?_
              refine sh_w (i := (.iload_n 3)) (len := 1) (pc2 := 233) (lv2 := [(3, .int r15), (2, .int (m.I 66 21)), (0, .ref 67), (1, .int x1)]) (st2 := [.int r15, .ref 76]) (h2 := (sh_rep m25.T (sh_u2 (sh_u2 m25.I 76 (Int32.toNatClampNeg r15) (m25.I 66 21)) 66 21 ((m25.I 66 21) + 1)) m25.J)) rfl rfl rfl ?_
              refine sh_w (i := (.aload_n 0)) (len := 1) (pc2 := 234) (lv2 := [(3, .int r15), (2, .int (m.I 66 21)), (0, .ref 67), (1, .int x1)]) (st2 := [.ref 67, .int r15, .ref 76]) (h2 := (sh_rep m25.T (sh_u2 (sh_u2 m25.I 76 (Int32.toNatClampNeg r15) (m25.I 66 21)) 66 21 ((m25.I 66 21) + 1)) m25.J)) rfl rfl rfl ?_
              refine sh_w (i := (.iload_n 1)) (len := 1) (pc2 := 235) (lv2 := [(3, .int r15), (2, .int (m.I 66 21)), (0, .ref 67), (1, .int x1)]) (st2 := [.int x1, .ref 67, .int r15, .ref 76]) (h2 := (sh_rep m25.T (sh_u2 (sh_u2 m25.I 76 (Int32.toNatClampNeg r15) (m25.I 66 21)) 66 21 ((m25.I 66 21) + 1)) m25.J)) rfl rfl rfl ?_
              refine sh_w (i := (.iconst 1)) (len := 1) (pc2 := 236) (lv2 := [(3, .int r15), (2, .int (m.I 66 21)), (0, .ref 67), (1, .int x1)]) (st2 := [.int 1, .int x1, .ref 67, .int r15, .ref 76]) (h2 := (sh_rep m25.T (sh_u2 (sh_u2 m25.I 76 (Int32.toNatClampNeg r15) (m25.I 66 21)) 66 21 ((m25.I 66 21) + 1)) m25.J)) rfl rfl rfl ?_
              refine sh_w (i := .iadd) (len := 1) (pc2 := 237) (lv2 := [(3, .int r15), (2, .int (m.I 66 21)), (0, .ref 67), (1, .int x1)]) (st2 := [.int (x1 + 1), .ref 67, .int r15, .ref 76]) (h2 := (sh_rep m25.T (sh_u2 (sh_u2 m25.I 76 (Int32.toNatClampNeg r15) (m25.I 66 21)) 66 21 ((m25.I 66 21) + 1)) m25.J)) rfl rfl rfl ?_
              exact kk
            obtain ⟨r16, m26, e16, e⟩ := sh_bn_e e
            refine sh_Lk_cV (r := (some (.int r16))) (st2 := [.int r16, .int r15, .ref 76]) (pc2 := 240) (k2 := 267) (a := 66) (as := [.ref 67, .int (x1 + 1)]) (rest := [.int r15, .ref 76]) rfl rfl rfl (fun hT => (sh_s66 hT.st)) rfl rfl ⟨Nat.le_of_ble_eq_true rfl, Nat.le_of_ble_eq_true rfl⟩ ((sq_240_l sh_dp).f267 e16 ⟨rfl, rfl⟩) rfl rfl (show 1033 + 1 ≤ d + 1 + 1034 by omega) (show 8 + (2 + 11) + (40669) ≤ 40 * (d + 1) + 40690 by omega) ?_
            obtain ⟨c, e⟩ := sh_gd e
            refine sh_Lk_lift (T := m26.T) (I := m26.I) (J := m26.J) (s := m26.s) (pc2 := 246) (lv2 := [(3, .int r15), (2, .int (m.I 66 21)), (0, .ref 67), (1, .int x1)]) (st2 := [.int r15, .ref 76]) (I2 := sh_u2 m26.I 75 (Int32.toNatClampNeg r15) r16) (J2 := m26.J) (fun hT v kk => ?_) ?_
            · refine sh_is1 (x := r16) (i := r15) (pc2 := 241) rfl (sh_s75 hT.st) (sh_okb1 c) (sh_okb2 c) rfl ?_
              refine sh_w (i := (.aload_n 0)) (len := 1) (pc2 := 242) (lv2 := [(3, .int r15), (2, .int (m.I 66 21)), (0, .ref 67), (1, .int x1)]) (st2 := [.ref 67]) (h2 := (sh_rep m26.T (sh_u2 m26.I 75 (Int32.toNatClampNeg r15) r16) m26.J)) rfl rfl rfl ?_
              refine sh_gR1 (len := 3) (x := .ref 76) (pc2 := 245) rfl rfl (sh_s66 hT.st) rfl rfl ?_
              refine sh_w (i := (.iload_n 3)) (len := 1) (pc2 := 246) (lv2 := [(3, .int r15), (2, .int (m.I 66 21)), (0, .ref 67), (1, .int x1)]) (st2 := [.int r15, .ref 76]) (h2 := (sh_rep m26.T (sh_u2 m26.I 75 (Int32.toNatClampNeg r15) r16) m26.J)) rfl rfl rfl ?_
              exact kk
            obtain ⟨c, e⟩ := sh_gd e
            refine sh_Lk_lift (T := m26.T) (I := sh_u2 m26.I 75 (Int32.toNatClampNeg r15) r16) (J := m26.J) (s := m26.s) (pc2 := 247) (lv2 := [(3, .int r15), (2, .int (m.I 66 21)), (0, .ref 67), (1, .int x1)]) (st2 := [.int ((sh_u2 m26.I 75 (Int32.toNatClampNeg r15) r16) 75 (Int32.toNatClampNeg r15))]) (I2 := sh_u2 m26.I 75 (Int32.toNatClampNeg r15) r16) (J2 := m26.J) (fun hT v kk => ?_) ?_
            · refine sh_ia1 (x := (sh_u2 m26.I 75 (Int32.toNatClampNeg r15) r16) 75 (Int32.toNatClampNeg r15)) (pc2 := 247) rfl (sh_s75 hT.st) (sh_okb1 c) (sh_okb2 c) rfl rfl ?_
              exact kk
            rcases sh_ite e with ⟨c, e⟩ | ⟨c, e⟩
            · refine sh_Lk_lift (T := m26.T) (I := sh_u2 m26.I 75 (Int32.toNatClampNeg r15) r16) (J := m26.J) (s := m26.s) (pc2 := 260) (lv2 := [(3, .int r15), (2, .int (m.I 66 21)), (0, .ref 67), (1, .int x1)]) (st2 := [.int (-1)]) (I2 := sh_u2 m26.I 75 (Int32.toNatClampNeg r15) r16) (J2 := m26.J) (fun hT v kk => ?_) ?_
              · refine sh_j0 (c := .lt) (off := (12)) (pc2 := 259) true rfl (sh_Bltt c) rfl ?_
                refine sh_w (i := (.iconst (-1))) (len := 1) (pc2 := 260) (lv2 := [(3, .int r15), (2, .int (m.I 66 21)), (0, .ref 67), (1, .int x1)]) (st2 := [.int (-1)]) (h2 := (sh_rep m26.T (sh_u2 m26.I 75 (Int32.toNatClampNeg r15) r16) m26.J)) rfl rfl rfl ?_
                exact kk
              obtain rfl := Option.some.inj e
              obtain ⟨rfl, rfl⟩ := tg
              exact sh_Lk_ret (i := .ireturn) rfl rfl rfl (by omega) (by omega)
            · refine sh_Lk_lift (T := m26.T) (I := sh_u2 m26.I 75 (Int32.toNatClampNeg r15) r16) (J := m26.J) (s := m26.s) (pc2 := 253) (lv2 := [(3, .int r15), (2, .int (m.I 66 21)), (0, .ref 67), (1, .int x1)]) (st2 := [.int 93, .ref 67]) (I2 := sh_u2 m26.I 75 (Int32.toNatClampNeg r15) r16) (J2 := m26.J) (fun hT v kk => ?_) ?_
              · refine sh_j0 (c := .lt) (off := (12)) (pc2 := 250) false rfl (sh_Bltf c) rfl ?_
                refine sh_w (i := (.aload_n 0)) (len := 1) (pc2 := 251) (lv2 := [(3, .int r15), (2, .int (m.I 66 21)), (0, .ref 67), (1, .int x1)]) (st2 := [.ref 67]) (h2 := (sh_rep m26.T (sh_u2 m26.I 75 (Int32.toNatClampNeg r15) r16) m26.J)) rfl rfl rfl ?_
                refine sh_w (i := (.bipush 93)) (len := 2) (pc2 := 253) (lv2 := [(3, .int r15), (2, .int (m.I 66 21)), (0, .ref 67), (1, .int x1)]) (st2 := [.int 93, .ref 67]) (h2 := (sh_rep m26.T (sh_u2 m26.I 75 (Int32.toNatClampNeg r15) r16) m26.J)) rfl rfl rfl ?_
                exact kk
              obtain ⟨r17, m27, e17, e⟩ := sh_bn_e e
              refine sh_Lk_cV (r := (some (.int (sh_b2 r17)))) (st2 := [.int (sh_b2 r17)]) (pc2 := 256) (k2 := 262) (a := 66) (as := [.ref 67, .int 93]) (rest := []) rfl rfl rfl (fun hT => (sh_s66 hT.st)) rfl rfl ⟨Nat.le_of_ble_eq_true rfl, Nat.le_of_ble_eq_true rfl⟩ (sl_262 e17 ⟨rfl, rfl⟩) rfl rfl (show 9 + 1 ≤ d + 1 + 1034 by omega) (show 8 + (2 + 11) + (222) ≤ 40 * (d + 1) + 40690 by omega) ?_
              rcases sh_ite e with ⟨c, e⟩ | ⟨c, e⟩
              · refine sh_Lk_lift (T := m27.T) (I := m27.I) (J := m27.J) (s := m27.s) (pc2 := 261) (lv2 := [(3, .int r15), (2, .int (m.I 66 21)), (0, .ref 67), (1, .int x1)]) (st2 := []) (I2 := m27.I) (J2 := m27.J) (fun hT v kk => ?_) ?_
                · refine sh_j0 (c := .ne) (off := (5)) (pc2 := 261) true rfl (sh_Znet c) rfl ?_
                  exact kk
                exact sh_Lk_sub (sh_sub_c rfl (sh_sub_c rfl (sh_sub_c rfl (sh_sub_n)))) (sl_265_261 hQ e tg)
              · refine sh_Lk_lift (T := m27.T) (I := m27.I) (J := m27.J) (s := m27.s) (pc2 := 260) (lv2 := [(3, .int r15), (2, .int (m.I 66 21)), (0, .ref 67), (1, .int x1)]) (st2 := [.int (-1)]) (I2 := m27.I) (J2 := m27.J) (fun hT v kk => ?_) ?_
                · refine sh_j0 (c := .ne) (off := (5)) (pc2 := 259) false rfl (sh_Znef c) rfl ?_
                  refine sh_w (i := (.iconst (-1))) (len := 1) (pc2 := 260) (lv2 := [(3, .int r15), (2, .int (m.I 66 21)), (0, .ref 67), (1, .int x1)]) (st2 := [.int (-1)]) (h2 := (sh_rep m27.T m27.I m27.J)) rfl rfl rfl ?_
                  exact kk
                obtain rfl := Option.some.inj e
                obtain ⟨rfl, rfl⟩ := tg
                exact sh_Lk_ret (i := .ireturn) rfl rfl rfl (by omega) (by omega)
          · refine sh_Lk_lift (T := m25.T) (I := m25.I) (J := m25.J) (s := m25.s) (pc2 := 261) (lv2 := [(3, .int r15), (2, .int (m.I 66 21)), (0, .ref 67), (1, .int x1)]) (st2 := []) (I2 := m25.I) (J2 := m25.J) (fun hT v kk => ?_) ?_
            · refine sh_jc (c := .ne) (off := (56)) (pc2 := 261) true rfl (sh_Bnet c) rfl ?_
              exact kk
            exact sh_Lk_sub (sh_sub_c rfl (sh_sub_c rfl (sh_sub_c rfl (sh_sub_n)))) (sl_265_261 hQ e tg)
theorem sl_275 {Q : sh_Q242} {d : Nat} {x1 : Int32} {x2 : Int32} {m m2 : sh_X} {o : Outcome} {z : (Int32 × sh_X)} (hQ : sh_QL242 Q d) (e : sf_275 Q x1 x2 m = some z) (tg : (sh_tI o m2) z) : sh_Lk 275 0 [(0, .ref 67), (1, .int x1), (2, .int x2)] [] m o m2 (d + 1 + 1034) (40 * (d + 1) + 40690) := by
  unfold sf_275 at e
  refine sh_Lk_lift (T := m.T) (I := m.I) (J := m.J) (s := m.s) (pc2 := 6) (lv2 := [(0, .ref 67), (1, .int x1), (2, .int x2)]) (st2 := [.int (-1), .int (-1), .int x1, .int 22, .ref 67]) (I2 := m.I) (J2 := m.J) (fun hT v kk => ?_) ?_
  · refine sh_w (i := (.aload_n 0)) (len := 1) (pc2 := 1) (lv2 := [(0, .ref 67), (1, .int x1), (2, .int x2)]) (st2 := [.ref 67]) (h2 := (sh_rep m.T m.I m.J)) rfl rfl rfl ?_
    refine sh_w (i := (.bipush 22)) (len := 2) (pc2 := 3) (lv2 := [(0, .ref 67), (1, .int x1), (2, .int x2)]) (st2 := [.int 22, .ref 67]) (h2 := (sh_rep m.T m.I m.J)) rfl rfl rfl ?_
    refine sh_w (i := (.iload_n 1)) (len := 1) (pc2 := 4) (lv2 := [(0, .ref 67), (1, .int x1), (2, .int x2)]) (st2 := [.int x1, .int 22, .ref 67]) (h2 := (sh_rep m.T m.I m.J)) rfl rfl rfl ?_
    refine sh_w (i := (.iconst (-1))) (len := 1) (pc2 := 5) (lv2 := [(0, .ref 67), (1, .int x1), (2, .int x2)]) (st2 := [.int (-1), .int x1, .int 22, .ref 67]) (h2 := (sh_rep m.T m.I m.J)) rfl rfl rfl ?_
    refine sh_w (i := (.iconst (-1))) (len := 1) (pc2 := 6) (lv2 := [(0, .ref 67), (1, .int x1), (2, .int x2)]) (st2 := [.int (-1), .int (-1), .int x1, .int 22, .ref 67]) (h2 := (sh_rep m.T m.I m.J)) rfl rfl rfl ?_
    exact kk
  obtain ⟨r1, m11, e1, e⟩ := sh_bn_e e
  refine sh_Lk_cV (r := (some (.int r1))) (st2 := [.int r1]) (pc2 := 9) (k2 := 266) (a := 66) (as := [.ref 67, .int 22, .int x1, .int (-1), .int (-1)]) (rest := []) rfl rfl rfl (fun hT => (sh_s66 hT.st)) rfl rfl ⟨Nat.le_of_ble_eq_true rfl, Nat.le_of_ble_eq_true rfl⟩ (sl_266 e1 ⟨rfl, rfl⟩) rfl rfl (show 8 + 1 ≤ d + 1 + 1034 by omega) (show 8 + (5 + 11) + (200) ≤ 40 * (d + 1) + 40690 by omega) ?_
  refine sh_Lk_lift (T := m11.T) (I := m11.I) (J := m11.J) (s := m11.s) (pc2 := 17) (lv2 := [(3, .int r1), (0, .ref 67), (1, .int x1), (2, .int x2)]) (st2 := [.int x2, .ref 67, .int r1, .ref 75]) (I2 := m11.I) (J2 := m11.J) (fun hT v kk => ?_) ?_
  · refine sh_w (i := (.istore_n 3)) (len := 1) (pc2 := 10) (lv2 := [(3, .int r1), (0, .ref 67), (1, .int x1), (2, .int x2)]) (st2 := []) (h2 := (sh_rep m11.T m11.I m11.J)) rfl rfl rfl ?_
    refine sh_w (i := (.aload_n 0)) (len := 1) (pc2 := 11) (lv2 := [(3, .int r1), (0, .ref 67), (1, .int x1), (2, .int x2)]) (st2 := [.ref 67]) (h2 := (sh_rep m11.T m11.I m11.J)) rfl rfl rfl ?_
    refine sh_gR1 (len := 3) (x := .ref 75) (pc2 := 14) rfl rfl (sh_s66 hT.st) rfl rfl ?_
    refine sh_w (i := (.iload_n 3)) (len := 1) (pc2 := 15) (lv2 := [(3, .int r1), (0, .ref 67), (1, .int x1), (2, .int x2)]) (st2 := [.int r1, .ref 75]) (h2 := (sh_rep m11.T m11.I m11.J)) rfl rfl rfl ?_
    refine sh_w (i := (.aload_n 0)) (len := 1) (pc2 := 16) (lv2 := [(3, .int r1), (0, .ref 67), (1, .int x1), (2, .int x2)]) (st2 := [.ref 67, .int r1, .ref 75]) (h2 := (sh_rep m11.T m11.I m11.J)) rfl rfl rfl ?_
    refine sh_w (i := (.iload_n 2)) (len := 1) (pc2 := 17) (lv2 := [(3, .int r1), (0, .ref 67), (1, .int x1), (2, .int x2)]) (st2 := [.int x2, .ref 67, .int r1, .ref 75]) (h2 := (sh_rep m11.T m11.I m11.J)) rfl rfl rfl ?_
    exact kk
  obtain ⟨r2, m12, e2, e⟩ := sh_bn_e e
  refine sh_Lk_cV (r := (some (.int r2))) (st2 := [.int r2, .int r1, .ref 75]) (pc2 := 20) (k2 := 267) (a := 66) (as := [.ref 67, .int x2]) (rest := [.int r1, .ref 75]) rfl rfl rfl (fun hT => (sh_s66 hT.st)) rfl rfl ⟨Nat.le_of_ble_eq_true rfl, Nat.le_of_ble_eq_true rfl⟩ ((sq_240_l sh_dp).f267 e2 ⟨rfl, rfl⟩) rfl rfl (show 1033 + 1 ≤ d + 1 + 1034 by omega) (show 8 + (2 + 11) + (40669) ≤ 40 * (d + 1) + 40690 by omega) ?_
  obtain ⟨c, e⟩ := sh_gd e
  refine sh_Lk_lift (T := m12.T) (I := m12.I) (J := m12.J) (s := m12.s) (pc2 := 26) (lv2 := [(3, .int r1), (0, .ref 67), (1, .int x1), (2, .int x2)]) (st2 := [.int r1, .ref 75]) (I2 := sh_u2 m12.I 74 (Int32.toNatClampNeg r1) r2) (J2 := m12.J) (fun hT v kk => ?_) ?_
  · refine sh_is1 (x := r2) (i := r1) (pc2 := 21) rfl (sh_s74 hT.st) (sh_okb1 c) (sh_okb2 c) rfl ?_
    refine sh_w (i := (.aload_n 0)) (len := 1) (pc2 := 22) (lv2 := [(3, .int r1), (0, .ref 67), (1, .int x1), (2, .int x2)]) (st2 := [.ref 67]) (h2 := (sh_rep m12.T (sh_u2 m12.I 74 (Int32.toNatClampNeg r1) r2) m12.J)) rfl rfl rfl ?_
    refine sh_gR1 (len := 3) (x := .ref 75) (pc2 := 25) rfl rfl (sh_s66 hT.st) rfl rfl ?_
    refine sh_w (i := (.iload_n 3)) (len := 1) (pc2 := 26) (lv2 := [(3, .int r1), (0, .ref 67), (1, .int x1), (2, .int x2)]) (st2 := [.int r1, .ref 75]) (h2 := (sh_rep m12.T (sh_u2 m12.I 74 (Int32.toNatClampNeg r1) r2) m12.J)) rfl rfl rfl ?_
    exact kk
  obtain ⟨c, e⟩ := sh_gd e
  refine sh_Lk_lift (T := m12.T) (I := sh_u2 m12.I 74 (Int32.toNatClampNeg r1) r2) (J := m12.J) (s := m12.s) (pc2 := 27) (lv2 := [(3, .int r1), (0, .ref 67), (1, .int x1), (2, .int x2)]) (st2 := [.int ((sh_u2 m12.I 74 (Int32.toNatClampNeg r1) r2) 74 (Int32.toNatClampNeg r1))]) (I2 := sh_u2 m12.I 74 (Int32.toNatClampNeg r1) r2) (J2 := m12.J) (fun hT v kk => ?_) ?_
  · refine sh_ia1 (x := (sh_u2 m12.I 74 (Int32.toNatClampNeg r1) r2) 74 (Int32.toNatClampNeg r1)) (pc2 := 27) rfl (sh_s74 hT.st) (sh_okb1 c) (sh_okb2 c) rfl rfl ?_
    exact kk
  rcases sh_ite e with ⟨c, e⟩ | ⟨c, e⟩
  · refine sh_Lk_lift (T := m12.T) (I := sh_u2 m12.I 74 (Int32.toNatClampNeg r1) r2) (J := m12.J) (s := m12.s) (pc2 := 40) (lv2 := [(3, .int r1), (0, .ref 67), (1, .int x1), (2, .int x2)]) (st2 := [.int (-1)]) (I2 := sh_u2 m12.I 74 (Int32.toNatClampNeg r1) r2) (J2 := m12.J) (fun hT v kk => ?_) ?_
    · refine sh_j0 (c := .lt) (off := (12)) (pc2 := 39) true rfl (sh_Bltt c) rfl ?_
      refine sh_w (i := (.iconst (-1))) (len := 1) (pc2 := 40) (lv2 := [(3, .int r1), (0, .ref 67), (1, .int x1), (2, .int x2)]) (st2 := [.int (-1)]) (h2 := (sh_rep m12.T (sh_u2 m12.I 74 (Int32.toNatClampNeg r1) r2) m12.J)) rfl rfl rfl ?_
      exact kk
    obtain rfl := Option.some.inj e
    obtain ⟨rfl, rfl⟩ := tg
    exact sh_Lk_ret (i := .ireturn) rfl rfl rfl (by omega) (by omega)
  · refine sh_Lk_lift (T := m12.T) (I := sh_u2 m12.I 74 (Int32.toNatClampNeg r1) r2) (J := m12.J) (s := m12.s) (pc2 := 33) (lv2 := [(3, .int r1), (0, .ref 67), (1, .int x1), (2, .int x2)]) (st2 := [.int 123, .ref 67]) (I2 := sh_u2 m12.I 74 (Int32.toNatClampNeg r1) r2) (J2 := m12.J) (fun hT v kk => ?_) ?_
    · refine sh_j0 (c := .lt) (off := (12)) (pc2 := 30) false rfl (sh_Bltf c) rfl ?_
      refine sh_w (i := (.aload_n 0)) (len := 1) (pc2 := 31) (lv2 := [(3, .int r1), (0, .ref 67), (1, .int x1), (2, .int x2)]) (st2 := [.ref 67]) (h2 := (sh_rep m12.T (sh_u2 m12.I 74 (Int32.toNatClampNeg r1) r2) m12.J)) rfl rfl rfl ?_
      refine sh_w (i := (.bipush 123)) (len := 2) (pc2 := 33) (lv2 := [(3, .int r1), (0, .ref 67), (1, .int x1), (2, .int x2)]) (st2 := [.int 123, .ref 67]) (h2 := (sh_rep m12.T (sh_u2 m12.I 74 (Int32.toNatClampNeg r1) r2) m12.J)) rfl rfl rfl ?_
      exact kk
    obtain ⟨r3, m13, e3, e⟩ := sh_bn_e e
    refine sh_Lk_cV (r := (some (.int (sh_b2 r3)))) (st2 := [.int (sh_b2 r3)]) (pc2 := 36) (k2 := 262) (a := 66) (as := [.ref 67, .int 123]) (rest := []) rfl rfl rfl (fun hT => (sh_s66 hT.st)) rfl rfl ⟨Nat.le_of_ble_eq_true rfl, Nat.le_of_ble_eq_true rfl⟩ (sl_262 e3 ⟨rfl, rfl⟩) rfl rfl (show 9 + 1 ≤ d + 1 + 1034 by omega) (show 8 + (2 + 11) + (222) ≤ 40 * (d + 1) + 40690 by omega) ?_
    rcases sh_ite e with ⟨c, e⟩ | ⟨c, e⟩
    · refine sh_Lk_lift (T := m13.T) (I := m13.I) (J := m13.J) (s := m13.s) (pc2 := 50) (lv2 := [(3, .int r1), (0, .ref 67), (1, .int x1), (2, .int x2)]) (st2 := [.int (x2 + 1), .ref 67, .int r1, .ref 76]) (I2 := m13.I) (J2 := m13.J) (fun hT v kk => ?_) ?_
      · refine sh_j0 (c := .ne) (off := (5)) (pc2 := 41) true rfl (sh_Znet c) rfl ?_
        refine sh_w (i := (.aload_n 0)) (len := 1) (pc2 := 42) (lv2 := [(3, .int r1), (0, .ref 67), (1, .int x1), (2, .int x2)]) (st2 := [.ref 67]) (h2 := (sh_rep m13.T m13.I m13.J)) rfl rfl rfl ?_
        refine sh_gR1 (len := 3) (x := .ref 76) (pc2 := 45) rfl rfl (sh_s66 hT.st) rfl rfl ?_
        refine sh_w (i := (.iload_n 3)) (len := 1) (pc2 := 46) (lv2 := [(3, .int r1), (0, .ref 67), (1, .int x1), (2, .int x2)]) (st2 := [.int r1, .ref 76]) (h2 := (sh_rep m13.T m13.I m13.J)) rfl rfl rfl ?_
        refine sh_w (i := (.aload_n 0)) (len := 1) (pc2 := 47) (lv2 := [(3, .int r1), (0, .ref 67), (1, .int x1), (2, .int x2)]) (st2 := [.ref 67, .int r1, .ref 76]) (h2 := (sh_rep m13.T m13.I m13.J)) rfl rfl rfl ?_
        refine sh_w (i := (.iload_n 2)) (len := 1) (pc2 := 48) (lv2 := [(3, .int r1), (0, .ref 67), (1, .int x1), (2, .int x2)]) (st2 := [.int x2, .ref 67, .int r1, .ref 76]) (h2 := (sh_rep m13.T m13.I m13.J)) rfl rfl rfl ?_
        refine sh_w (i := (.iconst 1)) (len := 1) (pc2 := 49) (lv2 := [(3, .int r1), (0, .ref 67), (1, .int x1), (2, .int x2)]) (st2 := [.int 1, .int x2, .ref 67, .int r1, .ref 76]) (h2 := (sh_rep m13.T m13.I m13.J)) rfl rfl rfl ?_
        refine sh_w (i := .iadd) (len := 1) (pc2 := 50) (lv2 := [(3, .int r1), (0, .ref 67), (1, .int x1), (2, .int x2)]) (st2 := [.int (x2 + 1), .ref 67, .int r1, .ref 76]) (h2 := (sh_rep m13.T m13.I m13.J)) rfl rfl rfl ?_
        exact kk
      obtain ⟨r4, m14, e4, e⟩ := sh_bn_e e
      refine sh_Lk_cV (r := (some (.int r4))) (st2 := [.int r4, .int r1, .ref 76]) (pc2 := 53) (k2 := 264) (a := 66) (as := [.ref 67, .int (x2 + 1)]) (rest := [.int r1, .ref 76]) rfl rfl rfl (fun hT => (sh_s66 hT.st)) rfl rfl ⟨Nat.le_of_ble_eq_true rfl, Nat.le_of_ble_eq_true rfl⟩ (hQ.f264 e4 ⟨rfl, rfl⟩) rfl rfl (show d + 1034 + 1 ≤ d + 1 + 1034 by omega) (show 8 + (5 + 11) + (40 * d + 40690) ≤ 40 * (d + 1) + 40690 by omega) ?_
      obtain ⟨c, e⟩ := sh_gd e
      refine sh_Lk_lift (T := m14.T) (I := m14.I) (J := m14.J) (s := m14.s) (pc2 := 59) (lv2 := [(3, .int r1), (0, .ref 67), (1, .int x1), (2, .int x2)]) (st2 := [.int r1, .ref 76]) (I2 := sh_u2 m14.I 75 (Int32.toNatClampNeg r1) r4) (J2 := m14.J) (fun hT v kk => ?_) ?_
      · refine sh_is1 (x := r4) (i := r1) (pc2 := 54) rfl (sh_s75 hT.st) (sh_okb1 c) (sh_okb2 c) rfl ?_
        refine sh_w (i := (.aload_n 0)) (len := 1) (pc2 := 55) (lv2 := [(3, .int r1), (0, .ref 67), (1, .int x1), (2, .int x2)]) (st2 := [.ref 67]) (h2 := (sh_rep m14.T (sh_u2 m14.I 75 (Int32.toNatClampNeg r1) r4) m14.J)) rfl rfl rfl ?_
        refine sh_gR1 (len := 3) (x := .ref 76) (pc2 := 58) rfl rfl (sh_s66 hT.st) rfl rfl ?_
        refine sh_w (i := (.iload_n 3)) (len := 1) (pc2 := 59) (lv2 := [(3, .int r1), (0, .ref 67), (1, .int x1), (2, .int x2)]) (st2 := [.int r1, .ref 76]) (h2 := (sh_rep m14.T (sh_u2 m14.I 75 (Int32.toNatClampNeg r1) r4) m14.J)) rfl rfl rfl ?_
        exact kk
      obtain ⟨c, e⟩ := sh_gd e
      refine sh_Lk_lift (T := m14.T) (I := sh_u2 m14.I 75 (Int32.toNatClampNeg r1) r4) (J := m14.J) (s := m14.s) (pc2 := 62) (lv2 := [(3, .int r1), (0, .ref 67), (1, .int x1), (2, .int x2)]) (st2 := [.int (-2), .int ((sh_u2 m14.I 75 (Int32.toNatClampNeg r1) r4) 75 (Int32.toNatClampNeg r1))]) (I2 := sh_u2 m14.I 75 (Int32.toNatClampNeg r1) r4) (J2 := m14.J) (fun hT v kk => ?_) ?_
      · refine sh_ia1 (x := (sh_u2 m14.I 75 (Int32.toNatClampNeg r1) r4) 75 (Int32.toNatClampNeg r1)) (pc2 := 60) rfl (sh_s75 hT.st) (sh_okb1 c) (sh_okb2 c) rfl rfl ?_
        refine sh_w (i := (.bipush (-2))) (len := 2) (pc2 := 62) (lv2 := [(3, .int r1), (0, .ref 67), (1, .int x1), (2, .int x2)]) (st2 := [.int (-2), .int ((sh_u2 m14.I 75 (Int32.toNatClampNeg r1) r4) 75 (Int32.toNatClampNeg r1))]) (h2 := (sh_rep m14.T (sh_u2 m14.I 75 (Int32.toNatClampNeg r1) r4) m14.J)) rfl rfl rfl ?_
        exact kk
      rcases sh_ite e with ⟨c, e⟩ | ⟨c, e⟩
      · refine sh_Lk_lift (T := m14.T) (I := sh_u2 m14.I 75 (Int32.toNatClampNeg r1) r4) (J := m14.J) (s := m14.s) (pc2 := 75) (lv2 := [(3, .int r1), (0, .ref 67), (1, .int x1), (2, .int x2)]) (st2 := [.int (-1)]) (I2 := sh_u2 m14.I 75 (Int32.toNatClampNeg r1) r4) (J2 := m14.J) (fun hT v kk => ?_) ?_
        · refine sh_jc (c := .eq) (off := (12)) (pc2 := 74) true rfl (sh_Beqt c) rfl ?_
          refine sh_w (i := (.iconst (-1))) (len := 1) (pc2 := 75) (lv2 := [(3, .int r1), (0, .ref 67), (1, .int x1), (2, .int x2)]) (st2 := [.int (-1)]) (h2 := (sh_rep m14.T (sh_u2 m14.I 75 (Int32.toNatClampNeg r1) r4) m14.J)) rfl rfl rfl ?_
          exact kk
        obtain rfl := Option.some.inj e
        obtain ⟨rfl, rfl⟩ := tg
        exact sh_Lk_ret (i := .ireturn) rfl rfl rfl (by omega) (by omega)
      · refine sh_Lk_lift (T := m14.T) (I := sh_u2 m14.I 75 (Int32.toNatClampNeg r1) r4) (J := m14.J) (s := m14.s) (pc2 := 68) (lv2 := [(3, .int r1), (0, .ref 67), (1, .int x1), (2, .int x2)]) (st2 := [.int 125, .ref 67]) (I2 := sh_u2 m14.I 75 (Int32.toNatClampNeg r1) r4) (J2 := m14.J) (fun hT v kk => ?_) ?_
        · refine sh_jc (c := .eq) (off := (12)) (pc2 := 65) false rfl (sh_Beqf c) rfl ?_
          refine sh_w (i := (.aload_n 0)) (len := 1) (pc2 := 66) (lv2 := [(3, .int r1), (0, .ref 67), (1, .int x1), (2, .int x2)]) (st2 := [.ref 67]) (h2 := (sh_rep m14.T (sh_u2 m14.I 75 (Int32.toNatClampNeg r1) r4) m14.J)) rfl rfl rfl ?_
          refine sh_w (i := (.bipush 125)) (len := 2) (pc2 := 68) (lv2 := [(3, .int r1), (0, .ref 67), (1, .int x1), (2, .int x2)]) (st2 := [.int 125, .ref 67]) (h2 := (sh_rep m14.T (sh_u2 m14.I 75 (Int32.toNatClampNeg r1) r4) m14.J)) rfl rfl rfl ?_
          exact kk
        obtain ⟨r5, m15, e5, e⟩ := sh_bn_e e
        refine sh_Lk_cV (r := (some (.int (sh_b2 r5)))) (st2 := [.int (sh_b2 r5)]) (pc2 := 71) (k2 := 262) (a := 66) (as := [.ref 67, .int 125]) (rest := []) rfl rfl rfl (fun hT => (sh_s66 hT.st)) rfl rfl ⟨Nat.le_of_ble_eq_true rfl, Nat.le_of_ble_eq_true rfl⟩ (sl_262 e5 ⟨rfl, rfl⟩) rfl rfl (show 9 + 1 ≤ d + 1 + 1034 by omega) (show 8 + (2 + 11) + (222) ≤ 40 * (d + 1) + 40690 by omega) ?_
        rcases sh_ite e with ⟨c, e⟩ | ⟨c, e⟩
        · refine sh_Lk_lift (T := m15.T) (I := m15.I) (J := m15.J) (s := m15.s) (pc2 := 83) (lv2 := [(3, .int r1), (0, .ref 67), (1, .int x1), (2, .int x2)]) (st2 := [.ref 1000012, .int (m15.I 66 21), .ref 67]) (I2 := m15.I) (J2 := m15.J) (fun hT v kk => ?_) ?_
          · refine sh_j0 (c := .ne) (off := (5)) (pc2 := 76) true rfl (sh_Znet c) rfl ?_
            refine sh_w (i := (.aload_n 0)) (len := 1) (pc2 := 77) (lv2 := [(3, .int r1), (0, .ref 67), (1, .int x1), (2, .int x2)]) (st2 := [.ref 67]) (h2 := (sh_rep m15.T m15.I m15.J)) rfl rfl rfl ?_
            refine sh_w (i := (.aload_n 0)) (len := 1) (pc2 := 78) (lv2 := [(3, .int r1), (0, .ref 67), (1, .int x1), (2, .int x2)]) (st2 := [.ref 67, .ref 67]) (h2 := (sh_rep m15.T m15.I m15.J)) rfl rfl rfl ?_
            refine sh_gI1 (len := 3) (x := m15.I 66 21) (pc2 := 81) rfl rfl (sh_s66 hT.st) rfl rfl rfl ?_
            refine sh_w (i := (.ldc 254)) (len := 2) (pc2 := 83) (lv2 := [(3, .int r1), (0, .ref 67), (1, .int x1), (2, .int x2)]) (st2 := [.ref 1000012, .int (m15.I 66 21), .ref 67]) (h2 := (sh_rep m15.T m15.I m15.J)) rfl rfl rfl ?_
            exact kk
          obtain ⟨r6, e6, e⟩ := sh_bc_e e
          refine sh_Lk_cV (r := (some (.int (sh_b2 r6)))) (st2 := [.int (sh_b2 r6)]) (pc2 := 86) (k2 := 256) (a := 66) (as := [.ref 67, .int (m15.I 66 21), .ref 1000012]) (rest := []) rfl rfl rfl (fun hT => (sh_s66 hT.st)) rfl rfl ⟨Nat.le_of_ble_eq_true rfl, Nat.le_of_ble_eq_true rfl⟩ (sl_256 e6 ⟨rfl, rfl⟩) rfl rfl (show 30 + 1 ≤ d + 1 + 1034 by omega) (show 8 + (4 + 11) + (600) ≤ 40 * (d + 1) + 40690 by omega) ?_
          rcases sh_ite e with ⟨c, e⟩ | ⟨c, e⟩
          · refine sh_Lk_lift (T := m15.T) (I := m15.I) (J := m15.J) (s := m15.s) (pc2 := 104) (lv2 := [(3, .int r1), (0, .ref 67), (1, .int x1), (2, .int x2)]) (st2 := [.int 123, .ref 67]) (I2 := sh_u2 m15.I 66 21 ((m15.I 66 21) + 1)) (J2 := m15.J) (fun hT v kk => ?_) ?_
            · refine sh_j0 (c := .ne) (off := (5)) (pc2 := 91) true rfl (sh_Znet c) rfl ?_
              refine sh_w (i := (.aload_n 0)) (len := 1) (pc2 := 92) (lv2 := [(3, .int r1), (0, .ref 67), (1, .int x1), (2, .int x2)]) (st2 := [.ref 67]) (h2 := (sh_rep m15.T m15.I m15.J)) rfl rfl rfl ?_
              refine sh_w (i := .dup) (len := 1) (pc2 := 93) (lv2 := [(3, .int r1), (0, .ref 67), (1, .int x1), (2, .int x2)]) (st2 := [.ref 67, .ref 67]) (h2 := (sh_rep m15.T m15.I m15.J)) rfl rfl rfl ?_
              refine sh_gI1 (len := 3) (x := m15.I 66 21) (pc2 := 96) rfl rfl (sh_s66 hT.st) rfl rfl rfl ?_
              refine sh_w (i := (.iconst 1)) (len := 1) (pc2 := 97) (lv2 := [(3, .int r1), (0, .ref 67), (1, .int x1), (2, .int x2)]) (st2 := [.int 1, .int (m15.I 66 21), .ref 67]) (h2 := (sh_rep m15.T m15.I m15.J)) rfl rfl rfl ?_
              refine sh_w (i := .iadd) (len := 1) (pc2 := 98) (lv2 := [(3, .int r1), (0, .ref 67), (1, .int x1), (2, .int x2)]) (st2 := [.int ((m15.I 66 21) + 1), .ref 67]) (h2 := (sh_rep m15.T m15.I m15.J)) rfl rfl rfl ?_
              refine sh_pI1 (x := (m15.I 66 21) + 1) (pc2 := 101) rfl rfl (sh_s66 hT.st) rfl rfl rfl rfl ?_
              refine sh_w (i := (.aload_n 0)) (len := 1) (pc2 := 102) (lv2 := [(3, .int r1), (0, .ref 67), (1, .int x1), (2, .int x2)]) (st2 := [.ref 67]) (h2 := (sh_rep m15.T (sh_u2 m15.I 66 21 ((m15.I 66 21) + 1)) m15.J)) rfl rfl rfl ?_
              refine sh_w (i := (.bipush 123)) (len := 2) (pc2 := 104) (lv2 := [(3, .int r1), (0, .ref 67), (1, .int x1), (2, .int x2)]) (st2 := [.int 123, .ref 67]) (h2 := (sh_rep m15.T (sh_u2 m15.I 66 21 ((m15.I 66 21) + 1)) m15.J)) rfl rfl rfl ?_
              exact kk
            obtain ⟨r7, m17, e7, e⟩ := sh_bn_e e
            refine sh_Lk_cV (r := (some (.int (sh_b2 r7)))) (st2 := [.int (sh_b2 r7)]) (pc2 := 107) (k2 := 262) (a := 66) (as := [.ref 67, .int 123]) (rest := []) rfl rfl rfl (fun hT => (sh_s66 hT.st)) rfl rfl ⟨Nat.le_of_ble_eq_true rfl, Nat.le_of_ble_eq_true rfl⟩ (sl_262 e7 ⟨rfl, rfl⟩) rfl rfl (show 9 + 1 ≤ d + 1 + 1034 by omega) (show 8 + (2 + 11) + (222) ≤ 40 * (d + 1) + 40690 by omega) ?_
            rcases sh_ite e with ⟨c, e⟩ | ⟨c, e⟩
            · refine sh_Lk_lift (T := m17.T) (I := m17.I) (J := m17.J) (s := m17.s) (pc2 := 121) (lv2 := [(3, .int r1), (0, .ref 67), (1, .int x1), (2, .int x2)]) (st2 := [.int (x2 + 1), .ref 67, .int r1, .ref 77]) (I2 := m17.I) (J2 := m17.J) (fun hT v kk => ?_) ?_
              · refine sh_j0 (c := .ne) (off := (5)) (pc2 := 112) true rfl (sh_Znet c) rfl ?_
                refine sh_w (i := (.aload_n 0)) (len := 1) (pc2 := 113) (lv2 := [(3, .int r1), (0, .ref 67), (1, .int x1), (2, .int x2)]) (st2 := [.ref 67]) (h2 := (sh_rep m17.T m17.I m17.J)) rfl rfl rfl ?_
                refine sh_gR1 (len := 3) (x := .ref 77) (pc2 := 116) rfl rfl (sh_s66 hT.st) rfl rfl ?_
                refine sh_w (i := (.iload_n 3)) (len := 1) (pc2 := 117) (lv2 := [(3, .int r1), (0, .ref 67), (1, .int x1), (2, .int x2)]) (st2 := [.int r1, .ref 77]) (h2 := (sh_rep m17.T m17.I m17.J)) rfl rfl rfl ?_
                refine sh_w (i := (.aload_n 0)) (len := 1) (pc2 := 118) (lv2 := [(3, .int r1), (0, .ref 67), (1, .int x1), (2, .int x2)]) (st2 := [.ref 67, .int r1, .ref 77]) (h2 := (sh_rep m17.T m17.I m17.J)) rfl rfl rfl ?_
                refine sh_w (i := (.iload_n 2)) (len := 1) (pc2 := 119) (lv2 := [(3, .int r1), (0, .ref 67), (1, .int x1), (2, .int x2)]) (st2 := [.int x2, .ref 67, .int r1, .ref 77]) (h2 := (sh_rep m17.T m17.I m17.J)) rfl rfl rfl ?_
                refine sh_w (i := (.iconst 1)) (len := 1) (pc2 := 120) (lv2 := [(3, .int r1), (0, .ref 67), (1, .int x1), (2, .int x2)]) (st2 := [.int 1, .int x2, .ref 67, .int r1, .ref 77]) (h2 := (sh_rep m17.T m17.I m17.J)) rfl rfl rfl ?_
                refine sh_w (i := .iadd) (len := 1) (pc2 := 121) (lv2 := [(3, .int r1), (0, .ref 67), (1, .int x1), (2, .int x2)]) (st2 := [.int (x2 + 1), .ref 67, .int r1, .ref 77]) (h2 := (sh_rep m17.T m17.I m17.J)) rfl rfl rfl ?_
                exact kk
              obtain ⟨r8, m18, e8, e⟩ := sh_bn_e e
              refine sh_Lk_cV (r := (some (.int r8))) (st2 := [.int r8, .int r1, .ref 77]) (pc2 := 124) (k2 := 264) (a := 66) (as := [.ref 67, .int (x2 + 1)]) (rest := [.int r1, .ref 77]) rfl rfl rfl (fun hT => (sh_s66 hT.st)) rfl rfl ⟨Nat.le_of_ble_eq_true rfl, Nat.le_of_ble_eq_true rfl⟩ (hQ.f264 e8 ⟨rfl, rfl⟩) rfl rfl (show d + 1034 + 1 ≤ d + 1 + 1034 by omega) (show 8 + (5 + 11) + (40 * d + 40690) ≤ 40 * (d + 1) + 40690 by omega) ?_
              obtain ⟨c, e⟩ := sh_gd e
              refine sh_Lk_lift (T := m18.T) (I := m18.I) (J := m18.J) (s := m18.s) (pc2 := 130) (lv2 := [(3, .int r1), (0, .ref 67), (1, .int x1), (2, .int x2)]) (st2 := [.int r1, .ref 77]) (I2 := sh_u2 m18.I 76 (Int32.toNatClampNeg r1) r8) (J2 := m18.J) (fun hT v kk => ?_) ?_
              · refine sh_is1 (x := r8) (i := r1) (pc2 := 125) rfl (sh_s76 hT.st) (sh_okb1 c) (sh_okb2 c) rfl ?_
                refine sh_w (i := (.aload_n 0)) (len := 1) (pc2 := 126) (lv2 := [(3, .int r1), (0, .ref 67), (1, .int x1), (2, .int x2)]) (st2 := [.ref 67]) (h2 := (sh_rep m18.T (sh_u2 m18.I 76 (Int32.toNatClampNeg r1) r8) m18.J)) rfl rfl rfl ?_
                refine sh_gR1 (len := 3) (x := .ref 77) (pc2 := 129) rfl rfl (sh_s66 hT.st) rfl rfl ?_
                refine sh_w (i := (.iload_n 3)) (len := 1) (pc2 := 130) (lv2 := [(3, .int r1), (0, .ref 67), (1, .int x1), (2, .int x2)]) (st2 := [.int r1, .ref 77]) (h2 := (sh_rep m18.T (sh_u2 m18.I 76 (Int32.toNatClampNeg r1) r8) m18.J)) rfl rfl rfl ?_
                exact kk
              obtain ⟨c, e⟩ := sh_gd e
              refine sh_Lk_lift (T := m18.T) (I := sh_u2 m18.I 76 (Int32.toNatClampNeg r1) r8) (J := m18.J) (s := m18.s) (pc2 := 133) (lv2 := [(3, .int r1), (0, .ref 67), (1, .int x1), (2, .int x2)]) (st2 := [.int (-2), .int ((sh_u2 m18.I 76 (Int32.toNatClampNeg r1) r8) 76 (Int32.toNatClampNeg r1))]) (I2 := sh_u2 m18.I 76 (Int32.toNatClampNeg r1) r8) (J2 := m18.J) (fun hT v kk => ?_) ?_
              · refine sh_ia1 (x := (sh_u2 m18.I 76 (Int32.toNatClampNeg r1) r8) 76 (Int32.toNatClampNeg r1)) (pc2 := 131) rfl (sh_s76 hT.st) (sh_okb1 c) (sh_okb2 c) rfl rfl ?_
                refine sh_w (i := (.bipush (-2))) (len := 2) (pc2 := 133) (lv2 := [(3, .int r1), (0, .ref 67), (1, .int x1), (2, .int x2)]) (st2 := [.int (-2), .int ((sh_u2 m18.I 76 (Int32.toNatClampNeg r1) r8) 76 (Int32.toNatClampNeg r1))]) (h2 := (sh_rep m18.T (sh_u2 m18.I 76 (Int32.toNatClampNeg r1) r8) m18.J)) rfl rfl rfl ?_
                exact kk
              rcases sh_ite e with ⟨c, e⟩ | ⟨c, e⟩
              · refine sh_Lk_lift (T := m18.T) (I := sh_u2 m18.I 76 (Int32.toNatClampNeg r1) r8) (J := m18.J) (s := m18.s) (pc2 := 150) (lv2 := [(3, .int r1), (0, .ref 67), (1, .int x1), (2, .int x2)]) (st2 := [.int (-1)]) (I2 := sh_u2 m18.I 76 (Int32.toNatClampNeg r1) r8) (J2 := m18.J) (fun hT v kk => ?_) ?_
                · refine sh_jc (c := .eq) (off := (16)) (pc2 := 149) true rfl (sh_Beqt c) rfl ?_
                  refine sh_w (i := (.iconst (-1))) (len := 1) (pc2 := 150) (lv2 := [(3, .int r1), (0, .ref 67), (1, .int x1), (2, .int x2)]) (st2 := [.int (-1)]) (h2 := (sh_rep m18.T (sh_u2 m18.I 76 (Int32.toNatClampNeg r1) r8) m18.J)) rfl rfl rfl ?_
                  exact kk
                obtain rfl := Option.some.inj e
                obtain ⟨rfl, rfl⟩ := tg
                exact sh_Lk_ret (i := .ireturn) rfl rfl rfl (by omega) (by omega)
              · refine sh_Lk_lift (T := m18.T) (I := sh_u2 m18.I 76 (Int32.toNatClampNeg r1) r8) (J := m18.J) (s := m18.s) (pc2 := 139) (lv2 := [(3, .int r1), (0, .ref 67), (1, .int x1), (2, .int x2)]) (st2 := [.int 125, .ref 67]) (I2 := sh_u2 m18.I 76 (Int32.toNatClampNeg r1) r8) (J2 := m18.J) (fun hT v kk => ?_) ?_
                · refine sh_jc (c := .eq) (off := (16)) (pc2 := 136) false rfl (sh_Beqf c) rfl ?_
                  refine sh_w (i := (.aload_n 0)) (len := 1) (pc2 := 137) (lv2 := [(3, .int r1), (0, .ref 67), (1, .int x1), (2, .int x2)]) (st2 := [.ref 67]) (h2 := (sh_rep m18.T (sh_u2 m18.I 76 (Int32.toNatClampNeg r1) r8) m18.J)) rfl rfl rfl ?_
                  refine sh_w (i := (.bipush 125)) (len := 2) (pc2 := 139) (lv2 := [(3, .int r1), (0, .ref 67), (1, .int x1), (2, .int x2)]) (st2 := [.int 125, .ref 67]) (h2 := (sh_rep m18.T (sh_u2 m18.I 76 (Int32.toNatClampNeg r1) r8) m18.J)) rfl rfl rfl ?_
                  exact kk
                obtain ⟨r9, m19, e9, e⟩ := sh_bn_e e
                refine sh_Lk_cV (r := (some (.int (sh_b2 r9)))) (st2 := [.int (sh_b2 r9)]) (pc2 := 142) (k2 := 262) (a := 66) (as := [.ref 67, .int 125]) (rest := []) rfl rfl rfl (fun hT => (sh_s66 hT.st)) rfl rfl ⟨Nat.le_of_ble_eq_true rfl, Nat.le_of_ble_eq_true rfl⟩ (sl_262 e9 ⟨rfl, rfl⟩) rfl rfl (show 9 + 1 ≤ d + 1 + 1034 by omega) (show 8 + (2 + 11) + (222) ≤ 40 * (d + 1) + 40690 by omega) ?_
                rcases sh_ite e with ⟨c, e⟩ | ⟨c, e⟩
                · refine sh_Lk_lift (T := m19.T) (I := m19.I) (J := m19.J) (s := m19.s) (pc2 := 150) (lv2 := [(3, .int r1), (0, .ref 67), (1, .int x1), (2, .int x2)]) (st2 := [.int r1]) (I2 := m19.I) (J2 := m19.J) (fun hT v kk => ?_) ?_
                  · refine sh_j0 (c := .eq) (off := (7)) (pc2 := 145) false rfl (sh_Zeqf c) rfl ?_
                    refine sh_w (i := (.iload_n 3)) (len := 1) (pc2 := 146) (lv2 := [(3, .int r1), (0, .ref 67), (1, .int x1), (2, .int x2)]) (st2 := [.int r1]) (h2 := (sh_rep m19.T m19.I m19.J)) rfl rfl rfl ?_
                    refine sh_w (i := (.goto 4)) (len := 3) (pc2 := 150) (lv2 := [(3, .int r1), (0, .ref 67), (1, .int x1), (2, .int x2)]) (st2 := [.int r1]) (h2 := (sh_rep m19.T m19.I m19.J)) rfl rfl rfl ?_
                    exact kk
                  obtain rfl := Option.some.inj e
                  obtain ⟨rfl, rfl⟩ := tg
                  exact sh_Lk_ret (i := .ireturn) rfl rfl rfl (by omega) (by omega)
                · refine sh_Lk_lift (T := m19.T) (I := m19.I) (J := m19.J) (s := m19.s) (pc2 := 150) (lv2 := [(3, .int r1), (0, .ref 67), (1, .int x1), (2, .int x2)]) (st2 := [.int (-1)]) (I2 := m19.I) (J2 := m19.J) (fun hT v kk => ?_) ?_
                  · refine sh_j0 (c := .eq) (off := (7)) (pc2 := 149) true rfl (sh_Zeqt c) rfl ?_
                    refine sh_w (i := (.iconst (-1))) (len := 1) (pc2 := 150) (lv2 := [(3, .int r1), (0, .ref 67), (1, .int x1), (2, .int x2)]) (st2 := [.int (-1)]) (h2 := (sh_rep m19.T m19.I m19.J)) rfl rfl rfl ?_
                    exact kk
                  obtain rfl := Option.some.inj e
                  obtain ⟨rfl, rfl⟩ := tg
                  exact sh_Lk_ret (i := .ireturn) rfl rfl rfl (by omega) (by omega)
            · refine sh_Lk_lift (T := m17.T) (I := m17.I) (J := m17.J) (s := m17.s) (pc2 := 111) (lv2 := [(3, .int r1), (0, .ref 67), (1, .int x1), (2, .int x2)]) (st2 := [.int (-1)]) (I2 := m17.I) (J2 := m17.J) (fun hT v kk => ?_) ?_
              · refine sh_j0 (c := .ne) (off := (5)) (pc2 := 110) false rfl (sh_Znef c) rfl ?_
                refine sh_w (i := (.iconst (-1))) (len := 1) (pc2 := 111) (lv2 := [(3, .int r1), (0, .ref 67), (1, .int x1), (2, .int x2)]) (st2 := [.int (-1)]) (h2 := (sh_rep m17.T m17.I m17.J)) rfl rfl rfl ?_
                exact kk
              obtain rfl := Option.some.inj e
              obtain ⟨rfl, rfl⟩ := tg
              exact sh_Lk_ret (i := .ireturn) rfl rfl rfl (by omega) (by omega)
          · refine sh_Lk_lift (T := m15.T) (I := m15.I) (J := m15.J) (s := m15.s) (pc2 := 90) (lv2 := [(3, .int r1), (0, .ref 67), (1, .int x1), (2, .int x2)]) (st2 := [.int r1]) (I2 := m15.I) (J2 := m15.J) (fun hT v kk => ?_) ?_
            · refine sh_j0 (c := .ne) (off := (5)) (pc2 := 89) false rfl (sh_Znef c) rfl ?_
              refine sh_w (i := (.iload_n 3)) (len := 1) (pc2 := 90) (lv2 := [(3, .int r1), (0, .ref 67), (1, .int x1), (2, .int x2)]) (st2 := [.int r1]) (h2 := (sh_rep m15.T m15.I m15.J)) rfl rfl rfl ?_
              exact kk
            obtain rfl := Option.some.inj e
            obtain ⟨rfl, rfl⟩ := tg
            exact sh_Lk_ret (i := .ireturn) rfl rfl rfl (by omega) (by omega)
        · refine sh_Lk_lift (T := m15.T) (I := m15.I) (J := m15.J) (s := m15.s) (pc2 := 75) (lv2 := [(3, .int r1), (0, .ref 67), (1, .int x1), (2, .int x2)]) (st2 := [.int (-1)]) (I2 := m15.I) (J2 := m15.J) (fun hT v kk => ?_) ?_
          · refine sh_j0 (c := .ne) (off := (5)) (pc2 := 74) false rfl (sh_Znef c) rfl ?_
            refine sh_w (i := (.iconst (-1))) (len := 1) (pc2 := 75) (lv2 := [(3, .int r1), (0, .ref 67), (1, .int x1), (2, .int x2)]) (st2 := [.int (-1)]) (h2 := (sh_rep m15.T m15.I m15.J)) rfl rfl rfl ?_
            exact kk
          obtain rfl := Option.some.inj e
          obtain ⟨rfl, rfl⟩ := tg
          exact sh_Lk_ret (i := .ireturn) rfl rfl rfl (by omega) (by omega)
    · refine sh_Lk_lift (T := m13.T) (I := m13.I) (J := m13.J) (s := m13.s) (pc2 := 40) (lv2 := [(3, .int r1), (0, .ref 67), (1, .int x1), (2, .int x2)]) (st2 := [.int (-1)]) (I2 := m13.I) (J2 := m13.J) (fun hT v kk => ?_) ?_
      · refine sh_j0 (c := .ne) (off := (5)) (pc2 := 39) false rfl (sh_Znef c) rfl ?_
        refine sh_w (i := (.iconst (-1))) (len := 1) (pc2 := 40) (lv2 := [(3, .int r1), (0, .ref 67), (1, .int x1), (2, .int x2)]) (st2 := [.int (-1)]) (h2 := (sh_rep m13.T m13.I m13.J)) rfl rfl rfl ?_
        exact kk
      obtain rfl := Option.some.inj e
      obtain ⟨rfl, rfl⟩ := tg
      exact sh_Lk_ret (i := .ireturn) rfl rfl rfl (by omega) (by omega)
theorem sl_276 {Q : sh_Q242} {d : Nat} {x1 : Int32} {x2 : Int32} {m m2 : sh_X} {o : Outcome} {z : (Int32 × sh_X)} (hQ : sh_QL242 Q d) (e : sf_276 Q x1 x2 m = some z) (tg : (sh_tI o m2) z) : sh_Lk 276 0 [(0, .ref 67), (1, .int x1), (2, .int x2)] [] m o m2 (d + 1 + 1034) (40 * (d + 1) + 40690) := by
  unfold sf_276 at e
  refine sh_Lk_lift (T := m.T) (I := m.I) (J := m.J) (s := m.s) (pc2 := 9) (lv2 := [(0, .ref 67), (1, .int x1), (2, .int x2)]) (st2 := [.int (m.I 66 21), .int (-1), .int x1, .int 23, .ref 67]) (I2 := m.I) (J2 := m.J) (fun hT v kk => ?_) ?_
  · refine sh_w (i := (.aload_n 0)) (len := 1) (pc2 := 1) (lv2 := [(0, .ref 67), (1, .int x1), (2, .int x2)]) (st2 := [.ref 67]) (h2 := (sh_rep m.T m.I m.J)) rfl rfl rfl ?_
    refine sh_w (i := (.bipush 23)) (len := 2) (pc2 := 3) (lv2 := [(0, .ref 67), (1, .int x1), (2, .int x2)]) (st2 := [.int 23, .ref 67]) (h2 := (sh_rep m.T m.I m.J)) rfl rfl rfl ?_
    refine sh_w (i := (.iload_n 1)) (len := 1) (pc2 := 4) (lv2 := [(0, .ref 67), (1, .int x1), (2, .int x2)]) (st2 := [.int x1, .int 23, .ref 67]) (h2 := (sh_rep m.T m.I m.J)) rfl rfl rfl ?_
    refine sh_w (i := (.iconst (-1))) (len := 1) (pc2 := 5) (lv2 := [(0, .ref 67), (1, .int x1), (2, .int x2)]) (st2 := [.int (-1), .int x1, .int 23, .ref 67]) (h2 := (sh_rep m.T m.I m.J)) rfl rfl rfl ?_
    refine sh_w (i := (.aload_n 0)) (len := 1) (pc2 := 6) (lv2 := [(0, .ref 67), (1, .int x1), (2, .int x2)]) (st2 := [.ref 67, .int (-1), .int x1, .int 23, .ref 67]) (h2 := (sh_rep m.T m.I m.J)) rfl rfl rfl ?_
    refine sh_gI1 (len := 3) (x := m.I 66 21) (pc2 := 9) rfl rfl (sh_s66 hT.st) rfl rfl rfl ?_
    exact kk
  obtain ⟨r1, m11, e1, e⟩ := sh_bn_e e
  refine sh_Lk_cV (r := (some (.int r1))) (st2 := [.int r1]) (pc2 := 12) (k2 := 266) (a := 66) (as := [.ref 67, .int 23, .int x1, .int (-1), .int (m.I 66 21)]) (rest := []) rfl rfl rfl (fun hT => (sh_s66 hT.st)) rfl rfl ⟨Nat.le_of_ble_eq_true rfl, Nat.le_of_ble_eq_true rfl⟩ (sl_266 e1 ⟨rfl, rfl⟩) rfl rfl (show 8 + 1 ≤ d + 1 + 1034 by omega) (show 8 + (5 + 11) + (200) ≤ 40 * (d + 1) + 40690 by omega) ?_
  refine sh_Lk_lift (T := m11.T) (I := m11.I) (J := m11.J) (s := m11.s) (pc2 := 14) (lv2 := [(3, .int r1), (0, .ref 67), (1, .int x1), (2, .int x2)]) (st2 := [.ref 67]) (I2 := m11.I) (J2 := m11.J) (fun hT v kk => ?_) ?_
  · refine sh_w (i := (.istore_n 3)) (len := 1) (pc2 := 13) (lv2 := [(3, .int r1), (0, .ref 67), (1, .int x1), (2, .int x2)]) (st2 := []) (h2 := (sh_rep m11.T m11.I m11.J)) rfl rfl rfl ?_
    refine sh_w (i := (.aload_n 0)) (len := 1) (pc2 := 14) (lv2 := [(3, .int r1), (0, .ref 67), (1, .int x1), (2, .int x2)]) (st2 := [.ref 67]) (h2 := (sh_rep m11.T m11.I m11.J)) rfl rfl rfl ?_
    exact kk
  obtain ⟨r2, m12, e2, e⟩ := sh_bn_e e
  refine sh_Lk_cV (r := (some (.int (sh_b2 r2)))) (st2 := [.int (sh_b2 r2)]) (pc2 := 17) (k2 := 258) (a := 66) (as := [.ref 67]) (rest := []) rfl rfl rfl (fun hT => (sh_s66 hT.st)) rfl rfl ⟨Nat.le_of_ble_eq_true rfl, Nat.le_of_ble_eq_true rfl⟩ (sl_258 e2 ⟨rfl, rfl⟩) rfl rfl (show 33 + 1 ≤ d + 1 + 1034 by omega) (show 8 + (1 + 11) + (669) ≤ 40 * (d + 1) + 40690 by omega) ?_
  rcases sh_ite e with ⟨c, e⟩ | ⟨c, e⟩
  · refine sh_Lk_lift (T := m12.T) (I := m12.I) (J := m12.J) (s := m12.s) (pc2 := 24) (lv2 := [(3, .int r1), (0, .ref 67), (1, .int x1), (2, .int x2)]) (st2 := [.ref 1000016, .ref 67]) (I2 := m12.I) (J2 := m12.J) (fun hT v kk => ?_) ?_
    · refine sh_j0 (c := .eq) (off := (13)) (pc2 := 20) false rfl (sh_Zeqf c) rfl ?_
      refine sh_w (i := (.aload_n 0)) (len := 1) (pc2 := 21) (lv2 := [(3, .int r1), (0, .ref 67), (1, .int x1), (2, .int x2)]) (st2 := [.ref 67]) (h2 := (sh_rep m12.T m12.I m12.J)) rfl rfl rfl ?_
      refine sh_w (i := (.ldc_w 264)) (len := 3) (pc2 := 24) (lv2 := [(3, .int r1), (0, .ref 67), (1, .int x1), (2, .int x2)]) (st2 := [.ref 1000016, .ref 67]) (h2 := (sh_rep m12.T m12.I m12.J)) rfl rfl rfl ?_
      exact kk
    obtain ⟨r3, m13, e3, e⟩ := sh_bn_e e
    refine sh_Lk_cV (r := (some (.int (sh_b2 r3)))) (st2 := [.int (sh_b2 r3)]) (pc2 := 27) (k2 := 277) (a := 66) (as := [.ref 67, .ref 1000016]) (rest := []) rfl rfl rfl (fun hT => (sh_s66 hT.st)) rfl rfl ⟨Nat.le_of_ble_eq_true rfl, Nat.le_of_ble_eq_true rfl⟩ (sl_277 e3 ⟨rfl, rfl⟩) rfl rfl (show 31 + 1 ≤ d + 1 + 1034 by omega) (show 8 + (2 + 11) + (623) ≤ 40 * (d + 1) + 40690 by omega) ?_
    rcases sh_ite e with ⟨c, e⟩ | ⟨c, e⟩
    · refine sh_Lk_lift (T := m13.T) (I := m13.I) (J := m13.J) (s := m13.s) (pc2 := 41) (lv2 := [(3, .int r1), (0, .ref 67), (1, .int x1), (2, .int x2)]) (st2 := [.int (m13.I 66 21), .int r1, .ref 77]) (I2 := m13.I) (J2 := m13.J) (fun hT v kk => ?_) ?_
      · refine sh_j0 (c := .ne) (off := (5)) (pc2 := 32) true rfl (sh_Znet c) rfl ?_
        refine sh_w (i := (.aload_n 0)) (len := 1) (pc2 := 33) (lv2 := [(3, .int r1), (0, .ref 67), (1, .int x1), (2, .int x2)]) (st2 := [.ref 67]) (h2 := (sh_rep m13.T m13.I m13.J)) rfl rfl rfl ?_
        refine sh_gR1 (len := 3) (x := .ref 77) (pc2 := 36) rfl rfl (sh_s66 hT.st) rfl rfl ?_
        refine sh_w (i := (.iload_n 3)) (len := 1) (pc2 := 37) (lv2 := [(3, .int r1), (0, .ref 67), (1, .int x1), (2, .int x2)]) (st2 := [.int r1, .ref 77]) (h2 := (sh_rep m13.T m13.I m13.J)) rfl rfl rfl ?_
        refine sh_w (i := (.aload_n 0)) (len := 1) (pc2 := 38) (lv2 := [(3, .int r1), (0, .ref 67), (1, .int x1), (2, .int x2)]) (st2 := [.ref 67, .int r1, .ref 77]) (h2 := (sh_rep m13.T m13.I m13.J)) rfl rfl rfl ?_
        refine sh_gI1 (len := 3) (x := m13.I 66 21) (pc2 := 41) rfl rfl (sh_s66 hT.st) rfl rfl rfl ?_
        exact kk
      obtain ⟨c, e⟩ := sh_gd e
      refine sh_Lk_lift (T := m13.T) (I := m13.I) (J := m13.J) (s := m13.s) (pc2 := 44) (lv2 := [(3, .int r1), (0, .ref 67), (1, .int x1), (2, .int x2)]) (st2 := [.int 2, .ref 67]) (I2 := sh_u2 m13.I 76 (Int32.toNatClampNeg r1) (m13.I 66 21)) (J2 := m13.J) (fun hT v kk => ?_) ?_
      · refine sh_is1 (x := m13.I 66 21) (i := r1) (pc2 := 42) rfl (sh_s76 hT.st) (sh_okb1 c) (sh_okb2 c) rfl ?_
        refine sh_w (i := (.aload_n 0)) (len := 1) (pc2 := 43) (lv2 := [(3, .int r1), (0, .ref 67), (1, .int x1), (2, .int x2)]) (st2 := [.ref 67]) (h2 := (sh_rep m13.T (sh_u2 m13.I 76 (Int32.toNatClampNeg r1) (m13.I 66 21)) m13.J)) rfl rfl rfl ?_
        refine sh_w (i := (.iconst 2)) (len := 1) (pc2 := 44) (lv2 := [(3, .int r1), (0, .ref 67), (1, .int x1), (2, .int x2)]) (st2 := [.int 2, .ref 67]) (h2 := (sh_rep m13.T (sh_u2 m13.I 76 (Int32.toNatClampNeg r1) (m13.I 66 21)) m13.J)) rfl rfl rfl ?_
        exact kk
      obtain ⟨r4, m14, e4, e⟩ := sh_bn_e e
      refine sh_Lk_cV (r := (some (.int (sh_b2 r4)))) (st2 := [.int (sh_b2 r4)]) (pc2 := 47) (k2 := 262) (a := 66) (as := [.ref 67, .int 2]) (rest := []) rfl rfl rfl (fun hT => (sh_s66 hT.st)) rfl rfl ⟨Nat.le_of_ble_eq_true rfl, Nat.le_of_ble_eq_true rfl⟩ (sl_262 e4 ⟨rfl, rfl⟩) rfl rfl (show 9 + 1 ≤ d + 1 + 1034 by omega) (show 8 + (2 + 11) + (222) ≤ 40 * (d + 1) + 40690 by omega) ?_
      rcases sh_ite e with ⟨c, e⟩ | ⟨c, e⟩
      · refine sh_Lk_lift (T := m14.T) (I := m14.I) (J := m14.J) (s := m14.s) (pc2 := 54) (lv2 := [(3, .int r1), (0, .ref 67), (1, .int x1), (2, .int x2)]) (st2 := [.int 11822, .ref 67]) (I2 := m14.I) (J2 := m14.J) (fun hT v kk => ?_) ?_
        · refine sh_j0 (c := .eq) (off := (30)) (pc2 := 50) false rfl (sh_Zeqf c) rfl ?_
          refine sh_w (i := (.aload_n 0)) (len := 1) (pc2 := 51) (lv2 := [(3, .int r1), (0, .ref 67), (1, .int x1), (2, .int x2)]) (st2 := [.ref 67]) (h2 := (sh_rep m14.T m14.I m14.J)) rfl rfl rfl ?_
          refine sh_w (i := (.sipush 11822)) (len := 3) (pc2 := 54) (lv2 := [(3, .int r1), (0, .ref 67), (1, .int x1), (2, .int x2)]) (st2 := [.int 11822, .ref 67]) (h2 := (sh_rep m14.T m14.I m14.J)) rfl rfl rfl ?_
          exact kk
        obtain ⟨r5, m15, e5, e⟩ := sh_bn_e e
        refine sh_Lk_cV (r := (some (.int (sh_b2 r5)))) (st2 := [.int (sh_b2 r5)]) (pc2 := 57) (k2 := 262) (a := 66) (as := [.ref 67, .int 11822]) (rest := []) rfl rfl rfl (fun hT => (sh_s66 hT.st)) rfl rfl ⟨Nat.le_of_ble_eq_true rfl, Nat.le_of_ble_eq_true rfl⟩ (sl_262 e5 ⟨rfl, rfl⟩) rfl rfl (show 9 + 1 ≤ d + 1 + 1034 by omega) (show 8 + (2 + 11) + (222) ≤ 40 * (d + 1) + 40690 by omega) ?_
        rcases sh_ite e with ⟨c, e⟩ | ⟨c, e⟩
        · refine sh_Lk_lift (T := m15.T) (I := m15.I) (J := m15.J) (s := m15.s) (pc2 := 62) (lv2 := [(3, .int r1), (0, .ref 67), (1, .int x1), (2, .int x2)]) (st2 := [.int 2, .ref 67]) (I2 := m15.I) (J2 := m15.J) (fun hT v kk => ?_) ?_
          · refine sh_j0 (c := .eq) (off := (20)) (pc2 := 60) false rfl (sh_Zeqf c) rfl ?_
            refine sh_w (i := (.aload_n 0)) (len := 1) (pc2 := 61) (lv2 := [(3, .int r1), (0, .ref 67), (1, .int x1), (2, .int x2)]) (st2 := [.ref 67]) (h2 := (sh_rep m15.T m15.I m15.J)) rfl rfl rfl ?_
            refine sh_w (i := (.iconst 2)) (len := 1) (pc2 := 62) (lv2 := [(3, .int r1), (0, .ref 67), (1, .int x1), (2, .int x2)]) (st2 := [.int 2, .ref 67]) (h2 := (sh_rep m15.T m15.I m15.J)) rfl rfl rfl ?_
            exact kk
          obtain ⟨r6, m16, e6, e⟩ := sh_bn_e e
          refine sh_Lk_cV (r := (some (.int (sh_b2 r6)))) (st2 := [.int (sh_b2 r6)]) (pc2 := 65) (k2 := 262) (a := 66) (as := [.ref 67, .int 2]) (rest := []) rfl rfl rfl (fun hT => (sh_s66 hT.st)) rfl rfl ⟨Nat.le_of_ble_eq_true rfl, Nat.le_of_ble_eq_true rfl⟩ (sl_262 e6 ⟨rfl, rfl⟩) rfl rfl (show 9 + 1 ≤ d + 1 + 1034 by omega) (show 8 + (2 + 11) + (222) ≤ 40 * (d + 1) + 40690 by omega) ?_
          rcases sh_ite e with ⟨c, e⟩ | ⟨c, e⟩
          · refine sh_Lk_lift (T := m16.T) (I := m16.I) (J := m16.J) (s := m16.s) (pc2 := 71) (lv2 := [(3, .int r1), (0, .ref 67), (1, .int x1), (2, .int x2)]) (st2 := [.int 123, .ref 67]) (I2 := m16.I) (J2 := m16.J) (fun hT v kk => ?_) ?_
            · refine sh_j0 (c := .eq) (off := (12)) (pc2 := 68) false rfl (sh_Zeqf c) rfl ?_
              refine sh_w (i := (.aload_n 0)) (len := 1) (pc2 := 69) (lv2 := [(3, .int r1), (0, .ref 67), (1, .int x1), (2, .int x2)]) (st2 := [.ref 67]) (h2 := (sh_rep m16.T m16.I m16.J)) rfl rfl rfl ?_
              refine sh_w (i := (.bipush 123)) (len := 2) (pc2 := 71) (lv2 := [(3, .int r1), (0, .ref 67), (1, .int x1), (2, .int x2)]) (st2 := [.int 123, .ref 67]) (h2 := (sh_rep m16.T m16.I m16.J)) rfl rfl rfl ?_
              exact kk
            obtain ⟨r7, m17, e7, e⟩ := sh_bn_e e
            refine sh_Lk_cV (r := (some (.int (sh_b2 r7)))) (st2 := [.int (sh_b2 r7)]) (pc2 := 74) (k2 := 262) (a := 66) (as := [.ref 67, .int 123]) (rest := []) rfl rfl rfl (fun hT => (sh_s66 hT.st)) rfl rfl ⟨Nat.le_of_ble_eq_true rfl, Nat.le_of_ble_eq_true rfl⟩ (sl_262 e7 ⟨rfl, rfl⟩) rfl rfl (show 9 + 1 ≤ d + 1 + 1034 by omega) (show 8 + (2 + 11) + (222) ≤ 40 * (d + 1) + 40690 by omega) ?_
            rcases sh_ite e with ⟨c, e⟩ | ⟨c, e⟩
            · refine sh_Lk_lift (T := m17.T) (I := m17.I) (J := m17.J) (s := m17.s) (pc2 := 88) (lv2 := [(3, .int r1), (0, .ref 67), (1, .int x1), (2, .int x2)]) (st2 := [.int (x2 + 1), .ref 67, .int r1, .ref 75]) (I2 := m17.I) (J2 := m17.J) (fun hT v kk => ?_) ?_
              · refine sh_j0 (c := .ne) (off := (5)) (pc2 := 79) true rfl (sh_Znet c) rfl ?_
                refine sh_w (i := (.aload_n 0)) (len := 1) (pc2 := 80) (lv2 := [(3, .int r1), (0, .ref 67), (1, .int x1), (2, .int x2)]) (st2 := [.ref 67]) (h2 := (sh_rep m17.T m17.I m17.J)) rfl rfl rfl ?_
                refine sh_gR1 (len := 3) (x := .ref 75) (pc2 := 83) rfl rfl (sh_s66 hT.st) rfl rfl ?_
                refine sh_w (i := (.iload_n 3)) (len := 1) (pc2 := 84) (lv2 := [(3, .int r1), (0, .ref 67), (1, .int x1), (2, .int x2)]) (st2 := [.int r1, .ref 75]) (h2 := (sh_rep m17.T m17.I m17.J)) rfl rfl rfl ?_
                refine sh_w (i := (.aload_n 0)) (len := 1) (pc2 := 85) (lv2 := [(3, .int r1), (0, .ref 67), (1, .int x1), (2, .int x2)]) (st2 := [.ref 67, .int r1, .ref 75]) (h2 := (sh_rep m17.T m17.I m17.J)) rfl rfl rfl ?_
                refine sh_w (i := (.iload_n 2)) (len := 1) (pc2 := 86) (lv2 := [(3, .int r1), (0, .ref 67), (1, .int x1), (2, .int x2)]) (st2 := [.int x2, .ref 67, .int r1, .ref 75]) (h2 := (sh_rep m17.T m17.I m17.J)) rfl rfl rfl ?_
                refine sh_w (i := (.iconst 1)) (len := 1) (pc2 := 87) (lv2 := [(3, .int r1), (0, .ref 67), (1, .int x1), (2, .int x2)]) (st2 := [.int 1, .int x2, .ref 67, .int r1, .ref 75]) (h2 := (sh_rep m17.T m17.I m17.J)) rfl rfl rfl ?_
                refine sh_w (i := .iadd) (len := 1) (pc2 := 88) (lv2 := [(3, .int r1), (0, .ref 67), (1, .int x1), (2, .int x2)]) (st2 := [.int (x2 + 1), .ref 67, .int r1, .ref 75]) (h2 := (sh_rep m17.T m17.I m17.J)) rfl rfl rfl ?_
                exact kk
              obtain ⟨r8, m18, e8, e⟩ := sh_bn_e e
              refine sh_Lk_cV (r := (some (.int r8))) (st2 := [.int r8, .int r1, .ref 75]) (pc2 := 91) (k2 := 264) (a := 66) (as := [.ref 67, .int (x2 + 1)]) (rest := [.int r1, .ref 75]) rfl rfl rfl (fun hT => (sh_s66 hT.st)) rfl rfl ⟨Nat.le_of_ble_eq_true rfl, Nat.le_of_ble_eq_true rfl⟩ (hQ.f264 e8 ⟨rfl, rfl⟩) rfl rfl (show d + 1034 + 1 ≤ d + 1 + 1034 by omega) (show 8 + (5 + 11) + (40 * d + 40690) ≤ 40 * (d + 1) + 40690 by omega) ?_
              obtain ⟨c, e⟩ := sh_gd e
              refine sh_Lk_lift (T := m18.T) (I := m18.I) (J := m18.J) (s := m18.s) (pc2 := 97) (lv2 := [(3, .int r1), (0, .ref 67), (1, .int x1), (2, .int x2)]) (st2 := [.int r1, .ref 75]) (I2 := sh_u2 m18.I 74 (Int32.toNatClampNeg r1) r8) (J2 := m18.J) (fun hT v kk => ?_) ?_
              · refine sh_is1 (x := r8) (i := r1) (pc2 := 92) rfl (sh_s74 hT.st) (sh_okb1 c) (sh_okb2 c) rfl ?_
                refine sh_w (i := (.aload_n 0)) (len := 1) (pc2 := 93) (lv2 := [(3, .int r1), (0, .ref 67), (1, .int x1), (2, .int x2)]) (st2 := [.ref 67]) (h2 := (sh_rep m18.T (sh_u2 m18.I 74 (Int32.toNatClampNeg r1) r8) m18.J)) rfl rfl rfl ?_
                refine sh_gR1 (len := 3) (x := .ref 75) (pc2 := 96) rfl rfl (sh_s66 hT.st) rfl rfl ?_
                refine sh_w (i := (.iload_n 3)) (len := 1) (pc2 := 97) (lv2 := [(3, .int r1), (0, .ref 67), (1, .int x1), (2, .int x2)]) (st2 := [.int r1, .ref 75]) (h2 := (sh_rep m18.T (sh_u2 m18.I 74 (Int32.toNatClampNeg r1) r8) m18.J)) rfl rfl rfl ?_
                exact kk
              obtain ⟨c, e⟩ := sh_gd e
              refine sh_Lk_lift (T := m18.T) (I := sh_u2 m18.I 74 (Int32.toNatClampNeg r1) r8) (J := m18.J) (s := m18.s) (pc2 := 100) (lv2 := [(3, .int r1), (0, .ref 67), (1, .int x1), (2, .int x2)]) (st2 := [.int (-2), .int ((sh_u2 m18.I 74 (Int32.toNatClampNeg r1) r8) 74 (Int32.toNatClampNeg r1))]) (I2 := sh_u2 m18.I 74 (Int32.toNatClampNeg r1) r8) (J2 := m18.J) (fun hT v kk => ?_) ?_
              · refine sh_ia1 (x := (sh_u2 m18.I 74 (Int32.toNatClampNeg r1) r8) 74 (Int32.toNatClampNeg r1)) (pc2 := 98) rfl (sh_s74 hT.st) (sh_okb1 c) (sh_okb2 c) rfl rfl ?_
                refine sh_w (i := (.bipush (-2))) (len := 2) (pc2 := 100) (lv2 := [(3, .int r1), (0, .ref 67), (1, .int x1), (2, .int x2)]) (st2 := [.int (-2), .int ((sh_u2 m18.I 74 (Int32.toNatClampNeg r1) r8) 74 (Int32.toNatClampNeg r1))]) (h2 := (sh_rep m18.T (sh_u2 m18.I 74 (Int32.toNatClampNeg r1) r8) m18.J)) rfl rfl rfl ?_
                exact kk
              rcases sh_ite e with ⟨c, e⟩ | ⟨c, e⟩
              · refine sh_Lk_lift (T := m18.T) (I := sh_u2 m18.I 74 (Int32.toNatClampNeg r1) r8) (J := m18.J) (s := m18.s) (pc2 := 117) (lv2 := [(3, .int r1), (0, .ref 67), (1, .int x1), (2, .int x2)]) (st2 := [.int (-1)]) (I2 := sh_u2 m18.I 74 (Int32.toNatClampNeg r1) r8) (J2 := m18.J) (fun hT v kk => ?_) ?_
                · refine sh_jc (c := .eq) (off := (16)) (pc2 := 116) true rfl (sh_Beqt c) rfl ?_
                  refine sh_w (i := (.iconst (-1))) (len := 1) (pc2 := 117) (lv2 := [(3, .int r1), (0, .ref 67), (1, .int x1), (2, .int x2)]) (st2 := [.int (-1)]) (h2 := (sh_rep m18.T (sh_u2 m18.I 74 (Int32.toNatClampNeg r1) r8) m18.J)) rfl rfl rfl ?_
                  exact kk
                obtain rfl := Option.some.inj e
                obtain ⟨rfl, rfl⟩ := tg
                exact sh_Lk_ret (i := .ireturn) rfl rfl rfl (by omega) (by omega)
              · refine sh_Lk_lift (T := m18.T) (I := sh_u2 m18.I 74 (Int32.toNatClampNeg r1) r8) (J := m18.J) (s := m18.s) (pc2 := 106) (lv2 := [(3, .int r1), (0, .ref 67), (1, .int x1), (2, .int x2)]) (st2 := [.int 125, .ref 67]) (I2 := sh_u2 m18.I 74 (Int32.toNatClampNeg r1) r8) (J2 := m18.J) (fun hT v kk => ?_) ?_
                · refine sh_jc (c := .eq) (off := (16)) (pc2 := 103) false rfl (sh_Beqf c) rfl ?_
                  refine sh_w (i := (.aload_n 0)) (len := 1) (pc2 := 104) (lv2 := [(3, .int r1), (0, .ref 67), (1, .int x1), (2, .int x2)]) (st2 := [.ref 67]) (h2 := (sh_rep m18.T (sh_u2 m18.I 74 (Int32.toNatClampNeg r1) r8) m18.J)) rfl rfl rfl ?_
                  refine sh_w (i := (.bipush 125)) (len := 2) (pc2 := 106) (lv2 := [(3, .int r1), (0, .ref 67), (1, .int x1), (2, .int x2)]) (st2 := [.int 125, .ref 67]) (h2 := (sh_rep m18.T (sh_u2 m18.I 74 (Int32.toNatClampNeg r1) r8) m18.J)) rfl rfl rfl ?_
                  exact kk
                obtain ⟨r9, m19, e9, e⟩ := sh_bn_e e
                refine sh_Lk_cV (r := (some (.int (sh_b2 r9)))) (st2 := [.int (sh_b2 r9)]) (pc2 := 109) (k2 := 262) (a := 66) (as := [.ref 67, .int 125]) (rest := []) rfl rfl rfl (fun hT => (sh_s66 hT.st)) rfl rfl ⟨Nat.le_of_ble_eq_true rfl, Nat.le_of_ble_eq_true rfl⟩ (sl_262 e9 ⟨rfl, rfl⟩) rfl rfl (show 9 + 1 ≤ d + 1 + 1034 by omega) (show 8 + (2 + 11) + (222) ≤ 40 * (d + 1) + 40690 by omega) ?_
                rcases sh_ite e with ⟨c, e⟩ | ⟨c, e⟩
                · refine sh_Lk_lift (T := m19.T) (I := m19.I) (J := m19.J) (s := m19.s) (pc2 := 117) (lv2 := [(3, .int r1), (0, .ref 67), (1, .int x1), (2, .int x2)]) (st2 := [.int r1]) (I2 := m19.I) (J2 := m19.J) (fun hT v kk => ?_) ?_
                  · refine sh_j0 (c := .eq) (off := (7)) (pc2 := 112) false rfl (sh_Zeqf c) rfl ?_
                    refine sh_w (i := (.iload_n 3)) (len := 1) (pc2 := 113) (lv2 := [(3, .int r1), (0, .ref 67), (1, .int x1), (2, .int x2)]) (st2 := [.int r1]) (h2 := (sh_rep m19.T m19.I m19.J)) rfl rfl rfl ?_
                    refine sh_w (i := (.goto 4)) (len := 3) (pc2 := 117) (lv2 := [(3, .int r1), (0, .ref 67), (1, .int x1), (2, .int x2)]) (st2 := [.int r1]) (h2 := (sh_rep m19.T m19.I m19.J)) rfl rfl rfl ?_
                    exact kk
                  obtain rfl := Option.some.inj e
                  obtain ⟨rfl, rfl⟩ := tg
                  exact sh_Lk_ret (i := .ireturn) rfl rfl rfl (by omega) (by omega)
                · refine sh_Lk_lift (T := m19.T) (I := m19.I) (J := m19.J) (s := m19.s) (pc2 := 117) (lv2 := [(3, .int r1), (0, .ref 67), (1, .int x1), (2, .int x2)]) (st2 := [.int (-1)]) (I2 := m19.I) (J2 := m19.J) (fun hT v kk => ?_) ?_
                  · refine sh_j0 (c := .eq) (off := (7)) (pc2 := 116) true rfl (sh_Zeqt c) rfl ?_
                    refine sh_w (i := (.iconst (-1))) (len := 1) (pc2 := 117) (lv2 := [(3, .int r1), (0, .ref 67), (1, .int x1), (2, .int x2)]) (st2 := [.int (-1)]) (h2 := (sh_rep m19.T m19.I m19.J)) rfl rfl rfl ?_
                    exact kk
                  obtain rfl := Option.some.inj e
                  obtain ⟨rfl, rfl⟩ := tg
                  exact sh_Lk_ret (i := .ireturn) rfl rfl rfl (by omega) (by omega)
            · refine sh_Lk_lift (T := m17.T) (I := m17.I) (J := m17.J) (s := m17.s) (pc2 := 78) (lv2 := [(3, .int r1), (0, .ref 67), (1, .int x1), (2, .int x2)]) (st2 := [.int (-1)]) (I2 := m17.I) (J2 := m17.J) (fun hT v kk => ?_) ?_
              · refine sh_j0 (c := .ne) (off := (5)) (pc2 := 77) false rfl (sh_Znef c) rfl ?_
                refine sh_w (i := (.iconst (-1))) (len := 1) (pc2 := 78) (lv2 := [(3, .int r1), (0, .ref 67), (1, .int x1), (2, .int x2)]) (st2 := [.int (-1)]) (h2 := (sh_rep m17.T m17.I m17.J)) rfl rfl rfl ?_
                exact kk
              obtain rfl := Option.some.inj e
              obtain ⟨rfl, rfl⟩ := tg
              exact sh_Lk_ret (i := .ireturn) rfl rfl rfl (by omega) (by omega)
          · refine sh_Lk_lift (T := m16.T) (I := m16.I) (J := m16.J) (s := m16.s) (pc2 := 78) (lv2 := [(3, .int r1), (0, .ref 67), (1, .int x1), (2, .int x2)]) (st2 := [.int (-1)]) (I2 := m16.I) (J2 := m16.J) (fun hT v kk => ?_) ?_
            · refine sh_j0 (c := .eq) (off := (12)) (pc2 := 77) true rfl (sh_Zeqt c) rfl ?_
              refine sh_w (i := (.iconst (-1))) (len := 1) (pc2 := 78) (lv2 := [(3, .int r1), (0, .ref 67), (1, .int x1), (2, .int x2)]) (st2 := [.int (-1)]) (h2 := (sh_rep m16.T m16.I m16.J)) rfl rfl rfl ?_
              exact kk
            obtain rfl := Option.some.inj e
            obtain ⟨rfl, rfl⟩ := tg
            exact sh_Lk_ret (i := .ireturn) rfl rfl rfl (by omega) (by omega)
        · refine sh_Lk_lift (T := m15.T) (I := m15.I) (J := m15.J) (s := m15.s) (pc2 := 78) (lv2 := [(3, .int r1), (0, .ref 67), (1, .int x1), (2, .int x2)]) (st2 := [.int (-1)]) (I2 := m15.I) (J2 := m15.J) (fun hT v kk => ?_) ?_
          · refine sh_j0 (c := .eq) (off := (20)) (pc2 := 77) true rfl (sh_Zeqt c) rfl ?_
            refine sh_w (i := (.iconst (-1))) (len := 1) (pc2 := 78) (lv2 := [(3, .int r1), (0, .ref 67), (1, .int x1), (2, .int x2)]) (st2 := [.int (-1)]) (h2 := (sh_rep m15.T m15.I m15.J)) rfl rfl rfl ?_
            exact kk
          obtain rfl := Option.some.inj e
          obtain ⟨rfl, rfl⟩ := tg
          exact sh_Lk_ret (i := .ireturn) rfl rfl rfl (by omega) (by omega)
      · refine sh_Lk_lift (T := m14.T) (I := m14.I) (J := m14.J) (s := m14.s) (pc2 := 78) (lv2 := [(3, .int r1), (0, .ref 67), (1, .int x1), (2, .int x2)]) (st2 := [.int (-1)]) (I2 := m14.I) (J2 := m14.J) (fun hT v kk => ?_) ?_
        · refine sh_j0 (c := .eq) (off := (30)) (pc2 := 77) true rfl (sh_Zeqt c) rfl ?_
          refine sh_w (i := (.iconst (-1))) (len := 1) (pc2 := 78) (lv2 := [(3, .int r1), (0, .ref 67), (1, .int x1), (2, .int x2)]) (st2 := [.int (-1)]) (h2 := (sh_rep m14.T m14.I m14.J)) rfl rfl rfl ?_
          exact kk
        obtain rfl := Option.some.inj e
        obtain ⟨rfl, rfl⟩ := tg
        exact sh_Lk_ret (i := .ireturn) rfl rfl rfl (by omega) (by omega)
    · refine sh_Lk_lift (T := m13.T) (I := m13.I) (J := m13.J) (s := m13.s) (pc2 := 31) (lv2 := [(3, .int r1), (0, .ref 67), (1, .int x1), (2, .int x2)]) (st2 := [.int (-1)]) (I2 := m13.I) (J2 := m13.J) (fun hT v kk => ?_) ?_
      · refine sh_j0 (c := .ne) (off := (5)) (pc2 := 30) false rfl (sh_Znef c) rfl ?_
        refine sh_w (i := (.iconst (-1))) (len := 1) (pc2 := 31) (lv2 := [(3, .int r1), (0, .ref 67), (1, .int x1), (2, .int x2)]) (st2 := [.int (-1)]) (h2 := (sh_rep m13.T m13.I m13.J)) rfl rfl rfl ?_
        exact kk
      obtain rfl := Option.some.inj e
      obtain ⟨rfl, rfl⟩ := tg
      exact sh_Lk_ret (i := .ireturn) rfl rfl rfl (by omega) (by omega)
  · refine sh_Lk_lift (T := m12.T) (I := m12.I) (J := m12.J) (s := m12.s) (pc2 := 31) (lv2 := [(3, .int r1), (0, .ref 67), (1, .int x1), (2, .int x2)]) (st2 := [.int (-1)]) (I2 := m12.I) (J2 := m12.J) (fun hT v kk => ?_) ?_
    · refine sh_j0 (c := .eq) (off := (13)) (pc2 := 30) true rfl (sh_Zeqt c) rfl ?_
      refine sh_w (i := (.iconst (-1))) (len := 1) (pc2 := 31) (lv2 := [(3, .int r1), (0, .ref 67), (1, .int x1), (2, .int x2)]) (st2 := [.int (-1)]) (h2 := (sh_rep m12.T m12.I m12.J)) rfl rfl rfl ?_
      exact kk
    obtain rfl := Option.some.inj e
    obtain ⟨rfl, rfl⟩ := tg
    exact sh_Lk_ret (i := .ireturn) rfl rfl rfl (by omega) (by omega)
theorem sq_242_l : ∀ d, sh_QL242 (sq_242 d) d
  | 0 => ⟨(fun h _ => by cases h), (fun h _ => by cases h), (fun h _ => by cases h), (fun h _ => by cases h)⟩
  | d + 1 => ⟨(fun h t => sl_264 (sq_242_l d) h t), (fun h t => sl_265 (sq_242_l d) h t), (fun h t => sl_275 (sq_242_l d) h t), (fun h t => sl_276 (sq_242_l d) h t)⟩
theorem sl_257_176 {x1 : Int32} {y0 : Bool} {m m2 : sh_X} {o : Outcome} {z : ((Int32 × Bool × sh_X) ⊕ (Bool × sh_X))} (e : sf_257_176 x1 y0 m = some z) (tg : (sh_el (fun q => sh_Lk 257 59 [(0, .ref 67), (1, .int q.1), (2, .int (sh_b2 q.2.1))] [] q.2.2 o m2 2035 80714) (sh_tZ o m2)) z) : sh_Lk 257 176 [(0, .ref 67), (1, .int x1)] [.int (sh_b2 y0)] m o m2 2035 80714 := by
  unfold sf_257_176 at e
  refine sh_Lk_lift (T := m.T) (I := m.I) (J := m.J) (s := m.s) (pc2 := 178) (lv2 := [(2, .int (sh_b2 y0)), (0, .ref 67), (1, .int x1)]) (st2 := [.int (sh_b2 y0)]) (I2 := m.I) (J2 := m.J) (fun hT v kk => ?_) ?_
  · refine sh_w (i := (.istore_n 2)) (len := 1) (pc2 := 177) (lv2 := [(2, .int (sh_b2 y0)), (0, .ref 67), (1, .int x1)]) (st2 := []) (h2 := (sh_rep m.T m.I m.J)) rfl rfl rfl ?_
    refine sh_w (i := (.iload_n 2)) (len := 1) (pc2 := 178) (lv2 := [(2, .int (sh_b2 y0)), (0, .ref 67), (1, .int x1)]) (st2 := [.int (sh_b2 y0)]) (h2 := (sh_rep m.T m.I m.J)) rfl rfl rfl ?_
    exact kk
  rcases sh_ite e with ⟨c, e⟩ | ⟨c, e⟩
  · refine sh_Lk_lift (T := m.T) (I := m.I) (J := m.J) (s := m.s) (pc2 := 59) (lv2 := [(2, .int (sh_b2 y0)), (0, .ref 67), (1, .int x1)]) (st2 := []) (I2 := sh_u2 m.I 66 21 ((m.I 66 21) + 1)) (J2 := m.J) (fun hT v kk => ?_) ?_
    · refine sh_j0 (c := .eq) (off := (-119)) (pc2 := 181) false rfl (sh_Zeqf c) rfl ?_
      refine sh_w (i := (.aload_n 0)) (len := 1) (pc2 := 182) (lv2 := [(2, .int (sh_b2 y0)), (0, .ref 67), (1, .int x1)]) (st2 := [.ref 67]) (h2 := (sh_rep m.T m.I m.J)) rfl rfl rfl ?_
      refine sh_w (i := .dup) (len := 1) (pc2 := 183) (lv2 := [(2, .int (sh_b2 y0)), (0, .ref 67), (1, .int x1)]) (st2 := [.ref 67, .ref 67]) (h2 := (sh_rep m.T m.I m.J)) rfl rfl rfl ?_
      refine sh_gI1 (len := 3) (x := m.I 66 21) (pc2 := 186) rfl rfl (sh_s66 hT.st) rfl rfl rfl ?_
      refine sh_w (i := (.iconst 1)) (len := 1) (pc2 := 187) (lv2 := [(2, .int (sh_b2 y0)), (0, .ref 67), (1, .int x1)]) (st2 := [.int 1, .int (m.I 66 21), .ref 67]) (h2 := (sh_rep m.T m.I m.J)) rfl rfl rfl ?_
      refine sh_w (i := .iadd) (len := 1) (pc2 := 188) (lv2 := [(2, .int (sh_b2 y0)), (0, .ref 67), (1, .int x1)]) (st2 := [.int ((m.I 66 21) + 1), .ref 67]) (h2 := (sh_rep m.T m.I m.J)) rfl rfl rfl ?_
      refine sh_pI1 (x := (m.I 66 21) + 1) (pc2 := 191) rfl rfl (sh_s66 hT.st) rfl rfl rfl rfl ?_
      refine sh_w (i := (.goto (-132))) (len := 3) (pc2 := 59) (lv2 := [(2, .int (sh_b2 y0)), (0, .ref 67), (1, .int x1)]) (st2 := []) (h2 := (sh_rep m.T (sh_u2 m.I 66 21 ((m.I 66 21) + 1)) m.J)) rfl rfl rfl ?_
      exact kk
    obtain rfl := Option.some.inj e
    exact sh_Lk_sub (sh_sub_c rfl (sh_sub_c rfl (sh_sub_c rfl (sh_sub_n)))) tg
  · refine sh_Lk_lift (T := m.T) (I := m.I) (J := m.J) (s := m.s) (pc2 := 59) (lv2 := [(2, .int (sh_b2 y0)), (0, .ref 67), (1, .int x1)]) (st2 := []) (I2 := m.I) (J2 := m.J) (fun hT v kk => ?_) ?_
    · refine sh_j0 (c := .eq) (off := (-119)) (pc2 := 59) true rfl (sh_Zeqt c) rfl ?_
      exact kk
    obtain rfl := Option.some.inj e
    exact sh_Lk_sub (sh_sub_c rfl (sh_sub_c rfl (sh_sub_c rfl (sh_sub_n)))) tg
theorem sl_257_194 {x1 : Int32} {m m2 : sh_X} {o : Outcome} {z : (Bool × sh_X)} (e : sf_257_194 x1 m = some z) (tg : (sh_tZ o m2) z) : sh_Lk 257 194 [(0, .ref 67), (1, .int x1)] [] m o m2 2035 80714 := by
  unfold sf_257_194 at e
  refine sh_Lk_lift (T := m.T) (I := m.I) (J := m.J) (s := m.s) (pc2 := 203) (lv2 := [(0, .ref 67), (1, .int x1)]) (st2 := [.int x1, .int (m.I 66 31), .ref 81]) (I2 := m.I) (J2 := m.J) (fun hT v kk => ?_) ?_
  · refine sh_w (i := (.aload_n 0)) (len := 1) (pc2 := 195) (lv2 := [(0, .ref 67), (1, .int x1)]) (st2 := [.ref 67]) (h2 := (sh_rep m.T m.I m.J)) rfl rfl rfl ?_
    refine sh_gR1 (len := 3) (x := .ref 81) (pc2 := 198) rfl rfl (sh_s66 hT.st) rfl rfl ?_
    refine sh_w (i := (.aload_n 0)) (len := 1) (pc2 := 199) (lv2 := [(0, .ref 67), (1, .int x1)]) (st2 := [.ref 67, .ref 81]) (h2 := (sh_rep m.T m.I m.J)) rfl rfl rfl ?_
    refine sh_gI1 (len := 3) (x := m.I 66 31) (pc2 := 202) rfl rfl (sh_s66 hT.st) rfl rfl rfl ?_
    refine sh_w (i := (.iload_n 1)) (len := 1) (pc2 := 203) (lv2 := [(0, .ref 67), (1, .int x1)]) (st2 := [.int x1, .int (m.I 66 31), .ref 81]) (h2 := (sh_rep m.T m.I m.J)) rfl rfl rfl ?_
    exact kk
  obtain ⟨c, e⟩ := sh_gd e
  refine sh_Lk_lift (T := m.T) (I := m.I) (J := m.J) (s := m.s) (pc2 := 207) (lv2 := [(0, .ref 67), (1, .int x1)]) (st2 := [.int 41, .ref 67]) (I2 := sh_u2 m.I 80 (Int32.toNatClampNeg (m.I 66 31)) x1) (J2 := m.J) (fun hT v kk => ?_) ?_
  · refine sh_is1 (x := x1) (i := m.I 66 31) (pc2 := 204) rfl (sh_s80 hT.st) (sh_okb1 c) (sh_okb2 c) rfl ?_
    refine sh_w (i := (.aload_n 0)) (len := 1) (pc2 := 205) (lv2 := [(0, .ref 67), (1, .int x1)]) (st2 := [.ref 67]) (h2 := (sh_rep m.T (sh_u2 m.I 80 (Int32.toNatClampNeg (m.I 66 31)) x1) m.J)) rfl rfl rfl ?_
    refine sh_w (i := (.bipush 41)) (len := 2) (pc2 := 207) (lv2 := [(0, .ref 67), (1, .int x1)]) (st2 := [.int 41, .ref 67]) (h2 := (sh_rep m.T (sh_u2 m.I 80 (Int32.toNatClampNeg (m.I 66 31)) x1) m.J)) rfl rfl rfl ?_
    exact kk
  obtain ⟨r1, m11, e1, e⟩ := sh_bn_e e
  refine sh_Lk_cV (r := (some (.int (sh_b2 r1)))) (st2 := [.int (sh_b2 r1)]) (pc2 := 210) (k2 := 262) (a := 66) (as := [.ref 67, .int 41]) (rest := []) rfl rfl rfl (fun hT => (sh_s66 hT.st)) rfl rfl ⟨Nat.le_of_ble_eq_true rfl, Nat.le_of_ble_eq_true rfl⟩ (sl_262 e1 ⟨rfl, rfl⟩) rfl rfl (Nat.le_of_ble_eq_true rfl) (Nat.le_of_ble_eq_true rfl) ?_
  rcases sh_ite e with ⟨c, e⟩ | ⟨c, e⟩
  · refine sh_Lk_lift (T := m11.T) (I := m11.I) (J := m11.J) (s := m11.s) (pc2 := 214) (lv2 := [(0, .ref 67), (1, .int x1)]) (st2 := [.ref 67]) (I2 := m11.I) (J2 := m11.J) (fun hT v kk => ?_) ?_
    · refine sh_j0 (c := .eq) (off := (10)) (pc2 := 213) false rfl (sh_Zeqf c) rfl ?_
      refine sh_w (i := (.aload_n 0)) (len := 1) (pc2 := 214) (lv2 := [(0, .ref 67), (1, .int x1)]) (st2 := [.ref 67]) (h2 := (sh_rep m11.T m11.I m11.J)) rfl rfl rfl ?_
      exact kk
    obtain ⟨r2, m12, e2, e⟩ := sh_bn_e e
    refine sh_Lk_cV (r := (some (.int (sh_b2 r2)))) (st2 := [.int (sh_b2 r2)]) (pc2 := 217) (k2 := 263) (a := 66) (as := [.ref 67]) (rest := []) rfl rfl rfl (fun hT => (sh_s66 hT.st)) rfl rfl ⟨Nat.le_of_ble_eq_true rfl, Nat.le_of_ble_eq_true rfl⟩ (sl_263 e2 ⟨rfl, rfl⟩) rfl rfl (Nat.le_of_ble_eq_true rfl) (Nat.le_of_ble_eq_true rfl) ?_
    rcases sh_ite e with ⟨c, e⟩ | ⟨c, e⟩
    · refine sh_Lk_lift (T := m12.T) (I := m12.I) (J := m12.J) (s := m12.s) (pc2 := 234) (lv2 := [(0, .ref 67), (1, .int x1)]) (st2 := [.int (m12.I 66 38), .int (m12.I 66 31), .ref 85]) (I2 := m12.I) (J2 := m12.J) (fun hT v kk => ?_) ?_
      · refine sh_j0 (c := .ne) (off := (5)) (pc2 := 222) true rfl (sh_Znet c) rfl ?_
        refine sh_w (i := (.aload_n 0)) (len := 1) (pc2 := 223) (lv2 := [(0, .ref 67), (1, .int x1)]) (st2 := [.ref 67]) (h2 := (sh_rep m12.T m12.I m12.J)) rfl rfl rfl ?_
        refine sh_gR1 (len := 3) (x := .ref 85) (pc2 := 226) rfl rfl (sh_s66 hT.st) rfl rfl ?_
        refine sh_w (i := (.aload_n 0)) (len := 1) (pc2 := 227) (lv2 := [(0, .ref 67), (1, .int x1)]) (st2 := [.ref 67, .ref 85]) (h2 := (sh_rep m12.T m12.I m12.J)) rfl rfl rfl ?_
        refine sh_gI1 (len := 3) (x := m12.I 66 31) (pc2 := 230) rfl rfl (sh_s66 hT.st) rfl rfl rfl ?_
        refine sh_w (i := (.aload_n 0)) (len := 1) (pc2 := 231) (lv2 := [(0, .ref 67), (1, .int x1)]) (st2 := [.ref 67, .int (m12.I 66 31), .ref 85]) (h2 := (sh_rep m12.T m12.I m12.J)) rfl rfl rfl ?_
        refine sh_gI1 (len := 3) (x := m12.I 66 38) (pc2 := 234) rfl rfl (sh_s66 hT.st) rfl rfl rfl ?_
        exact kk
      obtain ⟨c, e⟩ := sh_gd e
      refine sh_Lk_lift (T := m12.T) (I := m12.I) (J := m12.J) (s := m12.s) (pc2 := 247) (lv2 := [(0, .ref 67), (1, .int x1)]) (st2 := [.int (m12.I 66 39), .int (m12.I 66 31), .ref 86]) (I2 := sh_u2 m12.I 84 (Int32.toNatClampNeg (m12.I 66 31)) (m12.I 66 38)) (J2 := m12.J) (fun hT v kk => ?_) ?_
      · refine sh_is1 (x := m12.I 66 38) (i := m12.I 66 31) (pc2 := 235) rfl (sh_s84 hT.st) (sh_okb1 c) (sh_okb2 c) rfl ?_
        refine sh_w (i := (.aload_n 0)) (len := 1) (pc2 := 236) (lv2 := [(0, .ref 67), (1, .int x1)]) (st2 := [.ref 67]) (h2 := (sh_rep m12.T (sh_u2 m12.I 84 (Int32.toNatClampNeg (m12.I 66 31)) (m12.I 66 38)) m12.J)) rfl rfl rfl ?_
        refine sh_gR1 (len := 3) (x := .ref 86) (pc2 := 239) rfl rfl (sh_s66 hT.st) rfl rfl ?_
        refine sh_w (i := (.aload_n 0)) (len := 1) (pc2 := 240) (lv2 := [(0, .ref 67), (1, .int x1)]) (st2 := [.ref 67, .ref 86]) (h2 := (sh_rep m12.T (sh_u2 m12.I 84 (Int32.toNatClampNeg (m12.I 66 31)) (m12.I 66 38)) m12.J)) rfl rfl rfl ?_
        refine sh_gI1 (len := 3) (x := m12.I 66 31) (pc2 := 243) rfl rfl (sh_s66 hT.st) rfl rfl rfl ?_
        refine sh_w (i := (.aload_n 0)) (len := 1) (pc2 := 244) (lv2 := [(0, .ref 67), (1, .int x1)]) (st2 := [.ref 67, .int (m12.I 66 31), .ref 86]) (h2 := (sh_rep m12.T (sh_u2 m12.I 84 (Int32.toNatClampNeg (m12.I 66 31)) (m12.I 66 38)) m12.J)) rfl rfl rfl ?_
        refine sh_gI1 (len := 3) (x := m12.I 66 39) (pc2 := 247) rfl rfl (sh_s66 hT.st) rfl rfl rfl ?_
        exact kk
      obtain ⟨c, e⟩ := sh_gd e
      refine sh_Lk_lift (T := m12.T) (I := sh_u2 m12.I 84 (Int32.toNatClampNeg (m12.I 66 31)) (m12.I 66 38)) (J := m12.J) (s := m12.s) (pc2 := 251) (lv2 := [(0, .ref 67), (1, .int x1)]) (st2 := [.int 123, .ref 67]) (I2 := sh_u2 (sh_u2 m12.I 84 (Int32.toNatClampNeg (m12.I 66 31)) (m12.I 66 38)) 85 (Int32.toNatClampNeg (m12.I 66 31)) (m12.I 66 39)) (J2 := m12.J) (fun hT v kk => ?_) ?_
      · refine sh_is1 (x := m12.I 66 39) (i := m12.I 66 31) (pc2 := 248) rfl (sh_s85 hT.st) (sh_okb1 c) (sh_okb2 c) rfl ?_
        refine sh_w (i := (.aload_n 0)) (len := 1) (pc2 := 249) (lv2 := [(0, .ref 67), (1, .int x1)]) (st2 := [.ref 67]) (h2 := (sh_rep m12.T (sh_u2 (sh_u2 m12.I 84 (Int32.toNatClampNeg (m12.I 66 31)) (m12.I 66 38)) 85 (Int32.toNatClampNeg (m12.I 66 31)) (m12.I 66 39)) m12.J)) rfl rfl rfl ?_
        refine sh_w (i := (.bipush 123)) (len := 2) (pc2 := 251) (lv2 := [(0, .ref 67), (1, .int x1)]) (st2 := [.int 123, .ref 67]) (h2 := (sh_rep m12.T (sh_u2 (sh_u2 m12.I 84 (Int32.toNatClampNeg (m12.I 66 31)) (m12.I 66 38)) 85 (Int32.toNatClampNeg (m12.I 66 31)) (m12.I 66 39)) m12.J)) rfl rfl rfl ?_
        exact kk
      obtain ⟨r3, m13, e3, e⟩ := sh_bn_e e
      refine sh_Lk_cV (r := (some (.int (sh_b2 r3)))) (st2 := [.int (sh_b2 r3)]) (pc2 := 254) (k2 := 262) (a := 66) (as := [.ref 67, .int 123]) (rest := []) rfl rfl rfl (fun hT => (sh_s66 hT.st)) rfl rfl ⟨Nat.le_of_ble_eq_true rfl, Nat.le_of_ble_eq_true rfl⟩ (sl_262 e3 ⟨rfl, rfl⟩) rfl rfl (Nat.le_of_ble_eq_true rfl) (Nat.le_of_ble_eq_true rfl) ?_
      rcases sh_ite e with ⟨c, e⟩ | ⟨c, e⟩
      · refine sh_Lk_lift (T := m13.T) (I := m13.I) (J := m13.J) (s := m13.s) (pc2 := 269) (lv2 := [(0, .ref 67), (1, .int x1)]) (st2 := [.int 1, .ref 67, .int (m13.I 66 31), .ref 87]) (I2 := m13.I) (J2 := m13.J) (fun hT v kk => ?_) ?_
        · refine sh_j0 (c := .ne) (off := (5)) (pc2 := 259) true rfl (sh_Znet c) rfl ?_
          refine sh_w (i := (.aload_n 0)) (len := 1) (pc2 := 260) (lv2 := [(0, .ref 67), (1, .int x1)]) (st2 := [.ref 67]) (h2 := (sh_rep m13.T m13.I m13.J)) rfl rfl rfl ?_
          refine sh_gR1 (len := 3) (x := .ref 87) (pc2 := 263) rfl rfl (sh_s66 hT.st) rfl rfl ?_
          refine sh_w (i := (.aload_n 0)) (len := 1) (pc2 := 264) (lv2 := [(0, .ref 67), (1, .int x1)]) (st2 := [.ref 67, .ref 87]) (h2 := (sh_rep m13.T m13.I m13.J)) rfl rfl rfl ?_
          refine sh_gI1 (len := 3) (x := m13.I 66 31) (pc2 := 267) rfl rfl (sh_s66 hT.st) rfl rfl rfl ?_
          refine sh_w (i := (.aload_n 0)) (len := 1) (pc2 := 268) (lv2 := [(0, .ref 67), (1, .int x1)]) (st2 := [.ref 67, .int (m13.I 66 31), .ref 87]) (h2 := (sh_rep m13.T m13.I m13.J)) rfl rfl rfl ?_
          refine sh_w (i := (.iconst 1)) (len := 1) (pc2 := 269) (lv2 := [(0, .ref 67), (1, .int x1)]) (st2 := [.int 1, .ref 67, .int (m13.I 66 31), .ref 87]) (h2 := (sh_rep m13.T m13.I m13.J)) rfl rfl rfl ?_
          exact kk
        obtain ⟨r4, m14, e4, e⟩ := sh_bn_e e
        refine sh_Lk_cV (r := (some (.int r4))) (st2 := [.int r4, .int (m13.I 66 31), .ref 87]) (pc2 := 272) (k2 := 264) (a := 66) (as := [.ref 67, .int 1]) (rest := [.int (m13.I 66 31), .ref 87]) rfl rfl rfl (fun hT => (sh_s66 hT.st)) rfl rfl ⟨Nat.le_of_ble_eq_true rfl, Nat.le_of_ble_eq_true rfl⟩ ((sq_242_l sh_dp).f264 e4 ⟨rfl, rfl⟩) rfl rfl (Nat.le_of_ble_eq_true rfl) (Nat.le_of_ble_eq_true rfl) ?_
        obtain ⟨c, e⟩ := sh_gd e
        refine sh_Lk_lift (T := m14.T) (I := m14.I) (J := m14.J) (s := m14.s) (pc2 := 281) (lv2 := [(0, .ref 67), (1, .int x1)]) (st2 := [.int (m14.I 66 31), .ref 87]) (I2 := sh_u2 m14.I 86 (Int32.toNatClampNeg (m13.I 66 31)) r4) (J2 := m14.J) (fun hT v kk => ?_) ?_
        · refine sh_is1 (x := r4) (i := m13.I 66 31) (pc2 := 273) rfl (sh_s86 hT.st) (sh_okb1 c) (sh_okb2 c) rfl ?_
          refine sh_w (i := (.aload_n 0)) (len := 1) (pc2 := 274) (lv2 := [(0, .ref 67), (1, .int x1)]) (st2 := [.ref 67]) (h2 := (sh_rep m14.T (sh_u2 m14.I 86 (Int32.toNatClampNeg (m13.I 66 31)) r4) m14.J)) rfl rfl rfl ?_
          refine sh_gR1 (len := 3) (x := .ref 87) (pc2 := 277) rfl rfl (sh_s66 hT.st) rfl rfl ?_
          refine sh_w (i := (.aload_n 0)) (len := 1) (pc2 := 278) (lv2 := [(0, .ref 67), (1, .int x1)]) (st2 := [.ref 67, .ref 87]) (h2 := (sh_rep m14.T (sh_u2 m14.I 86 (Int32.toNatClampNeg (m13.I 66 31)) r4) m14.J)) rfl rfl rfl ?_
          refine sh_gI1 (len := 3) (x := m14.I 66 31) (pc2 := 281) rfl rfl (sh_s66 hT.st) rfl rfl rfl ?_
          exact kk
        obtain ⟨c, e⟩ := sh_gd e
        refine sh_Lk_lift (T := m14.T) (I := sh_u2 m14.I 86 (Int32.toNatClampNeg (m13.I 66 31)) r4) (J := m14.J) (s := m14.s) (pc2 := 284) (lv2 := [(0, .ref 67), (1, .int x1)]) (st2 := [.int (-2), .int ((sh_u2 m14.I 86 (Int32.toNatClampNeg (m13.I 66 31)) r4) 86 (Int32.toNatClampNeg (m14.I 66 31)))]) (I2 := sh_u2 m14.I 86 (Int32.toNatClampNeg (m13.I 66 31)) r4) (J2 := m14.J) (fun hT v kk => ?_) ?_
        · refine sh_ia1 (x := (sh_u2 m14.I 86 (Int32.toNatClampNeg (m13.I 66 31)) r4) 86 (Int32.toNatClampNeg (m14.I 66 31))) (pc2 := 282) rfl (sh_s86 hT.st) (sh_okb1 c) (sh_okb2 c) rfl rfl ?_
          refine sh_w (i := (.bipush (-2))) (len := 2) (pc2 := 284) (lv2 := [(0, .ref 67), (1, .int x1)]) (st2 := [.int (-2), .int ((sh_u2 m14.I 86 (Int32.toNatClampNeg (m13.I 66 31)) r4) 86 (Int32.toNatClampNeg (m14.I 66 31)))]) (h2 := (sh_rep m14.T (sh_u2 m14.I 86 (Int32.toNatClampNeg (m13.I 66 31)) r4) m14.J)) rfl rfl rfl ?_
          exact kk
        rcases sh_ite e with ⟨c, e⟩ | ⟨c, e⟩
        · refine sh_Lk_lift (T := m14.T) (I := sh_u2 m14.I 86 (Int32.toNatClampNeg (m13.I 66 31)) r4) (J := m14.J) (s := m14.s) (pc2 := 298) (lv2 := [(0, .ref 67), (1, .int x1)]) (st2 := [.int 0]) (I2 := sh_u2 m14.I 86 (Int32.toNatClampNeg (m13.I 66 31)) r4) (J2 := m14.J) (fun hT v kk => ?_) ?_
          · refine sh_jc (c := .eq) (off := (13)) (pc2 := 297) true rfl (sh_Beqt c) rfl ?_
            refine sh_w (i := (.iconst 0)) (len := 1) (pc2 := 298) (lv2 := [(0, .ref 67), (1, .int x1)]) (st2 := [.int 0]) (h2 := (sh_rep m14.T (sh_u2 m14.I 86 (Int32.toNatClampNeg (m13.I 66 31)) r4) m14.J)) rfl rfl rfl ?_
            exact kk
          obtain rfl := Option.some.inj e
          obtain ⟨rfl, rfl⟩ := tg
          exact sh_Lk_ret (i := .ireturn) rfl rfl rfl (Nat.le_of_ble_eq_true rfl) (Nat.le_of_ble_eq_true rfl)
        · refine sh_Lk_lift (T := m14.T) (I := sh_u2 m14.I 86 (Int32.toNatClampNeg (m13.I 66 31)) r4) (J := m14.J) (s := m14.s) (pc2 := 291) (lv2 := [(0, .ref 67), (1, .int x1)]) (st2 := [.ref 1000019, .ref 67]) (I2 := sh_u2 m14.I 86 (Int32.toNatClampNeg (m13.I 66 31)) r4) (J2 := m14.J) (fun hT v kk => ?_) ?_
          · refine sh_jc (c := .eq) (off := (13)) (pc2 := 287) false rfl (sh_Beqf c) rfl ?_
            refine sh_w (i := (.aload_n 0)) (len := 1) (pc2 := 288) (lv2 := [(0, .ref 67), (1, .int x1)]) (st2 := [.ref 67]) (h2 := (sh_rep m14.T (sh_u2 m14.I 86 (Int32.toNatClampNeg (m13.I 66 31)) r4) m14.J)) rfl rfl rfl ?_
            refine sh_w (i := (.ldc_w 270)) (len := 3) (pc2 := 291) (lv2 := [(0, .ref 67), (1, .int x1)]) (st2 := [.ref 1000019, .ref 67]) (h2 := (sh_rep m14.T (sh_u2 m14.I 86 (Int32.toNatClampNeg (m13.I 66 31)) r4) m14.J)) rfl rfl rfl ?_
            exact kk
          obtain ⟨r5, m15, e5, e⟩ := sh_bn_e e
          refine sh_Lk_cV (r := (some (.int (sh_b2 r5)))) (st2 := [.int (sh_b2 r5)]) (pc2 := 294) (k2 := 277) (a := 66) (as := [.ref 67, .ref 1000019]) (rest := []) rfl rfl rfl (fun hT => (sh_s66 hT.st)) rfl rfl ⟨Nat.le_of_ble_eq_true rfl, Nat.le_of_ble_eq_true rfl⟩ (sl_277 e5 ⟨rfl, rfl⟩) rfl rfl (Nat.le_of_ble_eq_true rfl) (Nat.le_of_ble_eq_true rfl) ?_
          rcases sh_ite e with ⟨c, e⟩ | ⟨c, e⟩
          · refine sh_Lk_lift (T := m15.T) (I := m15.I) (J := m15.J) (s := m15.s) (pc2 := 309) (lv2 := [(0, .ref 67), (1, .int x1)]) (st2 := [.int 1, .ref 67, .int (m15.I 66 31), .ref 88]) (I2 := m15.I) (J2 := m15.J) (fun hT v kk => ?_) ?_
            · refine sh_j0 (c := .ne) (off := (5)) (pc2 := 299) true rfl (sh_Znet c) rfl ?_
              refine sh_w (i := (.aload_n 0)) (len := 1) (pc2 := 300) (lv2 := [(0, .ref 67), (1, .int x1)]) (st2 := [.ref 67]) (h2 := (sh_rep m15.T m15.I m15.J)) rfl rfl rfl ?_
              refine sh_gR1 (len := 3) (x := .ref 88) (pc2 := 303) rfl rfl (sh_s66 hT.st) rfl rfl ?_
              refine sh_w (i := (.aload_n 0)) (len := 1) (pc2 := 304) (lv2 := [(0, .ref 67), (1, .int x1)]) (st2 := [.ref 67, .ref 88]) (h2 := (sh_rep m15.T m15.I m15.J)) rfl rfl rfl ?_
              refine sh_gI1 (len := 3) (x := m15.I 66 31) (pc2 := 307) rfl rfl (sh_s66 hT.st) rfl rfl rfl ?_
              refine sh_w (i := (.aload_n 0)) (len := 1) (pc2 := 308) (lv2 := [(0, .ref 67), (1, .int x1)]) (st2 := [.ref 67, .int (m15.I 66 31), .ref 88]) (h2 := (sh_rep m15.T m15.I m15.J)) rfl rfl rfl ?_
              refine sh_w (i := (.iconst 1)) (len := 1) (pc2 := 309) (lv2 := [(0, .ref 67), (1, .int x1)]) (st2 := [.int 1, .ref 67, .int (m15.I 66 31), .ref 88]) (h2 := (sh_rep m15.T m15.I m15.J)) rfl rfl rfl ?_
              exact kk
            obtain ⟨r6, m16, e6, e⟩ := sh_bn_e e
            refine sh_Lk_cV (r := (some (.int r6))) (st2 := [.int r6, .int (m15.I 66 31), .ref 88]) (pc2 := 312) (k2 := 267) (a := 66) (as := [.ref 67, .int 1]) (rest := [.int (m15.I 66 31), .ref 88]) rfl rfl rfl (fun hT => (sh_s66 hT.st)) rfl rfl ⟨Nat.le_of_ble_eq_true rfl, Nat.le_of_ble_eq_true rfl⟩ ((sq_240_l sh_dp).f267 e6 ⟨rfl, rfl⟩) rfl rfl (Nat.le_of_ble_eq_true rfl) (Nat.le_of_ble_eq_true rfl) ?_
            obtain ⟨c, e⟩ := sh_gd e
            refine sh_Lk_lift (T := m16.T) (I := m16.I) (J := m16.J) (s := m16.s) (pc2 := 321) (lv2 := [(0, .ref 67), (1, .int x1)]) (st2 := [.int (m16.I 66 31), .ref 88]) (I2 := sh_u2 m16.I 87 (Int32.toNatClampNeg (m15.I 66 31)) r6) (J2 := m16.J) (fun hT v kk => ?_) ?_
            · refine sh_is1 (x := r6) (i := m15.I 66 31) (pc2 := 313) rfl (sh_s87 hT.st) (sh_okb1 c) (sh_okb2 c) rfl ?_
              refine sh_w (i := (.aload_n 0)) (len := 1) (pc2 := 314) (lv2 := [(0, .ref 67), (1, .int x1)]) (st2 := [.ref 67]) (h2 := (sh_rep m16.T (sh_u2 m16.I 87 (Int32.toNatClampNeg (m15.I 66 31)) r6) m16.J)) rfl rfl rfl ?_
              refine sh_gR1 (len := 3) (x := .ref 88) (pc2 := 317) rfl rfl (sh_s66 hT.st) rfl rfl ?_
              refine sh_w (i := (.aload_n 0)) (len := 1) (pc2 := 318) (lv2 := [(0, .ref 67), (1, .int x1)]) (st2 := [.ref 67, .ref 88]) (h2 := (sh_rep m16.T (sh_u2 m16.I 87 (Int32.toNatClampNeg (m15.I 66 31)) r6) m16.J)) rfl rfl rfl ?_
              refine sh_gI1 (len := 3) (x := m16.I 66 31) (pc2 := 321) rfl rfl (sh_s66 hT.st) rfl rfl rfl ?_
              exact kk
            obtain ⟨c, e⟩ := sh_gd e
            refine sh_Lk_lift (T := m16.T) (I := sh_u2 m16.I 87 (Int32.toNatClampNeg (m15.I 66 31)) r6) (J := m16.J) (s := m16.s) (pc2 := 322) (lv2 := [(0, .ref 67), (1, .int x1)]) (st2 := [.int ((sh_u2 m16.I 87 (Int32.toNatClampNeg (m15.I 66 31)) r6) 87 (Int32.toNatClampNeg (m16.I 66 31)))]) (I2 := sh_u2 m16.I 87 (Int32.toNatClampNeg (m15.I 66 31)) r6) (J2 := m16.J) (fun hT v kk => ?_) ?_
            · refine sh_ia1 (x := (sh_u2 m16.I 87 (Int32.toNatClampNeg (m15.I 66 31)) r6) 87 (Int32.toNatClampNeg (m16.I 66 31))) (pc2 := 322) rfl (sh_s87 hT.st) (sh_okb1 c) (sh_okb2 c) rfl rfl ?_
              exact kk
            rcases sh_ite e with ⟨c, e⟩ | ⟨c, e⟩
            · refine sh_Lk_lift (T := m16.T) (I := sh_u2 m16.I 87 (Int32.toNatClampNeg (m15.I 66 31)) r6) (J := m16.J) (s := m16.s) (pc2 := 344) (lv2 := [(0, .ref 67), (1, .int x1)]) (st2 := [.int 0]) (I2 := sh_u2 m16.I 87 (Int32.toNatClampNeg (m15.I 66 31)) r6) (J2 := m16.J) (fun hT v kk => ?_) ?_
              · refine sh_j0 (c := .lt) (off := (21)) (pc2 := 343) true rfl (sh_Bltt c) rfl ?_
                refine sh_w (i := (.iconst 0)) (len := 1) (pc2 := 344) (lv2 := [(0, .ref 67), (1, .int x1)]) (st2 := [.int 0]) (h2 := (sh_rep m16.T (sh_u2 m16.I 87 (Int32.toNatClampNeg (m15.I 66 31)) r6) m16.J)) rfl rfl rfl ?_
                exact kk
              obtain rfl := Option.some.inj e
              obtain ⟨rfl, rfl⟩ := tg
              exact sh_Lk_ret (i := .ireturn) rfl rfl rfl (Nat.le_of_ble_eq_true rfl) (Nat.le_of_ble_eq_true rfl)
            · refine sh_Lk_lift (T := m16.T) (I := sh_u2 m16.I 87 (Int32.toNatClampNeg (m15.I 66 31)) r6) (J := m16.J) (s := m16.s) (pc2 := 328) (lv2 := [(0, .ref 67), (1, .int x1)]) (st2 := [.int 59, .ref 67]) (I2 := sh_u2 m16.I 87 (Int32.toNatClampNeg (m15.I 66 31)) r6) (J2 := m16.J) (fun hT v kk => ?_) ?_
              · refine sh_j0 (c := .lt) (off := (21)) (pc2 := 325) false rfl (sh_Bltf c) rfl ?_
                refine sh_w (i := (.aload_n 0)) (len := 1) (pc2 := 326) (lv2 := [(0, .ref 67), (1, .int x1)]) (st2 := [.ref 67]) (h2 := (sh_rep m16.T (sh_u2 m16.I 87 (Int32.toNatClampNeg (m15.I 66 31)) r6) m16.J)) rfl rfl rfl ?_
                refine sh_w (i := (.bipush 59)) (len := 2) (pc2 := 328) (lv2 := [(0, .ref 67), (1, .int x1)]) (st2 := [.int 59, .ref 67]) (h2 := (sh_rep m16.T (sh_u2 m16.I 87 (Int32.toNatClampNeg (m15.I 66 31)) r6) m16.J)) rfl rfl rfl ?_
                exact kk
              obtain ⟨r7, m17, e7, e⟩ := sh_bn_e e
              refine sh_Lk_cV (r := (some (.int (sh_b2 r7)))) (st2 := [.int (sh_b2 r7)]) (pc2 := 331) (k2 := 262) (a := 66) (as := [.ref 67, .int 59]) (rest := []) rfl rfl rfl (fun hT => (sh_s66 hT.st)) rfl rfl ⟨Nat.le_of_ble_eq_true rfl, Nat.le_of_ble_eq_true rfl⟩ (sl_262 e7 ⟨rfl, rfl⟩) rfl rfl (Nat.le_of_ble_eq_true rfl) (Nat.le_of_ble_eq_true rfl) ?_
              rcases sh_ite e with ⟨c, e⟩ | ⟨c, e⟩
              · refine sh_Lk_lift (T := m17.T) (I := m17.I) (J := m17.J) (s := m17.s) (pc2 := 337) (lv2 := [(0, .ref 67), (1, .int x1)]) (st2 := [.int 125, .ref 67]) (I2 := m17.I) (J2 := m17.J) (fun hT v kk => ?_) ?_
                · refine sh_j0 (c := .eq) (off := (12)) (pc2 := 334) false rfl (sh_Zeqf c) rfl ?_
                  refine sh_w (i := (.aload_n 0)) (len := 1) (pc2 := 335) (lv2 := [(0, .ref 67), (1, .int x1)]) (st2 := [.ref 67]) (h2 := (sh_rep m17.T m17.I m17.J)) rfl rfl rfl ?_
                  refine sh_w (i := (.bipush 125)) (len := 2) (pc2 := 337) (lv2 := [(0, .ref 67), (1, .int x1)]) (st2 := [.int 125, .ref 67]) (h2 := (sh_rep m17.T m17.I m17.J)) rfl rfl rfl ?_
                  exact kk
                obtain ⟨r8, m18, e8, e⟩ := sh_bn_e e
                refine sh_Lk_cV (r := (some (.int (sh_b2 r8)))) (st2 := [.int (sh_b2 r8)]) (pc2 := 340) (k2 := 262) (a := 66) (as := [.ref 67, .int 125]) (rest := []) rfl rfl rfl (fun hT => (sh_s66 hT.st)) rfl rfl ⟨Nat.le_of_ble_eq_true rfl, Nat.le_of_ble_eq_true rfl⟩ (sl_262 e8 ⟨rfl, rfl⟩) rfl rfl (Nat.le_of_ble_eq_true rfl) (Nat.le_of_ble_eq_true rfl) ?_
                rcases sh_ite e with ⟨c, e⟩ | ⟨c, e⟩
                · refine sh_Lk_lift (T := m18.T) (I := m18.I) (J := m18.J) (s := m18.s) (pc2 := 356) (lv2 := [(0, .ref 67), (1, .int x1)]) (st2 := [.int 1]) (I2 := sh_u2 m18.I 66 31 ((m18.I 66 31) + 1)) (J2 := m18.J) (fun hT v kk => ?_) ?_
                  · refine sh_j0 (c := .ne) (off := (5)) (pc2 := 345) true rfl (sh_Znet c) rfl ?_
                    refine sh_w (i := (.aload_n 0)) (len := 1) (pc2 := 346) (lv2 := [(0, .ref 67), (1, .int x1)]) (st2 := [.ref 67]) (h2 := (sh_rep m18.T m18.I m18.J)) rfl rfl rfl ?_
                    refine sh_w (i := .dup) (len := 1) (pc2 := 347) (lv2 := [(0, .ref 67), (1, .int x1)]) (st2 := [.ref 67, .ref 67]) (h2 := (sh_rep m18.T m18.I m18.J)) rfl rfl rfl ?_
                    refine sh_gI1 (len := 3) (x := m18.I 66 31) (pc2 := 350) rfl rfl (sh_s66 hT.st) rfl rfl rfl ?_
                    refine sh_w (i := (.iconst 1)) (len := 1) (pc2 := 351) (lv2 := [(0, .ref 67), (1, .int x1)]) (st2 := [.int 1, .int (m18.I 66 31), .ref 67]) (h2 := (sh_rep m18.T m18.I m18.J)) rfl rfl rfl ?_
                    refine sh_w (i := .iadd) (len := 1) (pc2 := 352) (lv2 := [(0, .ref 67), (1, .int x1)]) (st2 := [.int ((m18.I 66 31) + 1), .ref 67]) (h2 := (sh_rep m18.T m18.I m18.J)) rfl rfl rfl ?_
                    refine sh_pI1 (x := (m18.I 66 31) + 1) (pc2 := 355) rfl rfl (sh_s66 hT.st) rfl rfl rfl rfl ?_
                    refine sh_w (i := (.iconst 1)) (len := 1) (pc2 := 356) (lv2 := [(0, .ref 67), (1, .int x1)]) (st2 := [.int 1]) (h2 := (sh_rep m18.T (sh_u2 m18.I 66 31 ((m18.I 66 31) + 1)) m18.J)) rfl rfl rfl ?_
                    exact kk
                  obtain rfl := Option.some.inj e
                  obtain ⟨rfl, rfl⟩ := tg
                  exact sh_Lk_ret (i := .ireturn) rfl rfl rfl (Nat.le_of_ble_eq_true rfl) (Nat.le_of_ble_eq_true rfl)
                · refine sh_Lk_lift (T := m18.T) (I := m18.I) (J := m18.J) (s := m18.s) (pc2 := 344) (lv2 := [(0, .ref 67), (1, .int x1)]) (st2 := [.int 0]) (I2 := m18.I) (J2 := m18.J) (fun hT v kk => ?_) ?_
                  · refine sh_j0 (c := .ne) (off := (5)) (pc2 := 343) false rfl (sh_Znef c) rfl ?_
                    refine sh_w (i := (.iconst 0)) (len := 1) (pc2 := 344) (lv2 := [(0, .ref 67), (1, .int x1)]) (st2 := [.int 0]) (h2 := (sh_rep m18.T m18.I m18.J)) rfl rfl rfl ?_
                    exact kk
                  obtain rfl := Option.some.inj e
                  obtain ⟨rfl, rfl⟩ := tg
                  exact sh_Lk_ret (i := .ireturn) rfl rfl rfl (Nat.le_of_ble_eq_true rfl) (Nat.le_of_ble_eq_true rfl)
              · refine sh_Lk_lift (T := m17.T) (I := m17.I) (J := m17.J) (s := m17.s) (pc2 := 344) (lv2 := [(0, .ref 67), (1, .int x1)]) (st2 := [.int 0]) (I2 := m17.I) (J2 := m17.J) (fun hT v kk => ?_) ?_
                · refine sh_j0 (c := .eq) (off := (12)) (pc2 := 343) true rfl (sh_Zeqt c) rfl ?_
                  refine sh_w (i := (.iconst 0)) (len := 1) (pc2 := 344) (lv2 := [(0, .ref 67), (1, .int x1)]) (st2 := [.int 0]) (h2 := (sh_rep m17.T m17.I m17.J)) rfl rfl rfl ?_
                  exact kk
                obtain rfl := Option.some.inj e
                obtain ⟨rfl, rfl⟩ := tg
                exact sh_Lk_ret (i := .ireturn) rfl rfl rfl (Nat.le_of_ble_eq_true rfl) (Nat.le_of_ble_eq_true rfl)
          · refine sh_Lk_lift (T := m15.T) (I := m15.I) (J := m15.J) (s := m15.s) (pc2 := 298) (lv2 := [(0, .ref 67), (1, .int x1)]) (st2 := [.int 0]) (I2 := m15.I) (J2 := m15.J) (fun hT v kk => ?_) ?_
            · refine sh_j0 (c := .ne) (off := (5)) (pc2 := 297) false rfl (sh_Znef c) rfl ?_
              refine sh_w (i := (.iconst 0)) (len := 1) (pc2 := 298) (lv2 := [(0, .ref 67), (1, .int x1)]) (st2 := [.int 0]) (h2 := (sh_rep m15.T m15.I m15.J)) rfl rfl rfl ?_
              exact kk
            obtain rfl := Option.some.inj e
            obtain ⟨rfl, rfl⟩ := tg
            exact sh_Lk_ret (i := .ireturn) rfl rfl rfl (Nat.le_of_ble_eq_true rfl) (Nat.le_of_ble_eq_true rfl)
      · refine sh_Lk_lift (T := m13.T) (I := m13.I) (J := m13.J) (s := m13.s) (pc2 := 258) (lv2 := [(0, .ref 67), (1, .int x1)]) (st2 := [.int 0]) (I2 := m13.I) (J2 := m13.J) (fun hT v kk => ?_) ?_
        · refine sh_j0 (c := .ne) (off := (5)) (pc2 := 257) false rfl (sh_Znef c) rfl ?_
          refine sh_w (i := (.iconst 0)) (len := 1) (pc2 := 258) (lv2 := [(0, .ref 67), (1, .int x1)]) (st2 := [.int 0]) (h2 := (sh_rep m13.T m13.I m13.J)) rfl rfl rfl ?_
          exact kk
        obtain rfl := Option.some.inj e
        obtain ⟨rfl, rfl⟩ := tg
        exact sh_Lk_ret (i := .ireturn) rfl rfl rfl (Nat.le_of_ble_eq_true rfl) (Nat.le_of_ble_eq_true rfl)
    · refine sh_Lk_lift (T := m12.T) (I := m12.I) (J := m12.J) (s := m12.s) (pc2 := 221) (lv2 := [(0, .ref 67), (1, .int x1)]) (st2 := [.int 0]) (I2 := m12.I) (J2 := m12.J) (fun hT v kk => ?_) ?_
      · refine sh_j0 (c := .ne) (off := (5)) (pc2 := 220) false rfl (sh_Znef c) rfl ?_
        refine sh_w (i := (.iconst 0)) (len := 1) (pc2 := 221) (lv2 := [(0, .ref 67), (1, .int x1)]) (st2 := [.int 0]) (h2 := (sh_rep m12.T m12.I m12.J)) rfl rfl rfl ?_
        exact kk
      obtain rfl := Option.some.inj e
      obtain ⟨rfl, rfl⟩ := tg
      exact sh_Lk_ret (i := .ireturn) rfl rfl rfl (Nat.le_of_ble_eq_true rfl) (Nat.le_of_ble_eq_true rfl)
  · refine sh_Lk_lift (T := m11.T) (I := m11.I) (J := m11.J) (s := m11.s) (pc2 := 221) (lv2 := [(0, .ref 67), (1, .int x1)]) (st2 := [.int 0]) (I2 := m11.I) (J2 := m11.J) (fun hT v kk => ?_) ?_
    · refine sh_j0 (c := .eq) (off := (10)) (pc2 := 220) true rfl (sh_Zeqt c) rfl ?_
      refine sh_w (i := (.iconst 0)) (len := 1) (pc2 := 221) (lv2 := [(0, .ref 67), (1, .int x1)]) (st2 := [.int 0]) (h2 := (sh_rep m11.T m11.I m11.J)) rfl rfl rfl ?_
      exact kk
    obtain rfl := Option.some.inj e
    obtain ⟨rfl, rfl⟩ := tg
    exact sh_Lk_ret (i := .ireturn) rfl rfl rfl (Nat.le_of_ble_eq_true rfl) (Nat.le_of_ble_eq_true rfl)
theorem sl_257_59s {x1 : Int32} {x2 : Bool} {m m2 : sh_X} {o : Outcome} {z : ((Int32 × Bool × sh_X) ⊕ (Bool × sh_X))} (e : sf_257_59s x1 x2 m = some z) (tg : (sh_el (fun q => sh_Lk 257 59 [(0, .ref 67), (1, .int q.1), (2, .int (sh_b2 q.2.1))] [] q.2.2 o m2 2035 80714) (sh_tZ o m2)) z) : sh_Lk 257 59 [(0, .ref 67), (1, .int x1), (2, .int (sh_b2 x2))] [] m o m2 2035 80714 := by
  unfold sf_257_59s at e
  refine sh_Lk_lift (T := m.T) (I := m.I) (J := m.J) (s := m.s) (pc2 := 60) (lv2 := [(0, .ref 67), (1, .int x1), (2, .int (sh_b2 x2))]) (st2 := [.int (sh_b2 x2)]) (I2 := m.I) (J2 := m.J) (fun hT v kk => ?_) ?_
  · refine sh_w (i := (.iload_n 2)) (len := 1) (pc2 := 60) (lv2 := [(0, .ref 67), (1, .int x1), (2, .int (sh_b2 x2))]) (st2 := [.int (sh_b2 x2)]) (h2 := (sh_rep m.T m.I m.J)) rfl rfl rfl ?_
    exact kk
  rcases sh_ite e with ⟨c, e⟩ | ⟨c, e⟩
  · refine sh_Lk_lift (T := m.T) (I := m.I) (J := m.J) (s := m.s) (pc2 := 66) (lv2 := [(0, .ref 67), (1, .int x1), (2, .int (sh_b2 x2))]) (st2 := [.int 8, .int x1]) (I2 := m.I) (J2 := m.J) (fun hT v kk => ?_) ?_
    · refine sh_j0 (c := .eq) (off := (134)) (pc2 := 63) false rfl (sh_Zeqf c) rfl ?_
      refine sh_w (i := (.iload_n 1)) (len := 1) (pc2 := 64) (lv2 := [(0, .ref 67), (1, .int x1), (2, .int (sh_b2 x2))]) (st2 := [.int x1]) (h2 := (sh_rep m.T m.I m.J)) rfl rfl rfl ?_
      refine sh_w (i := (.bipush 8)) (len := 2) (pc2 := 66) (lv2 := [(0, .ref 67), (1, .int x1), (2, .int (sh_b2 x2))]) (st2 := [.int 8, .int x1]) (h2 := (sh_rep m.T m.I m.J)) rfl rfl rfl ?_
      exact kk
    rcases sh_ite e with ⟨c, e⟩ | ⟨c, e⟩
    · refine sh_Lk_lift (T := m.T) (I := m.I) (J := m.J) (s := m.s) (pc2 := 79) (lv2 := [(0, .ref 67), (1, .int x1), (2, .int (sh_b2 x2))]) (st2 := [.int (m.I 66 21), .ref 70, .int 2, .ref 67]) (I2 := m.I) (J2 := m.J) (fun hT v kk => ?_) ?_
      · refine sh_jc (c := .ne) (off := (18)) (pc2 := 69) false rfl (sh_Bnef c) rfl ?_
        refine sh_w (i := (.aload_n 0)) (len := 1) (pc2 := 70) (lv2 := [(0, .ref 67), (1, .int x1), (2, .int (sh_b2 x2))]) (st2 := [.ref 67]) (h2 := (sh_rep m.T m.I m.J)) rfl rfl rfl ?_
        refine sh_w (i := (.iconst 2)) (len := 1) (pc2 := 71) (lv2 := [(0, .ref 67), (1, .int x1), (2, .int (sh_b2 x2))]) (st2 := [.int 2, .ref 67]) (h2 := (sh_rep m.T m.I m.J)) rfl rfl rfl ?_
        refine sh_w (i := (.aload_n 0)) (len := 1) (pc2 := 72) (lv2 := [(0, .ref 67), (1, .int x1), (2, .int (sh_b2 x2))]) (st2 := [.ref 67, .int 2, .ref 67]) (h2 := (sh_rep m.T m.I m.J)) rfl rfl rfl ?_
        refine sh_gR1 (len := 3) (x := .ref 70) (pc2 := 75) rfl rfl (sh_s66 hT.st) rfl rfl ?_
        refine sh_w (i := (.aload_n 0)) (len := 1) (pc2 := 76) (lv2 := [(0, .ref 67), (1, .int x1), (2, .int (sh_b2 x2))]) (st2 := [.ref 67, .ref 70, .int 2, .ref 67]) (h2 := (sh_rep m.T m.I m.J)) rfl rfl rfl ?_
        refine sh_gI1 (len := 3) (x := m.I 66 21) (pc2 := 79) rfl rfl (sh_s66 hT.st) rfl rfl rfl ?_
        exact kk
      obtain ⟨c, e⟩ := sh_gd e
      refine sh_Lk_lift (T := m.T) (I := m.I) (J := m.J) (s := m.s) (pc2 := 80) (lv2 := [(0, .ref 67), (1, .int x1), (2, .int (sh_b2 x2))]) (st2 := [.int (m.I 69 (Int32.toNatClampNeg (m.I 66 21))), .int 2, .ref 67]) (I2 := m.I) (J2 := m.J) (fun hT v kk => ?_) ?_
      · refine sh_ia1 (x := m.I 69 (Int32.toNatClampNeg (m.I 66 21))) (pc2 := 80) rfl (sh_s69 hT.st) (sh_okb1 c) (sh_okb2 c) rfl rfl ?_
        exact kk
      obtain ⟨r1, m11, e1, e⟩ := sh_bn_e e
      refine sh_Lk_cV (r := (some (.int (sh_b2 r1)))) (st2 := [.int (sh_b2 r1)]) (pc2 := 83) (k2 := 252) (a := 66) (as := [.ref 67, .int 2, .int (m.I 69 (Int32.toNatClampNeg (m.I 66 21)))]) (rest := []) rfl rfl rfl (fun hT => (sh_s66 hT.st)) rfl rfl ⟨Nat.le_of_ble_eq_true rfl, Nat.le_of_ble_eq_true rfl⟩ (sl_252 e1 ⟨rfl, rfl⟩) rfl rfl (Nat.le_of_ble_eq_true rfl) (Nat.le_of_ble_eq_true rfl) ?_
      obtain rfl := Option.some.inj e
      obtain ⟨rfl, rfl⟩ := tg
      exact sh_Lk_ret (i := .ireturn) rfl rfl (sh_rb rfl _) (Nat.le_of_ble_eq_true rfl) (Nat.le_of_ble_eq_true rfl)
    · refine sh_Lk_lift (T := m.T) (I := m.I) (J := m.J) (s := m.s) (pc2 := 101) (lv2 := [(0, .ref 67), (1, .int x1), (2, .int (sh_b2 x2))]) (st2 := [.int (m.I 66 21), .int ((8 * (m.I 66 31)) + x1), .ref 82]) (I2 := m.I) (J2 := m.J) (fun hT v kk => ?_) ?_
      · refine sh_jc (c := .ne) (off := (18)) (pc2 := 84) true rfl (sh_Bnet c) rfl ?_
        refine sh_w (i := (.aload_n 0)) (len := 1) (pc2 := 85) (lv2 := [(0, .ref 67), (1, .int x1), (2, .int (sh_b2 x2))]) (st2 := [.ref 67]) (h2 := (sh_rep m.T m.I m.J)) rfl rfl rfl ?_
        refine sh_gR1 (len := 3) (x := .ref 82) (pc2 := 88) rfl rfl (sh_s66 hT.st) rfl rfl ?_
        refine sh_w (i := (.bipush 8)) (len := 2) (pc2 := 90) (lv2 := [(0, .ref 67), (1, .int x1), (2, .int (sh_b2 x2))]) (st2 := [.int 8, .ref 82]) (h2 := (sh_rep m.T m.I m.J)) rfl rfl rfl ?_
        refine sh_w (i := (.aload_n 0)) (len := 1) (pc2 := 91) (lv2 := [(0, .ref 67), (1, .int x1), (2, .int (sh_b2 x2))]) (st2 := [.ref 67, .int 8, .ref 82]) (h2 := (sh_rep m.T m.I m.J)) rfl rfl rfl ?_
        refine sh_gI1 (len := 3) (x := m.I 66 31) (pc2 := 94) rfl rfl (sh_s66 hT.st) rfl rfl rfl ?_
        refine sh_w (i := .imul) (len := 1) (pc2 := 95) (lv2 := [(0, .ref 67), (1, .int x1), (2, .int (sh_b2 x2))]) (st2 := [.int (8 * (m.I 66 31)), .ref 82]) (h2 := (sh_rep m.T m.I m.J)) rfl rfl rfl ?_
        refine sh_w (i := (.iload_n 1)) (len := 1) (pc2 := 96) (lv2 := [(0, .ref 67), (1, .int x1), (2, .int (sh_b2 x2))]) (st2 := [.int x1, .int (8 * (m.I 66 31)), .ref 82]) (h2 := (sh_rep m.T m.I m.J)) rfl rfl rfl ?_
        refine sh_w (i := .iadd) (len := 1) (pc2 := 97) (lv2 := [(0, .ref 67), (1, .int x1), (2, .int (sh_b2 x2))]) (st2 := [.int ((8 * (m.I 66 31)) + x1), .ref 82]) (h2 := (sh_rep m.T m.I m.J)) rfl rfl rfl ?_
        refine sh_w (i := (.aload_n 0)) (len := 1) (pc2 := 98) (lv2 := [(0, .ref 67), (1, .int x1), (2, .int (sh_b2 x2))]) (st2 := [.ref 67, .int ((8 * (m.I 66 31)) + x1), .ref 82]) (h2 := (sh_rep m.T m.I m.J)) rfl rfl rfl ?_
        refine sh_gI1 (len := 3) (x := m.I 66 21) (pc2 := 101) rfl rfl (sh_s66 hT.st) rfl rfl rfl ?_
        exact kk
      obtain ⟨c, e⟩ := sh_gd e
      refine sh_Lk_lift (T := m.T) (I := m.I) (J := m.J) (s := m.s) (pc2 := 103) (lv2 := [(0, .ref 67), (1, .int x1), (2, .int (sh_b2 x2))]) (st2 := [.ref 67]) (I2 := sh_u2 m.I 81 (Int32.toNatClampNeg ((8 * (m.I 66 31)) + x1)) (m.I 66 21)) (J2 := m.J) (fun hT v kk => ?_) ?_
      · refine sh_is1 (x := m.I 66 21) (i := (8 * (m.I 66 31)) + x1) (pc2 := 102) rfl (sh_s81 hT.st) (sh_okb1 c) (sh_okb2 c) rfl ?_
        refine sh_w (i := (.aload_n 0)) (len := 1) (pc2 := 103) (lv2 := [(0, .ref 67), (1, .int x1), (2, .int (sh_b2 x2))]) (st2 := [.ref 67]) (h2 := (sh_rep m.T (sh_u2 m.I 81 (Int32.toNatClampNeg ((8 * (m.I 66 31)) + x1)) (m.I 66 21)) m.J)) rfl rfl rfl ?_
        exact kk
      obtain ⟨r2, m12, e2, e⟩ := sh_bn_e e
      refine sh_Lk_cV (r := (some (.int (sh_b2 r2)))) (st2 := [.int (sh_b2 r2)]) (pc2 := 106) (k2 := 258) (a := 66) (as := [.ref 67]) (rest := []) rfl rfl rfl (fun hT => (sh_s66 hT.st)) rfl rfl ⟨Nat.le_of_ble_eq_true rfl, Nat.le_of_ble_eq_true rfl⟩ (sl_258 e2 ⟨rfl, rfl⟩) rfl rfl (Nat.le_of_ble_eq_true rfl) (Nat.le_of_ble_eq_true rfl) ?_
      rcases sh_ite e with ⟨c, e⟩ | ⟨c, e⟩
      · refine sh_Lk_lift (T := m12.T) (I := m12.I) (J := m12.J) (s := m12.s) (pc2 := 110) (lv2 := [(0, .ref 67), (1, .int x1), (2, .int (sh_b2 x2))]) (st2 := [.ref 67]) (I2 := m12.I) (J2 := m12.J) (fun hT v kk => ?_) ?_
        · refine sh_j0 (c := .eq) (off := (10)) (pc2 := 109) false rfl (sh_Zeqf c) rfl ?_
          refine sh_w (i := (.aload_n 0)) (len := 1) (pc2 := 110) (lv2 := [(0, .ref 67), (1, .int x1), (2, .int (sh_b2 x2))]) (st2 := [.ref 67]) (h2 := (sh_rep m12.T m12.I m12.J)) rfl rfl rfl ?_
          exact kk
        obtain ⟨r3, m13, e3, e⟩ := sh_bn_e e
        refine sh_Lk_cV (r := (some (.int (sh_b2 r3)))) (st2 := [.int (sh_b2 r3)]) (pc2 := 113) (k2 := 263) (a := 66) (as := [.ref 67]) (rest := []) rfl rfl rfl (fun hT => (sh_s66 hT.st)) rfl rfl ⟨Nat.le_of_ble_eq_true rfl, Nat.le_of_ble_eq_true rfl⟩ (sl_263 e3 ⟨rfl, rfl⟩) rfl rfl (Nat.le_of_ble_eq_true rfl) (Nat.le_of_ble_eq_true rfl) ?_
        rcases sh_ite e with ⟨c, e⟩ | ⟨c, e⟩
        · refine sh_Lk_lift (T := m13.T) (I := m13.I) (J := m13.J) (s := m13.s) (pc2 := 135) (lv2 := [(0, .ref 67), (1, .int x1), (2, .int (sh_b2 x2))]) (st2 := [.int (m13.I 66 38), .int ((8 * (m13.I 66 31)) + x1), .ref 83]) (I2 := m13.I) (J2 := m13.J) (fun hT v kk => ?_) ?_
          · refine sh_j0 (c := .ne) (off := (5)) (pc2 := 118) true rfl (sh_Znet c) rfl ?_
            refine sh_w (i := (.aload_n 0)) (len := 1) (pc2 := 119) (lv2 := [(0, .ref 67), (1, .int x1), (2, .int (sh_b2 x2))]) (st2 := [.ref 67]) (h2 := (sh_rep m13.T m13.I m13.J)) rfl rfl rfl ?_
            refine sh_gR1 (len := 3) (x := .ref 83) (pc2 := 122) rfl rfl (sh_s66 hT.st) rfl rfl ?_
            refine sh_w (i := (.bipush 8)) (len := 2) (pc2 := 124) (lv2 := [(0, .ref 67), (1, .int x1), (2, .int (sh_b2 x2))]) (st2 := [.int 8, .ref 83]) (h2 := (sh_rep m13.T m13.I m13.J)) rfl rfl rfl ?_
            refine sh_w (i := (.aload_n 0)) (len := 1) (pc2 := 125) (lv2 := [(0, .ref 67), (1, .int x1), (2, .int (sh_b2 x2))]) (st2 := [.ref 67, .int 8, .ref 83]) (h2 := (sh_rep m13.T m13.I m13.J)) rfl rfl rfl ?_
            refine sh_gI1 (len := 3) (x := m13.I 66 31) (pc2 := 128) rfl rfl (sh_s66 hT.st) rfl rfl rfl ?_
            refine sh_w (i := .imul) (len := 1) (pc2 := 129) (lv2 := [(0, .ref 67), (1, .int x1), (2, .int (sh_b2 x2))]) (st2 := [.int (8 * (m13.I 66 31)), .ref 83]) (h2 := (sh_rep m13.T m13.I m13.J)) rfl rfl rfl ?_
            refine sh_w (i := (.iload_n 1)) (len := 1) (pc2 := 130) (lv2 := [(0, .ref 67), (1, .int x1), (2, .int (sh_b2 x2))]) (st2 := [.int x1, .int (8 * (m13.I 66 31)), .ref 83]) (h2 := (sh_rep m13.T m13.I m13.J)) rfl rfl rfl ?_
            refine sh_w (i := .iadd) (len := 1) (pc2 := 131) (lv2 := [(0, .ref 67), (1, .int x1), (2, .int (sh_b2 x2))]) (st2 := [.int ((8 * (m13.I 66 31)) + x1), .ref 83]) (h2 := (sh_rep m13.T m13.I m13.J)) rfl rfl rfl ?_
            refine sh_w (i := (.aload_n 0)) (len := 1) (pc2 := 132) (lv2 := [(0, .ref 67), (1, .int x1), (2, .int (sh_b2 x2))]) (st2 := [.ref 67, .int ((8 * (m13.I 66 31)) + x1), .ref 83]) (h2 := (sh_rep m13.T m13.I m13.J)) rfl rfl rfl ?_
            refine sh_gI1 (len := 3) (x := m13.I 66 38) (pc2 := 135) rfl rfl (sh_s66 hT.st) rfl rfl rfl ?_
            exact kk
          obtain ⟨c, e⟩ := sh_gd e
          refine sh_Lk_lift (T := m13.T) (I := m13.I) (J := m13.J) (s := m13.s) (pc2 := 153) (lv2 := [(0, .ref 67), (1, .int x1), (2, .int (sh_b2 x2))]) (st2 := [.int (m13.I 66 39), .int ((8 * (m13.I 66 31)) + x1), .ref 84]) (I2 := sh_u2 m13.I 82 (Int32.toNatClampNeg ((8 * (m13.I 66 31)) + x1)) (m13.I 66 38)) (J2 := m13.J) (fun hT v kk => ?_) ?_
          · refine sh_is1 (x := m13.I 66 38) (i := (8 * (m13.I 66 31)) + x1) (pc2 := 136) rfl (sh_s82 hT.st) (sh_okb1 c) (sh_okb2 c) rfl ?_
            refine sh_w (i := (.aload_n 0)) (len := 1) (pc2 := 137) (lv2 := [(0, .ref 67), (1, .int x1), (2, .int (sh_b2 x2))]) (st2 := [.ref 67]) (h2 := (sh_rep m13.T (sh_u2 m13.I 82 (Int32.toNatClampNeg ((8 * (m13.I 66 31)) + x1)) (m13.I 66 38)) m13.J)) rfl rfl rfl ?_
            refine sh_gR1 (len := 3) (x := .ref 84) (pc2 := 140) rfl rfl (sh_s66 hT.st) rfl rfl ?_
            refine sh_w (i := (.bipush 8)) (len := 2) (pc2 := 142) (lv2 := [(0, .ref 67), (1, .int x1), (2, .int (sh_b2 x2))]) (st2 := [.int 8, .ref 84]) (h2 := (sh_rep m13.T (sh_u2 m13.I 82 (Int32.toNatClampNeg ((8 * (m13.I 66 31)) + x1)) (m13.I 66 38)) m13.J)) rfl rfl rfl ?_
            refine sh_w (i := (.aload_n 0)) (len := 1) (pc2 := 143) (lv2 := [(0, .ref 67), (1, .int x1), (2, .int (sh_b2 x2))]) (st2 := [.ref 67, .int 8, .ref 84]) (h2 := (sh_rep m13.T (sh_u2 m13.I 82 (Int32.toNatClampNeg ((8 * (m13.I 66 31)) + x1)) (m13.I 66 38)) m13.J)) rfl rfl rfl ?_
            refine sh_gI1 (len := 3) (x := m13.I 66 31) (pc2 := 146) rfl rfl (sh_s66 hT.st) rfl rfl rfl ?_
            refine sh_w (i := .imul) (len := 1) (pc2 := 147) (lv2 := [(0, .ref 67), (1, .int x1), (2, .int (sh_b2 x2))]) (st2 := [.int (8 * (m13.I 66 31)), .ref 84]) (h2 := (sh_rep m13.T (sh_u2 m13.I 82 (Int32.toNatClampNeg ((8 * (m13.I 66 31)) + x1)) (m13.I 66 38)) m13.J)) rfl rfl rfl ?_
            refine sh_w (i := (.iload_n 1)) (len := 1) (pc2 := 148) (lv2 := [(0, .ref 67), (1, .int x1), (2, .int (sh_b2 x2))]) (st2 := [.int x1, .int (8 * (m13.I 66 31)), .ref 84]) (h2 := (sh_rep m13.T (sh_u2 m13.I 82 (Int32.toNatClampNeg ((8 * (m13.I 66 31)) + x1)) (m13.I 66 38)) m13.J)) rfl rfl rfl ?_
            refine sh_w (i := .iadd) (len := 1) (pc2 := 149) (lv2 := [(0, .ref 67), (1, .int x1), (2, .int (sh_b2 x2))]) (st2 := [.int ((8 * (m13.I 66 31)) + x1), .ref 84]) (h2 := (sh_rep m13.T (sh_u2 m13.I 82 (Int32.toNatClampNeg ((8 * (m13.I 66 31)) + x1)) (m13.I 66 38)) m13.J)) rfl rfl rfl ?_
            refine sh_w (i := (.aload_n 0)) (len := 1) (pc2 := 150) (lv2 := [(0, .ref 67), (1, .int x1), (2, .int (sh_b2 x2))]) (st2 := [.ref 67, .int ((8 * (m13.I 66 31)) + x1), .ref 84]) (h2 := (sh_rep m13.T (sh_u2 m13.I 82 (Int32.toNatClampNeg ((8 * (m13.I 66 31)) + x1)) (m13.I 66 38)) m13.J)) rfl rfl rfl ?_
            refine sh_gI1 (len := 3) (x := m13.I 66 39) (pc2 := 153) rfl rfl (sh_s66 hT.st) rfl rfl rfl ?_
            exact kk
          obtain ⟨c, e⟩ := sh_gd e
          refine sh_Lk_lift (T := m13.T) (I := sh_u2 m13.I 82 (Int32.toNatClampNeg ((8 * (m13.I 66 31)) + x1)) (m13.I 66 38)) (J := m13.J) (s := m13.s) (pc2 := 165) (lv2 := [(1, .int (x1 + 1)), (0, .ref 67), (2, .int (sh_b2 x2))]) (st2 := [.int (m13.I 66 21), .ref 69]) (I2 := sh_u2 (sh_u2 m13.I 82 (Int32.toNatClampNeg ((8 * (m13.I 66 31)) + x1)) (m13.I 66 38)) 83 (Int32.toNatClampNeg ((8 * (m13.I 66 31)) + x1)) (m13.I 66 39)) (J2 := m13.J) (fun hT v kk => ?_) ?_
          · refine sh_is1 (x := m13.I 66 39) (i := (8 * (m13.I 66 31)) + x1) (pc2 := 154) rfl (sh_s83 hT.st) (sh_okb1 c) (sh_okb2 c) rfl ?_
            refine sh_w (i := (.iinc 1 1)) (len := 3) (pc2 := 157) (lv2 := [(1, .int (x1 + 1)), (0, .ref 67), (2, .int (sh_b2 x2))]) (st2 := []) (h2 := (sh_rep m13.T (sh_u2 (sh_u2 m13.I 82 (Int32.toNatClampNeg ((8 * (m13.I 66 31)) + x1)) (m13.I 66 38)) 83 (Int32.toNatClampNeg ((8 * (m13.I 66 31)) + x1)) (m13.I 66 39)) m13.J)) rfl rfl rfl ?_
            refine sh_w (i := (.aload_n 0)) (len := 1) (pc2 := 158) (lv2 := [(1, .int (x1 + 1)), (0, .ref 67), (2, .int (sh_b2 x2))]) (st2 := [.ref 67]) (h2 := (sh_rep m13.T (sh_u2 (sh_u2 m13.I 82 (Int32.toNatClampNeg ((8 * (m13.I 66 31)) + x1)) (m13.I 66 38)) 83 (Int32.toNatClampNeg ((8 * (m13.I 66 31)) + x1)) (m13.I 66 39)) m13.J)) rfl rfl rfl ?_
            refine sh_gR1 (len := 3) (x := .ref 69) (pc2 := 161) rfl rfl (sh_s66 hT.st) rfl rfl ?_
            refine sh_w (i := (.aload_n 0)) (len := 1) (pc2 := 162) (lv2 := [(1, .int (x1 + 1)), (0, .ref 67), (2, .int (sh_b2 x2))]) (st2 := [.ref 67, .ref 69]) (h2 := (sh_rep m13.T (sh_u2 (sh_u2 m13.I 82 (Int32.toNatClampNeg ((8 * (m13.I 66 31)) + x1)) (m13.I 66 38)) 83 (Int32.toNatClampNeg ((8 * (m13.I 66 31)) + x1)) (m13.I 66 39)) m13.J)) rfl rfl rfl ?_
            refine sh_gI1 (len := 3) (x := m13.I 66 21) (pc2 := 165) rfl rfl (sh_s66 hT.st) rfl rfl rfl ?_
            exact kk
          obtain ⟨c, e⟩ := sh_gd e
          refine sh_Lk_lift (T := m13.T) (I := sh_u2 (sh_u2 m13.I 82 (Int32.toNatClampNeg ((8 * (m13.I 66 31)) + x1)) (m13.I 66 38)) 83 (Int32.toNatClampNeg ((8 * (m13.I 66 31)) + x1)) (m13.I 66 39)) (J := m13.J) (s := m13.s) (pc2 := 168) (lv2 := [(1, .int (x1 + 1)), (0, .ref 67), (2, .int (sh_b2 x2))]) (st2 := [.int 44, .int (m13.I 68 (Int32.toNatClampNeg (m13.I 66 21)))]) (I2 := sh_u2 (sh_u2 m13.I 82 (Int32.toNatClampNeg ((8 * (m13.I 66 31)) + x1)) (m13.I 66 38)) 83 (Int32.toNatClampNeg ((8 * (m13.I 66 31)) + x1)) (m13.I 66 39)) (J2 := m13.J) (fun hT v kk => ?_) ?_
          · refine sh_ia1 (x := m13.I 68 (Int32.toNatClampNeg (m13.I 66 21))) (pc2 := 166) rfl (sh_s68 hT.st) (sh_okb1 c) (sh_okb2 c) rfl rfl ?_
            refine sh_w (i := (.bipush 44)) (len := 2) (pc2 := 168) (lv2 := [(1, .int (x1 + 1)), (0, .ref 67), (2, .int (sh_b2 x2))]) (st2 := [.int 44, .int (m13.I 68 (Int32.toNatClampNeg (m13.I 66 21)))]) (h2 := (sh_rep m13.T (sh_u2 (sh_u2 m13.I 82 (Int32.toNatClampNeg ((8 * (m13.I 66 31)) + x1)) (m13.I 66 38)) 83 (Int32.toNatClampNeg ((8 * (m13.I 66 31)) + x1)) (m13.I 66 39)) m13.J)) rfl rfl rfl ?_
            exact kk
          rcases sh_ite e with ⟨c, e⟩ | ⟨c, e⟩
          · refine sh_Lk_lift (T := m13.T) (I := sh_u2 (sh_u2 m13.I 82 (Int32.toNatClampNeg ((8 * (m13.I 66 31)) + x1)) (m13.I 66 38)) 83 (Int32.toNatClampNeg ((8 * (m13.I 66 31)) + x1)) (m13.I 66 39)) (J := m13.J) (s := m13.s) (pc2 := 176) (lv2 := [(1, .int (x1 + 1)), (0, .ref 67), (2, .int (sh_b2 x2))]) (st2 := [.int 1]) (I2 := sh_u2 (sh_u2 m13.I 82 (Int32.toNatClampNeg ((8 * (m13.I 66 31)) + x1)) (m13.I 66 38)) 83 (Int32.toNatClampNeg ((8 * (m13.I 66 31)) + x1)) (m13.I 66 39)) (J2 := m13.J) (fun hT v kk => ?_) ?_
            · refine sh_jc (c := .ne) (off := (7)) (pc2 := 171) false rfl (sh_Bnef c) rfl ?_
              refine sh_w (i := (.iconst 1)) (len := 1) (pc2 := 172) (lv2 := [(1, .int (x1 + 1)), (0, .ref 67), (2, .int (sh_b2 x2))]) (st2 := [.int 1]) (h2 := (sh_rep m13.T (sh_u2 (sh_u2 m13.I 82 (Int32.toNatClampNeg ((8 * (m13.I 66 31)) + x1)) (m13.I 66 38)) 83 (Int32.toNatClampNeg ((8 * (m13.I 66 31)) + x1)) (m13.I 66 39)) m13.J)) rfl rfl rfl ?_
              refine sh_w (i := (.goto 4)) (len := 3) (pc2 := 176) (lv2 := [(1, .int (x1 + 1)), (0, .ref 67), (2, .int (sh_b2 x2))]) (st2 := [.int 1]) (h2 := (sh_rep m13.T (sh_u2 (sh_u2 m13.I 82 (Int32.toNatClampNeg ((8 * (m13.I 66 31)) + x1)) (m13.I 66 38)) 83 (Int32.toNatClampNeg ((8 * (m13.I 66 31)) + x1)) (m13.I 66 39)) m13.J)) rfl rfl rfl ?_
              exact kk
            exact sh_Lk_sub (sh_sub_c rfl (sh_sub_c rfl (sh_sub_n))) (sl_257_176 e tg)
          · refine sh_Lk_lift (T := m13.T) (I := sh_u2 (sh_u2 m13.I 82 (Int32.toNatClampNeg ((8 * (m13.I 66 31)) + x1)) (m13.I 66 38)) 83 (Int32.toNatClampNeg ((8 * (m13.I 66 31)) + x1)) (m13.I 66 39)) (J := m13.J) (s := m13.s) (pc2 := 176) (lv2 := [(1, .int (x1 + 1)), (0, .ref 67), (2, .int (sh_b2 x2))]) (st2 := [.int 0]) (I2 := sh_u2 (sh_u2 m13.I 82 (Int32.toNatClampNeg ((8 * (m13.I 66 31)) + x1)) (m13.I 66 38)) 83 (Int32.toNatClampNeg ((8 * (m13.I 66 31)) + x1)) (m13.I 66 39)) (J2 := m13.J) (fun hT v kk => ?_) ?_
            · refine sh_jc (c := .ne) (off := (7)) (pc2 := 175) true rfl (sh_Bnet c) rfl ?_
              refine sh_w (i := (.iconst 0)) (len := 1) (pc2 := 176) (lv2 := [(1, .int (x1 + 1)), (0, .ref 67), (2, .int (sh_b2 x2))]) (st2 := [.int 0]) (h2 := (sh_rep m13.T (sh_u2 (sh_u2 m13.I 82 (Int32.toNatClampNeg ((8 * (m13.I 66 31)) + x1)) (m13.I 66 38)) 83 (Int32.toNatClampNeg ((8 * (m13.I 66 31)) + x1)) (m13.I 66 39)) m13.J)) rfl rfl rfl ?_
              exact kk
            exact sh_Lk_sub (sh_sub_c rfl (sh_sub_c rfl (sh_sub_n))) (sl_257_176 e tg)
        · refine sh_Lk_lift (T := m13.T) (I := m13.I) (J := m13.J) (s := m13.s) (pc2 := 117) (lv2 := [(0, .ref 67), (1, .int x1), (2, .int (sh_b2 x2))]) (st2 := [.int 0]) (I2 := m13.I) (J2 := m13.J) (fun hT v kk => ?_) ?_
          · refine sh_j0 (c := .ne) (off := (5)) (pc2 := 116) false rfl (sh_Znef c) rfl ?_
            refine sh_w (i := (.iconst 0)) (len := 1) (pc2 := 117) (lv2 := [(0, .ref 67), (1, .int x1), (2, .int (sh_b2 x2))]) (st2 := [.int 0]) (h2 := (sh_rep m13.T m13.I m13.J)) rfl rfl rfl ?_
            exact kk
          obtain rfl := Option.some.inj e
          obtain ⟨rfl, rfl⟩ := tg
          exact sh_Lk_ret (i := .ireturn) rfl rfl rfl (Nat.le_of_ble_eq_true rfl) (Nat.le_of_ble_eq_true rfl)
      · refine sh_Lk_lift (T := m12.T) (I := m12.I) (J := m12.J) (s := m12.s) (pc2 := 117) (lv2 := [(0, .ref 67), (1, .int x1), (2, .int (sh_b2 x2))]) (st2 := [.int 0]) (I2 := m12.I) (J2 := m12.J) (fun hT v kk => ?_) ?_
        · refine sh_j0 (c := .eq) (off := (10)) (pc2 := 116) true rfl (sh_Zeqt c) rfl ?_
          refine sh_w (i := (.iconst 0)) (len := 1) (pc2 := 117) (lv2 := [(0, .ref 67), (1, .int x1), (2, .int (sh_b2 x2))]) (st2 := [.int 0]) (h2 := (sh_rep m12.T m12.I m12.J)) rfl rfl rfl ?_
          exact kk
        obtain rfl := Option.some.inj e
        obtain ⟨rfl, rfl⟩ := tg
        exact sh_Lk_ret (i := .ireturn) rfl rfl rfl (Nat.le_of_ble_eq_true rfl) (Nat.le_of_ble_eq_true rfl)
  · refine sh_Lk_lift (T := m.T) (I := m.I) (J := m.J) (s := m.s) (pc2 := 194) (lv2 := [(0, .ref 67), (1, .int x1), (2, .int (sh_b2 x2))]) (st2 := []) (I2 := m.I) (J2 := m.J) (fun hT v kk => ?_) ?_
    · refine sh_j0 (c := .eq) (off := (134)) (pc2 := 194) true rfl (sh_Zeqt c) rfl ?_
      exact kk
    obtain ⟨_, eu, rfl⟩ := sh_up_e e
    exact sh_Lk_sub (sh_sub_c rfl (sh_sub_c rfl (sh_sub_n))) (sl_257_194 eu tg)
theorem sl_257_59 {x1 : Int32} {x2 : Bool} {m m2 : sh_X} {o : Outcome} {z : (Bool × sh_X)} (e : sf_257_59 x1 x2 m = some z) (tg : (sh_tZ o m2) z) : sh_Lk 257 59 [(0, .ref 67), (1, .int x1), (2, .int (sh_b2 x2))] [] m o m2 2035 80714 := by
  unfold sf_257_59 at e
  exact sh_while_lk (P := fun q => sh_Lk 257 59 [(0, .ref 67), (1, .int q.1), (2, .int (sh_b2 q.2.1))] [] q.2.2 o m2 2035 80714) (Q := (sh_tZ o m2)) (fun q z e tg => sl_257_59s (x1 := q.1) (x2 := q.2.1) (m := q.2.2) e tg) (s := (x1, x2, m)) e tg
theorem sl_257 {m m2 : sh_X} {o : Outcome} {z : (Bool × sh_X)} (e : sf_257 m = some z) (tg : (sh_tZ o m2) z) : sh_Lk 257 0 [(0, .ref 67)] [] m o m2 2035 80714 := by
  unfold sf_257 at e
  refine sh_Lk_lift (T := m.T) (I := m.I) (J := m.J) (s := m.s) (pc2 := 22) (lv2 := [(0, .ref 67)]) (st2 := [.int ((m.I 66 21) + 1), .int (m.I 66 31), .ref 80]) (I2 := sh_u2 m.I 66 21 ((m.I 66 21) + 1)) (J2 := m.J) (fun hT v kk => ?_) ?_
  · refine sh_w (i := (.aload_n 0)) (len := 1) (pc2 := 1) (lv2 := [(0, .ref 67)]) (st2 := [.ref 67]) (h2 := (sh_rep m.T m.I m.J)) rfl rfl rfl ?_
    refine sh_w (i := .dup) (len := 1) (pc2 := 2) (lv2 := [(0, .ref 67)]) (st2 := [.ref 67, .ref 67]) (h2 := (sh_rep m.T m.I m.J)) rfl rfl rfl ?_
    refine sh_gI1 (len := 3) (x := m.I 66 21) (pc2 := 5) rfl rfl (sh_s66 hT.st) rfl rfl rfl ?_
    refine sh_w (i := (.iconst 1)) (len := 1) (pc2 := 6) (lv2 := [(0, .ref 67)]) (st2 := [.int 1, .int (m.I 66 21), .ref 67]) (h2 := (sh_rep m.T m.I m.J)) rfl rfl rfl ?_
    refine sh_w (i := .iadd) (len := 1) (pc2 := 7) (lv2 := [(0, .ref 67)]) (st2 := [.int ((m.I 66 21) + 1), .ref 67]) (h2 := (sh_rep m.T m.I m.J)) rfl rfl rfl ?_
    refine sh_pI1 (x := (m.I 66 21) + 1) (pc2 := 10) rfl rfl (sh_s66 hT.st) rfl rfl rfl rfl ?_
    refine sh_w (i := (.aload_n 0)) (len := 1) (pc2 := 11) (lv2 := [(0, .ref 67)]) (st2 := [.ref 67]) (h2 := (sh_rep m.T (sh_u2 m.I 66 21 ((m.I 66 21) + 1)) m.J)) rfl rfl rfl ?_
    refine sh_gR1 (len := 3) (x := .ref 80) (pc2 := 14) rfl rfl (sh_s66 hT.st) rfl rfl ?_
    refine sh_w (i := (.aload_n 0)) (len := 1) (pc2 := 15) (lv2 := [(0, .ref 67)]) (st2 := [.ref 67, .ref 80]) (h2 := (sh_rep m.T (sh_u2 m.I 66 21 ((m.I 66 21) + 1)) m.J)) rfl rfl rfl ?_
    refine sh_gI1 (len := 3) (x := m.I 66 31) (pc2 := 18) rfl rfl (sh_s66 hT.st) rfl rfl rfl ?_
    refine sh_w (i := (.aload_n 0)) (len := 1) (pc2 := 19) (lv2 := [(0, .ref 67)]) (st2 := [.ref 67, .int (m.I 66 31), .ref 80]) (h2 := (sh_rep m.T (sh_u2 m.I 66 21 ((m.I 66 21) + 1)) m.J)) rfl rfl rfl ?_
    refine sh_gI1 (len := 3) (x := (m.I 66 21) + 1) (pc2 := 22) rfl rfl (sh_s66 hT.st) rfl rfl rfl ?_
    exact kk
  obtain ⟨c, e⟩ := sh_gd e
  refine sh_Lk_lift (T := m.T) (I := sh_u2 m.I 66 21 ((m.I 66 21) + 1)) (J := m.J) (s := m.s) (pc2 := 24) (lv2 := [(0, .ref 67)]) (st2 := [.ref 67]) (I2 := sh_u2 (sh_u2 m.I 66 21 ((m.I 66 21) + 1)) 79 (Int32.toNatClampNeg (m.I 66 31)) ((m.I 66 21) + 1)) (J2 := m.J) (fun hT v kk => ?_) ?_
  · refine sh_is1 (x := (m.I 66 21) + 1) (i := m.I 66 31) (pc2 := 23) rfl (sh_s79 hT.st) (sh_okb1 c) (sh_okb2 c) rfl ?_
    refine sh_w (i := (.aload_n 0)) (len := 1) (pc2 := 24) (lv2 := [(0, .ref 67)]) (st2 := [.ref 67]) (h2 := (sh_rep m.T (sh_u2 (sh_u2 m.I 66 21 ((m.I 66 21) + 1)) 79 (Int32.toNatClampNeg (m.I 66 31)) ((m.I 66 21) + 1)) m.J)) rfl rfl rfl ?_
    exact kk
  obtain ⟨r1, m11, e1, e⟩ := sh_bn_e e
  refine sh_Lk_cV (r := (some (.int (sh_b2 r1)))) (st2 := [.int (sh_b2 r1)]) (pc2 := 27) (k2 := 258) (a := 66) (as := [.ref 67]) (rest := []) rfl rfl rfl (fun hT => (sh_s66 hT.st)) rfl rfl ⟨Nat.le_of_ble_eq_true rfl, Nat.le_of_ble_eq_true rfl⟩ (sl_258 e1 ⟨rfl, rfl⟩) rfl rfl (Nat.le_of_ble_eq_true rfl) (Nat.le_of_ble_eq_true rfl) ?_
  rcases sh_ite e with ⟨c, e⟩ | ⟨c, e⟩
  · refine sh_Lk_lift (T := m11.T) (I := m11.I) (J := m11.J) (s := m11.s) (pc2 := 33) (lv2 := [(0, .ref 67)]) (st2 := [.int 40, .ref 67]) (I2 := m11.I) (J2 := m11.J) (fun hT v kk => ?_) ?_
    · refine sh_j0 (c := .eq) (off := (12)) (pc2 := 30) false rfl (sh_Zeqf c) rfl ?_
      refine sh_w (i := (.aload_n 0)) (len := 1) (pc2 := 31) (lv2 := [(0, .ref 67)]) (st2 := [.ref 67]) (h2 := (sh_rep m11.T m11.I m11.J)) rfl rfl rfl ?_
      refine sh_w (i := (.bipush 40)) (len := 2) (pc2 := 33) (lv2 := [(0, .ref 67)]) (st2 := [.int 40, .ref 67]) (h2 := (sh_rep m11.T m11.I m11.J)) rfl rfl rfl ?_
      exact kk
    obtain ⟨r2, m12, e2, e⟩ := sh_bn_e e
    refine sh_Lk_cV (r := (some (.int (sh_b2 r2)))) (st2 := [.int (sh_b2 r2)]) (pc2 := 36) (k2 := 262) (a := 66) (as := [.ref 67, .int 40]) (rest := []) rfl rfl rfl (fun hT => (sh_s66 hT.st)) rfl rfl ⟨Nat.le_of_ble_eq_true rfl, Nat.le_of_ble_eq_true rfl⟩ (sl_262 e2 ⟨rfl, rfl⟩) rfl rfl (Nat.le_of_ble_eq_true rfl) (Nat.le_of_ble_eq_true rfl) ?_
    rcases sh_ite e with ⟨c, e⟩ | ⟨c, e⟩
    · refine sh_Lk_lift (T := m12.T) (I := m12.I) (J := m12.J) (s := m12.s) (pc2 := 51) (lv2 := [(1, .int 0), (0, .ref 67)]) (st2 := [.int (m12.I 66 21), .ref 69]) (I2 := m12.I) (J2 := m12.J) (fun hT v kk => ?_) ?_
      · refine sh_j0 (c := .ne) (off := (5)) (pc2 := 41) true rfl (sh_Znet c) rfl ?_
        refine sh_w (i := (.iconst 0)) (len := 1) (pc2 := 42) (lv2 := [(0, .ref 67)]) (st2 := [.int 0]) (h2 := (sh_rep m12.T m12.I m12.J)) rfl rfl rfl ?_
        refine sh_w (i := (.istore_n 1)) (len := 1) (pc2 := 43) (lv2 := [(1, .int 0), (0, .ref 67)]) (st2 := []) (h2 := (sh_rep m12.T m12.I m12.J)) rfl rfl rfl ?_
        refine sh_w (i := (.aload_n 0)) (len := 1) (pc2 := 44) (lv2 := [(1, .int 0), (0, .ref 67)]) (st2 := [.ref 67]) (h2 := (sh_rep m12.T m12.I m12.J)) rfl rfl rfl ?_
        refine sh_gR1 (len := 3) (x := .ref 69) (pc2 := 47) rfl rfl (sh_s66 hT.st) rfl rfl ?_
        refine sh_w (i := (.aload_n 0)) (len := 1) (pc2 := 48) (lv2 := [(1, .int 0), (0, .ref 67)]) (st2 := [.ref 67, .ref 69]) (h2 := (sh_rep m12.T m12.I m12.J)) rfl rfl rfl ?_
        refine sh_gI1 (len := 3) (x := m12.I 66 21) (pc2 := 51) rfl rfl (sh_s66 hT.st) rfl rfl rfl ?_
        exact kk
      obtain ⟨c, e⟩ := sh_gd e
      refine sh_Lk_lift (T := m12.T) (I := m12.I) (J := m12.J) (s := m12.s) (pc2 := 54) (lv2 := [(1, .int 0), (0, .ref 67)]) (st2 := [.int 41, .int (m12.I 68 (Int32.toNatClampNeg (m12.I 66 21)))]) (I2 := m12.I) (J2 := m12.J) (fun hT v kk => ?_) ?_
      · refine sh_ia1 (x := m12.I 68 (Int32.toNatClampNeg (m12.I 66 21))) (pc2 := 52) rfl (sh_s68 hT.st) (sh_okb1 c) (sh_okb2 c) rfl rfl ?_
        refine sh_w (i := (.bipush 41)) (len := 2) (pc2 := 54) (lv2 := [(1, .int 0), (0, .ref 67)]) (st2 := [.int 41, .int (m12.I 68 (Int32.toNatClampNeg (m12.I 66 21)))]) (h2 := (sh_rep m12.T m12.I m12.J)) rfl rfl rfl ?_
        exact kk
      rcases sh_ite e with ⟨c, e⟩ | ⟨c, e⟩
      · refine sh_Lk_lift (T := m12.T) (I := m12.I) (J := m12.J) (s := m12.s) (pc2 := 194) (lv2 := [(1, .int 0), (0, .ref 67)]) (st2 := []) (I2 := m12.I) (J2 := m12.J) (fun hT v kk => ?_) ?_
        · refine sh_jc (c := .eq) (off := (140)) (pc2 := 194) true rfl (sh_Beqt c) rfl ?_
          exact kk
        exact sh_Lk_sub (sh_sub_c rfl (sh_sub_c rfl (sh_sub_n))) (sl_257_194 e tg)
      · refine sh_Lk_lift (T := m12.T) (I := m12.I) (J := m12.J) (s := m12.s) (pc2 := 59) (lv2 := [(2, .int 1), (1, .int 0), (0, .ref 67)]) (st2 := []) (I2 := m12.I) (J2 := m12.J) (fun hT v kk => ?_) ?_
        · refine sh_jc (c := .eq) (off := (140)) (pc2 := 57) false rfl (sh_Beqf c) rfl ?_
          refine sh_w (i := (.iconst 1)) (len := 1) (pc2 := 58) (lv2 := [(1, .int 0), (0, .ref 67)]) (st2 := [.int 1]) (h2 := (sh_rep m12.T m12.I m12.J)) rfl rfl rfl ?_
          refine sh_w (i := (.istore_n 2)) (len := 1) (pc2 := 59) (lv2 := [(2, .int 1), (1, .int 0), (0, .ref 67)]) (st2 := []) (h2 := (sh_rep m12.T m12.I m12.J)) rfl rfl rfl ?_
          exact kk
        exact sh_Lk_sub (sh_sub_c rfl (sh_sub_c rfl (sh_sub_c rfl (sh_sub_n)))) (sl_257_59 e tg)
    · refine sh_Lk_lift (T := m12.T) (I := m12.I) (J := m12.J) (s := m12.s) (pc2 := 40) (lv2 := [(0, .ref 67)]) (st2 := [.int 0]) (I2 := m12.I) (J2 := m12.J) (fun hT v kk => ?_) ?_
      · refine sh_j0 (c := .ne) (off := (5)) (pc2 := 39) false rfl (sh_Znef c) rfl ?_
        refine sh_w (i := (.iconst 0)) (len := 1) (pc2 := 40) (lv2 := [(0, .ref 67)]) (st2 := [.int 0]) (h2 := (sh_rep m12.T m12.I m12.J)) rfl rfl rfl ?_
        exact kk
      obtain rfl := Option.some.inj e
      obtain ⟨rfl, rfl⟩ := tg
      exact sh_Lk_ret (i := .ireturn) rfl rfl rfl (Nat.le_of_ble_eq_true rfl) (Nat.le_of_ble_eq_true rfl)
  · refine sh_Lk_lift (T := m11.T) (I := m11.I) (J := m11.J) (s := m11.s) (pc2 := 40) (lv2 := [(0, .ref 67)]) (st2 := [.int 0]) (I2 := m11.I) (J2 := m11.J) (fun hT v kk => ?_) ?_
    · refine sh_j0 (c := .eq) (off := (12)) (pc2 := 39) true rfl (sh_Zeqt c) rfl ?_
      refine sh_w (i := (.iconst 0)) (len := 1) (pc2 := 40) (lv2 := [(0, .ref 67)]) (st2 := [.int 0]) (h2 := (sh_rep m11.T m11.I m11.J)) rfl rfl rfl ?_
      exact kk
    obtain rfl := Option.some.inj e
    obtain ⟨rfl, rfl⟩ := tg
    exact sh_Lk_ret (i := .ireturn) rfl rfl rfl (Nat.le_of_ble_eq_true rfl) (Nat.le_of_ble_eq_true rfl)
theorem sl_255_95 {y1 : Int32} {y2 : Bool} {m m2 : sh_X} {o : Outcome} {z : (sh_X ⊕ (Bool × sh_X))} (e : sf_255_95 y1 y2 m = some z) (tg : (sh_el (fun q => sh_Lk 255 43 [(0, .ref 67)] [] q o m2 2036 80736) (sh_tZ o m2)) z) : sh_Lk 255 95 [(0, .ref 67)] [.int (sh_b2 y2), .int y1, .ref 89] m o m2 2036 80736 := by
  unfold sf_255_95 at e
  obtain ⟨c, e⟩ := sh_gd e
  refine sh_Lk_lift (T := m.T) (I := m.I) (J := m.J) (s := m.s) (pc2 := 118) (lv2 := [(0, .ref 67)]) (st2 := [.int ((m.I 66 21) + 1), .int (m.I 66 36), .ref 90]) (I2 := sh_u2 (sh_u2 m.I 88 (Int32.toNatClampNeg y1) (sh_b2 y2)) 66 21 ((m.I 66 21) + 1)) (J2 := m.J) (fun hT v kk => ?_) ?_
  · refine sh_is1 (x := sh_b2 y2) (i := y1) (pc2 := 96) rfl (sh_s88 hT.st) (sh_okb1 c) (sh_okb2 c) rfl ?_
    refine sh_w (i := (.aload_n 0)) (len := 1) (pc2 := 97) (lv2 := [(0, .ref 67)]) (st2 := [.ref 67]) (h2 := (sh_rep m.T (sh_u2 m.I 88 (Int32.toNatClampNeg y1) (sh_b2 y2)) m.J)) rfl rfl rfl ?_
    refine sh_w (i := .dup) (len := 1) (pc2 := 98) (lv2 := [(0, .ref 67)]) (st2 := [.ref 67, .ref 67]) (h2 := (sh_rep m.T (sh_u2 m.I 88 (Int32.toNatClampNeg y1) (sh_b2 y2)) m.J)) rfl rfl rfl ?_
    refine sh_gI1 (len := 3) (x := m.I 66 21) (pc2 := 101) rfl rfl (sh_s66 hT.st) rfl rfl rfl ?_
    refine sh_w (i := (.iconst 1)) (len := 1) (pc2 := 102) (lv2 := [(0, .ref 67)]) (st2 := [.int 1, .int (m.I 66 21), .ref 67]) (h2 := (sh_rep m.T (sh_u2 m.I 88 (Int32.toNatClampNeg y1) (sh_b2 y2)) m.J)) rfl rfl rfl ?_
    refine sh_w (i := .iadd) (len := 1) (pc2 := 103) (lv2 := [(0, .ref 67)]) (st2 := [.int ((m.I 66 21) + 1), .ref 67]) (h2 := (sh_rep m.T (sh_u2 m.I 88 (Int32.toNatClampNeg y1) (sh_b2 y2)) m.J)) rfl rfl rfl ?_
    refine sh_pI1 (x := (m.I 66 21) + 1) (pc2 := 106) rfl rfl (sh_s66 hT.st) rfl rfl rfl rfl ?_
    refine sh_w (i := (.aload_n 0)) (len := 1) (pc2 := 107) (lv2 := [(0, .ref 67)]) (st2 := [.ref 67]) (h2 := (sh_rep m.T (sh_u2 (sh_u2 m.I 88 (Int32.toNatClampNeg y1) (sh_b2 y2)) 66 21 ((m.I 66 21) + 1)) m.J)) rfl rfl rfl ?_
    refine sh_gR1 (len := 3) (x := .ref 90) (pc2 := 110) rfl rfl (sh_s66 hT.st) rfl rfl ?_
    refine sh_w (i := (.aload_n 0)) (len := 1) (pc2 := 111) (lv2 := [(0, .ref 67)]) (st2 := [.ref 67, .ref 90]) (h2 := (sh_rep m.T (sh_u2 (sh_u2 m.I 88 (Int32.toNatClampNeg y1) (sh_b2 y2)) 66 21 ((m.I 66 21) + 1)) m.J)) rfl rfl rfl ?_
    refine sh_gI1 (len := 3) (x := m.I 66 36) (pc2 := 114) rfl rfl (sh_s66 hT.st) rfl rfl rfl ?_
    refine sh_w (i := (.aload_n 0)) (len := 1) (pc2 := 115) (lv2 := [(0, .ref 67)]) (st2 := [.ref 67, .int (m.I 66 36), .ref 90]) (h2 := (sh_rep m.T (sh_u2 (sh_u2 m.I 88 (Int32.toNatClampNeg y1) (sh_b2 y2)) 66 21 ((m.I 66 21) + 1)) m.J)) rfl rfl rfl ?_
    refine sh_gI1 (len := 3) (x := (m.I 66 21) + 1) (pc2 := 118) rfl rfl (sh_s66 hT.st) rfl rfl rfl ?_
    exact kk
  obtain ⟨c, e⟩ := sh_gd e
  refine sh_Lk_lift (T := m.T) (I := sh_u2 (sh_u2 m.I 88 (Int32.toNatClampNeg y1) (sh_b2 y2)) 66 21 ((m.I 66 21) + 1)) (J := m.J) (s := m.s) (pc2 := 120) (lv2 := [(0, .ref 67)]) (st2 := [.ref 67]) (I2 := sh_u2 (sh_u2 (sh_u2 m.I 88 (Int32.toNatClampNeg y1) (sh_b2 y2)) 66 21 ((m.I 66 21) + 1)) 89 (Int32.toNatClampNeg (m.I 66 36)) ((m.I 66 21) + 1)) (J2 := m.J) (fun hT v kk => ?_) ?_
  · refine sh_is1 (x := (m.I 66 21) + 1) (i := m.I 66 36) (pc2 := 119) rfl (sh_s89 hT.st) (sh_okb1 c) (sh_okb2 c) rfl ?_
    refine sh_w (i := (.aload_n 0)) (len := 1) (pc2 := 120) (lv2 := [(0, .ref 67)]) (st2 := [.ref 67]) (h2 := (sh_rep m.T (sh_u2 (sh_u2 (sh_u2 m.I 88 (Int32.toNatClampNeg y1) (sh_b2 y2)) 66 21 ((m.I 66 21) + 1)) 89 (Int32.toNatClampNeg (m.I 66 36)) ((m.I 66 21) + 1)) m.J)) rfl rfl rfl ?_
    exact kk
  obtain ⟨r1, m11, e1, e⟩ := sh_bn_e e
  refine sh_Lk_cV (r := (some (.int (sh_b2 r1)))) (st2 := [.int (sh_b2 r1)]) (pc2 := 123) (k2 := 258) (a := 66) (as := [.ref 67]) (rest := []) rfl rfl rfl (fun hT => (sh_s66 hT.st)) rfl rfl ⟨Nat.le_of_ble_eq_true rfl, Nat.le_of_ble_eq_true rfl⟩ (sl_258 e1 ⟨rfl, rfl⟩) rfl rfl (Nat.le_of_ble_eq_true rfl) (Nat.le_of_ble_eq_true rfl) ?_
  rcases sh_ite e with ⟨c, e⟩ | ⟨c, e⟩
  · refine sh_Lk_lift (T := m11.T) (I := m11.I) (J := m11.J) (s := m11.s) (pc2 := 127) (lv2 := [(0, .ref 67)]) (st2 := [.ref 67]) (I2 := m11.I) (J2 := m11.J) (fun hT v kk => ?_) ?_
    · refine sh_j0 (c := .eq) (off := (10)) (pc2 := 126) false rfl (sh_Zeqf c) rfl ?_
      refine sh_w (i := (.aload_n 0)) (len := 1) (pc2 := 127) (lv2 := [(0, .ref 67)]) (st2 := [.ref 67]) (h2 := (sh_rep m11.T m11.I m11.J)) rfl rfl rfl ?_
      exact kk
    obtain ⟨r2, m12, e2, e⟩ := sh_bn_e e
    refine sh_Lk_cV (r := (some (.int (sh_b2 r2)))) (st2 := [.int (sh_b2 r2)]) (pc2 := 130) (k2 := 263) (a := 66) (as := [.ref 67]) (rest := []) rfl rfl rfl (fun hT => (sh_s66 hT.st)) rfl rfl ⟨Nat.le_of_ble_eq_true rfl, Nat.le_of_ble_eq_true rfl⟩ (sl_263 e2 ⟨rfl, rfl⟩) rfl rfl (Nat.le_of_ble_eq_true rfl) (Nat.le_of_ble_eq_true rfl) ?_
    rcases sh_ite e with ⟨c, e⟩ | ⟨c, e⟩
    · refine sh_Lk_lift (T := m12.T) (I := m12.I) (J := m12.J) (s := m12.s) (pc2 := 147) (lv2 := [(0, .ref 67)]) (st2 := [.int (m12.I 66 38), .int (m12.I 66 36), .ref 91]) (I2 := m12.I) (J2 := m12.J) (fun hT v kk => ?_) ?_
      · refine sh_j0 (c := .ne) (off := (5)) (pc2 := 135) true rfl (sh_Znet c) rfl ?_
        refine sh_w (i := (.aload_n 0)) (len := 1) (pc2 := 136) (lv2 := [(0, .ref 67)]) (st2 := [.ref 67]) (h2 := (sh_rep m12.T m12.I m12.J)) rfl rfl rfl ?_
        refine sh_gR1 (len := 3) (x := .ref 91) (pc2 := 139) rfl rfl (sh_s66 hT.st) rfl rfl ?_
        refine sh_w (i := (.aload_n 0)) (len := 1) (pc2 := 140) (lv2 := [(0, .ref 67)]) (st2 := [.ref 67, .ref 91]) (h2 := (sh_rep m12.T m12.I m12.J)) rfl rfl rfl ?_
        refine sh_gI1 (len := 3) (x := m12.I 66 36) (pc2 := 143) rfl rfl (sh_s66 hT.st) rfl rfl rfl ?_
        refine sh_w (i := (.aload_n 0)) (len := 1) (pc2 := 144) (lv2 := [(0, .ref 67)]) (st2 := [.ref 67, .int (m12.I 66 36), .ref 91]) (h2 := (sh_rep m12.T m12.I m12.J)) rfl rfl rfl ?_
        refine sh_gI1 (len := 3) (x := m12.I 66 38) (pc2 := 147) rfl rfl (sh_s66 hT.st) rfl rfl rfl ?_
        exact kk
      obtain ⟨c, e⟩ := sh_gd e
      refine sh_Lk_lift (T := m12.T) (I := m12.I) (J := m12.J) (s := m12.s) (pc2 := 160) (lv2 := [(0, .ref 67)]) (st2 := [.int (m12.I 66 39), .int (m12.I 66 36), .ref 92]) (I2 := sh_u2 m12.I 90 (Int32.toNatClampNeg (m12.I 66 36)) (m12.I 66 38)) (J2 := m12.J) (fun hT v kk => ?_) ?_
      · refine sh_is1 (x := m12.I 66 38) (i := m12.I 66 36) (pc2 := 148) rfl (sh_s90 hT.st) (sh_okb1 c) (sh_okb2 c) rfl ?_
        refine sh_w (i := (.aload_n 0)) (len := 1) (pc2 := 149) (lv2 := [(0, .ref 67)]) (st2 := [.ref 67]) (h2 := (sh_rep m12.T (sh_u2 m12.I 90 (Int32.toNatClampNeg (m12.I 66 36)) (m12.I 66 38)) m12.J)) rfl rfl rfl ?_
        refine sh_gR1 (len := 3) (x := .ref 92) (pc2 := 152) rfl rfl (sh_s66 hT.st) rfl rfl ?_
        refine sh_w (i := (.aload_n 0)) (len := 1) (pc2 := 153) (lv2 := [(0, .ref 67)]) (st2 := [.ref 67, .ref 92]) (h2 := (sh_rep m12.T (sh_u2 m12.I 90 (Int32.toNatClampNeg (m12.I 66 36)) (m12.I 66 38)) m12.J)) rfl rfl rfl ?_
        refine sh_gI1 (len := 3) (x := m12.I 66 36) (pc2 := 156) rfl rfl (sh_s66 hT.st) rfl rfl rfl ?_
        refine sh_w (i := (.aload_n 0)) (len := 1) (pc2 := 157) (lv2 := [(0, .ref 67)]) (st2 := [.ref 67, .int (m12.I 66 36), .ref 92]) (h2 := (sh_rep m12.T (sh_u2 m12.I 90 (Int32.toNatClampNeg (m12.I 66 36)) (m12.I 66 38)) m12.J)) rfl rfl rfl ?_
        refine sh_gI1 (len := 3) (x := m12.I 66 39) (pc2 := 160) rfl rfl (sh_s66 hT.st) rfl rfl rfl ?_
        exact kk
      obtain ⟨c, e⟩ := sh_gd e
      refine sh_Lk_lift (T := m12.T) (I := sh_u2 m12.I 90 (Int32.toNatClampNeg (m12.I 66 36)) (m12.I 66 38)) (J := m12.J) (s := m12.s) (pc2 := 164) (lv2 := [(0, .ref 67)]) (st2 := [.int 59, .ref 67]) (I2 := sh_u2 (sh_u2 m12.I 90 (Int32.toNatClampNeg (m12.I 66 36)) (m12.I 66 38)) 91 (Int32.toNatClampNeg (m12.I 66 36)) (m12.I 66 39)) (J2 := m12.J) (fun hT v kk => ?_) ?_
      · refine sh_is1 (x := m12.I 66 39) (i := m12.I 66 36) (pc2 := 161) rfl (sh_s91 hT.st) (sh_okb1 c) (sh_okb2 c) rfl ?_
        refine sh_w (i := (.aload_n 0)) (len := 1) (pc2 := 162) (lv2 := [(0, .ref 67)]) (st2 := [.ref 67]) (h2 := (sh_rep m12.T (sh_u2 (sh_u2 m12.I 90 (Int32.toNatClampNeg (m12.I 66 36)) (m12.I 66 38)) 91 (Int32.toNatClampNeg (m12.I 66 36)) (m12.I 66 39)) m12.J)) rfl rfl rfl ?_
        refine sh_w (i := (.bipush 59)) (len := 2) (pc2 := 164) (lv2 := [(0, .ref 67)]) (st2 := [.int 59, .ref 67]) (h2 := (sh_rep m12.T (sh_u2 (sh_u2 m12.I 90 (Int32.toNatClampNeg (m12.I 66 36)) (m12.I 66 38)) 91 (Int32.toNatClampNeg (m12.I 66 36)) (m12.I 66 39)) m12.J)) rfl rfl rfl ?_
        exact kk
      obtain ⟨r3, m13, e3, e⟩ := sh_bn_e e
      refine sh_Lk_cV (r := (some (.int (sh_b2 r3)))) (st2 := [.int (sh_b2 r3)]) (pc2 := 167) (k2 := 262) (a := 66) (as := [.ref 67, .int 59]) (rest := []) rfl rfl rfl (fun hT => (sh_s66 hT.st)) rfl rfl ⟨Nat.le_of_ble_eq_true rfl, Nat.le_of_ble_eq_true rfl⟩ (sl_262 e3 ⟨rfl, rfl⟩) rfl rfl (Nat.le_of_ble_eq_true rfl) (Nat.le_of_ble_eq_true rfl) ?_
      rcases sh_ite e with ⟨c, e⟩ | ⟨c, e⟩
      · refine sh_Lk_lift (T := m13.T) (I := m13.I) (J := m13.J) (s := m13.s) (pc2 := 43) (lv2 := [(0, .ref 67)]) (st2 := []) (I2 := sh_u2 m13.I 66 36 ((m13.I 66 36) + 1)) (J2 := m13.J) (fun hT v kk => ?_) ?_
        · refine sh_j0 (c := .ne) (off := (5)) (pc2 := 172) true rfl (sh_Znet c) rfl ?_
          refine sh_w (i := (.aload_n 0)) (len := 1) (pc2 := 173) (lv2 := [(0, .ref 67)]) (st2 := [.ref 67]) (h2 := (sh_rep m13.T m13.I m13.J)) rfl rfl rfl ?_
          refine sh_w (i := .dup) (len := 1) (pc2 := 174) (lv2 := [(0, .ref 67)]) (st2 := [.ref 67, .ref 67]) (h2 := (sh_rep m13.T m13.I m13.J)) rfl rfl rfl ?_
          refine sh_gI1 (len := 3) (x := m13.I 66 36) (pc2 := 177) rfl rfl (sh_s66 hT.st) rfl rfl rfl ?_
          refine sh_w (i := (.iconst 1)) (len := 1) (pc2 := 178) (lv2 := [(0, .ref 67)]) (st2 := [.int 1, .int (m13.I 66 36), .ref 67]) (h2 := (sh_rep m13.T m13.I m13.J)) rfl rfl rfl ?_
          refine sh_w (i := .iadd) (len := 1) (pc2 := 179) (lv2 := [(0, .ref 67)]) (st2 := [.int ((m13.I 66 36) + 1), .ref 67]) (h2 := (sh_rep m13.T m13.I m13.J)) rfl rfl rfl ?_
          refine sh_pI1 (x := (m13.I 66 36) + 1) (pc2 := 182) rfl rfl (sh_s66 hT.st) rfl rfl rfl rfl ?_
          refine sh_w (i := (.goto (-139))) (len := 3) (pc2 := 43) (lv2 := [(0, .ref 67)]) (st2 := []) (h2 := (sh_rep m13.T (sh_u2 m13.I 66 36 ((m13.I 66 36) + 1)) m13.J)) rfl rfl rfl ?_
          exact kk
        obtain rfl := Option.some.inj e
        exact sh_Lk_sub (sh_sub_c rfl (sh_sub_n)) tg
      · refine sh_Lk_lift (T := m13.T) (I := m13.I) (J := m13.J) (s := m13.s) (pc2 := 171) (lv2 := [(0, .ref 67)]) (st2 := [.int 0]) (I2 := m13.I) (J2 := m13.J) (fun hT v kk => ?_) ?_
        · refine sh_j0 (c := .ne) (off := (5)) (pc2 := 170) false rfl (sh_Znef c) rfl ?_
          refine sh_w (i := (.iconst 0)) (len := 1) (pc2 := 171) (lv2 := [(0, .ref 67)]) (st2 := [.int 0]) (h2 := (sh_rep m13.T m13.I m13.J)) rfl rfl rfl ?_
          exact kk
        obtain rfl := Option.some.inj e
        obtain ⟨rfl, rfl⟩ := tg
        exact sh_Lk_ret (i := .ireturn) rfl rfl rfl (Nat.le_of_ble_eq_true rfl) (Nat.le_of_ble_eq_true rfl)
    · refine sh_Lk_lift (T := m12.T) (I := m12.I) (J := m12.J) (s := m12.s) (pc2 := 134) (lv2 := [(0, .ref 67)]) (st2 := [.int 0]) (I2 := m12.I) (J2 := m12.J) (fun hT v kk => ?_) ?_
      · refine sh_j0 (c := .ne) (off := (5)) (pc2 := 133) false rfl (sh_Znef c) rfl ?_
        refine sh_w (i := (.iconst 0)) (len := 1) (pc2 := 134) (lv2 := [(0, .ref 67)]) (st2 := [.int 0]) (h2 := (sh_rep m12.T m12.I m12.J)) rfl rfl rfl ?_
        exact kk
      obtain rfl := Option.some.inj e
      obtain ⟨rfl, rfl⟩ := tg
      exact sh_Lk_ret (i := .ireturn) rfl rfl rfl (Nat.le_of_ble_eq_true rfl) (Nat.le_of_ble_eq_true rfl)
  · refine sh_Lk_lift (T := m11.T) (I := m11.I) (J := m11.J) (s := m11.s) (pc2 := 134) (lv2 := [(0, .ref 67)]) (st2 := [.int 0]) (I2 := m11.I) (J2 := m11.J) (fun hT v kk => ?_) ?_
    · refine sh_j0 (c := .eq) (off := (10)) (pc2 := 133) true rfl (sh_Zeqt c) rfl ?_
      refine sh_w (i := (.iconst 0)) (len := 1) (pc2 := 134) (lv2 := [(0, .ref 67)]) (st2 := [.int 0]) (h2 := (sh_rep m11.T m11.I m11.J)) rfl rfl rfl ?_
      exact kk
    obtain rfl := Option.some.inj e
    obtain ⟨rfl, rfl⟩ := tg
    exact sh_Lk_ret (i := .ireturn) rfl rfl rfl (Nat.le_of_ble_eq_true rfl) (Nat.le_of_ble_eq_true rfl)
theorem sl_255_69 {m m2 : sh_X} {o : Outcome} {z : (sh_X ⊕ (Bool × sh_X))} (e : sf_255_69 m = some z) (tg : (sh_el (fun q => sh_Lk 255 43 [(0, .ref 67)] [] q o m2 2036 80736) (sh_tZ o m2)) z) : sh_Lk 255 69 [(0, .ref 67)] [] m o m2 2036 80736 := by
  unfold sf_255_69 at e
  refine sh_Lk_lift (T := m.T) (I := m.I) (J := m.J) (s := m.s) (pc2 := 84) (lv2 := [(0, .ref 67)]) (st2 := [.ref 1000009, .int (m.I 66 21), .ref 67, .int (m.I 66 36), .ref 89]) (I2 := m.I) (J2 := m.J) (fun hT v kk => ?_) ?_
  · refine sh_w (i := (.aload_n 0)) (len := 1) (pc2 := 70) (lv2 := [(0, .ref 67)]) (st2 := [.ref 67]) (h2 := (sh_rep m.T m.I m.J)) rfl rfl rfl ?_
    refine sh_gR1 (len := 3) (x := .ref 89) (pc2 := 73) rfl rfl (sh_s66 hT.st) rfl rfl ?_
    refine sh_w (i := (.aload_n 0)) (len := 1) (pc2 := 74) (lv2 := [(0, .ref 67)]) (st2 := [.ref 67, .ref 89]) (h2 := (sh_rep m.T m.I m.J)) rfl rfl rfl ?_
    refine sh_gI1 (len := 3) (x := m.I 66 36) (pc2 := 77) rfl rfl (sh_s66 hT.st) rfl rfl rfl ?_
    refine sh_w (i := (.aload_n 0)) (len := 1) (pc2 := 78) (lv2 := [(0, .ref 67)]) (st2 := [.ref 67, .int (m.I 66 36), .ref 89]) (h2 := (sh_rep m.T m.I m.J)) rfl rfl rfl ?_
    refine sh_w (i := (.aload_n 0)) (len := 1) (pc2 := 79) (lv2 := [(0, .ref 67)]) (st2 := [.ref 67, .ref 67, .int (m.I 66 36), .ref 89]) (h2 := (sh_rep m.T m.I m.J)) rfl rfl rfl ?_
    refine sh_gI1 (len := 3) (x := m.I 66 21) (pc2 := 82) rfl rfl (sh_s66 hT.st) rfl rfl rfl ?_
    refine sh_w (i := (.ldc 250)) (len := 2) (pc2 := 84) (lv2 := [(0, .ref 67)]) (st2 := [.ref 1000009, .int (m.I 66 21), .ref 67, .int (m.I 66 36), .ref 89]) (h2 := (sh_rep m.T m.I m.J)) rfl rfl rfl ?_
    exact kk
  obtain ⟨r1, e1, e⟩ := sh_bc_e e
  refine sh_Lk_cV (r := (some (.int (sh_b2 r1)))) (st2 := [.int (sh_b2 r1), .int (m.I 66 36), .ref 89]) (pc2 := 87) (k2 := 256) (a := 66) (as := [.ref 67, .int (m.I 66 21), .ref 1000009]) (rest := [.int (m.I 66 36), .ref 89]) rfl rfl rfl (fun hT => (sh_s66 hT.st)) rfl rfl ⟨Nat.le_of_ble_eq_true rfl, Nat.le_of_ble_eq_true rfl⟩ (sl_256 e1 ⟨rfl, rfl⟩) rfl rfl (Nat.le_of_ble_eq_true rfl) (Nat.le_of_ble_eq_true rfl) ?_
  rcases sh_ite e with ⟨c, e⟩ | ⟨c, e⟩
  · refine sh_Lk_lift (T := m.T) (I := m.I) (J := m.J) (s := m.s) (pc2 := 95) (lv2 := [(0, .ref 67)]) (st2 := [.int 0, .int (m.I 66 36), .ref 89]) (I2 := m.I) (J2 := m.J) (fun hT v kk => ?_) ?_
    · refine sh_j0 (c := .eq) (off := (7)) (pc2 := 90) false rfl (sh_Zeqf c) rfl ?_
      refine sh_w (i := (.iconst 0)) (len := 1) (pc2 := 91) (lv2 := [(0, .ref 67)]) (st2 := [.int 0, .int (m.I 66 36), .ref 89]) (h2 := (sh_rep m.T m.I m.J)) rfl rfl rfl ?_
      refine sh_w (i := (.goto 4)) (len := 3) (pc2 := 95) (lv2 := [(0, .ref 67)]) (st2 := [.int 0, .int (m.I 66 36), .ref 89]) (h2 := (sh_rep m.T m.I m.J)) rfl rfl rfl ?_
      exact kk
    exact sh_Lk_sub (sh_sub_c rfl (sh_sub_n)) (sl_255_95 e tg)
  · refine sh_Lk_lift (T := m.T) (I := m.I) (J := m.J) (s := m.s) (pc2 := 95) (lv2 := [(0, .ref 67)]) (st2 := [.int 1, .int (m.I 66 36), .ref 89]) (I2 := m.I) (J2 := m.J) (fun hT v kk => ?_) ?_
    · refine sh_j0 (c := .eq) (off := (7)) (pc2 := 94) true rfl (sh_Zeqt c) rfl ?_
      refine sh_w (i := (.iconst 1)) (len := 1) (pc2 := 95) (lv2 := [(0, .ref 67)]) (st2 := [.int 1, .int (m.I 66 36), .ref 89]) (h2 := (sh_rep m.T m.I m.J)) rfl rfl rfl ?_
      exact kk
    exact sh_Lk_sub (sh_sub_c rfl (sh_sub_n)) (sl_255_95 e tg)
theorem sl_255_232 {m m2 : sh_X} {o : Outcome} {z : (Bool × sh_X)} (e : sf_255_232 m = some z) (tg : (sh_tZ o m2) z) : sh_Lk 255 232 [] [] m o m2 2036 80736 := by
  unfold sf_255_232 at e
  refine sh_Lk_lift (T := m.T) (I := m.I) (J := m.J) (s := m.s) (pc2 := 237) (lv2 := []) (st2 := [.int 1]) (I2 := m.I) (J2 := m.J) (fun hT v kk => ?_) ?_
  · refine sh_w (i := (.iconst 1)) (len := 1) (pc2 := 233) (lv2 := []) (st2 := [.int 1]) (h2 := (sh_rep m.T m.I m.J)) rfl rfl rfl ?_
    refine sh_w (i := (.goto 4)) (len := 3) (pc2 := 237) (lv2 := []) (st2 := [.int 1]) (h2 := (sh_rep m.T m.I m.J)) rfl rfl rfl ?_
    exact kk
  obtain rfl := Option.some.inj e
  obtain ⟨rfl, rfl⟩ := tg
  exact sh_Lk_ret (i := .ireturn) rfl rfl rfl (Nat.le_of_ble_eq_true rfl) (Nat.le_of_ble_eq_true rfl)
theorem sl_255_43s {m m2 : sh_X} {o : Outcome} {z : (sh_X ⊕ (Bool × sh_X))} (e : sf_255_43s m = some z) (tg : (sh_el (fun q => sh_Lk 255 43 [(0, .ref 67)] [] q o m2 2036 80736) (sh_tZ o m2)) z) : sh_Lk 255 43 [(0, .ref 67)] [] m o m2 2036 80736 := by
  unfold sf_255_43s at e
  refine sh_Lk_lift (T := m.T) (I := m.I) (J := m.J) (s := m.s) (pc2 := 50) (lv2 := [(0, .ref 67)]) (st2 := [.ref 1000009, .int (m.I 66 21), .ref 67]) (I2 := m.I) (J2 := m.J) (fun hT v kk => ?_) ?_
  · refine sh_w (i := (.aload_n 0)) (len := 1) (pc2 := 44) (lv2 := [(0, .ref 67)]) (st2 := [.ref 67]) (h2 := (sh_rep m.T m.I m.J)) rfl rfl rfl ?_
    refine sh_w (i := (.aload_n 0)) (len := 1) (pc2 := 45) (lv2 := [(0, .ref 67)]) (st2 := [.ref 67, .ref 67]) (h2 := (sh_rep m.T m.I m.J)) rfl rfl rfl ?_
    refine sh_gI1 (len := 3) (x := m.I 66 21) (pc2 := 48) rfl rfl (sh_s66 hT.st) rfl rfl rfl ?_
    refine sh_w (i := (.ldc 250)) (len := 2) (pc2 := 50) (lv2 := [(0, .ref 67)]) (st2 := [.ref 1000009, .int (m.I 66 21), .ref 67]) (h2 := (sh_rep m.T m.I m.J)) rfl rfl rfl ?_
    exact kk
  obtain ⟨r1, e1, e⟩ := sh_bc_e e
  refine sh_Lk_cV (r := (some (.int (sh_b2 r1)))) (st2 := [.int (sh_b2 r1)]) (pc2 := 53) (k2 := 256) (a := 66) (as := [.ref 67, .int (m.I 66 21), .ref 1000009]) (rest := []) rfl rfl rfl (fun hT => (sh_s66 hT.st)) rfl rfl ⟨Nat.le_of_ble_eq_true rfl, Nat.le_of_ble_eq_true rfl⟩ (sl_256 e1 ⟨rfl, rfl⟩) rfl rfl (Nat.le_of_ble_eq_true rfl) (Nat.le_of_ble_eq_true rfl) ?_
  rcases sh_ite e with ⟨c, e⟩ | ⟨c, e⟩
  · refine sh_Lk_lift (T := m.T) (I := m.I) (J := m.J) (s := m.s) (pc2 := 69) (lv2 := [(0, .ref 67)]) (st2 := []) (I2 := m.I) (J2 := m.J) (fun hT v kk => ?_) ?_
    · refine sh_j0 (c := .ne) (off := (16)) (pc2 := 69) true rfl (sh_Znet c) rfl ?_
      exact kk
    exact sh_Lk_sub (sh_sub_c rfl (sh_sub_n)) (sl_255_69 e tg)
  · refine sh_Lk_lift (T := m.T) (I := m.I) (J := m.J) (s := m.s) (pc2 := 63) (lv2 := [(0, .ref 67)]) (st2 := [.ref 1000010, .int (m.I 66 21), .ref 67]) (I2 := m.I) (J2 := m.J) (fun hT v kk => ?_) ?_
    · refine sh_j0 (c := .ne) (off := (16)) (pc2 := 56) false rfl (sh_Znef c) rfl ?_
      refine sh_w (i := (.aload_n 0)) (len := 1) (pc2 := 57) (lv2 := [(0, .ref 67)]) (st2 := [.ref 67]) (h2 := (sh_rep m.T m.I m.J)) rfl rfl rfl ?_
      refine sh_w (i := (.aload_n 0)) (len := 1) (pc2 := 58) (lv2 := [(0, .ref 67)]) (st2 := [.ref 67, .ref 67]) (h2 := (sh_rep m.T m.I m.J)) rfl rfl rfl ?_
      refine sh_gI1 (len := 3) (x := m.I 66 21) (pc2 := 61) rfl rfl (sh_s66 hT.st) rfl rfl rfl ?_
      refine sh_w (i := (.ldc 252)) (len := 2) (pc2 := 63) (lv2 := [(0, .ref 67)]) (st2 := [.ref 1000010, .int (m.I 66 21), .ref 67]) (h2 := (sh_rep m.T m.I m.J)) rfl rfl rfl ?_
      exact kk
    obtain ⟨r2, e2, e⟩ := sh_bc_e e
    refine sh_Lk_cV (r := (some (.int (sh_b2 r2)))) (st2 := [.int (sh_b2 r2)]) (pc2 := 66) (k2 := 256) (a := 66) (as := [.ref 67, .int (m.I 66 21), .ref 1000010]) (rest := []) rfl rfl rfl (fun hT => (sh_s66 hT.st)) rfl rfl ⟨Nat.le_of_ble_eq_true rfl, Nat.le_of_ble_eq_true rfl⟩ (sl_256 e2 ⟨rfl, rfl⟩) rfl rfl (Nat.le_of_ble_eq_true rfl) (Nat.le_of_ble_eq_true rfl) ?_
    rcases sh_ite e with ⟨c, e⟩ | ⟨c, e⟩
    · refine sh_Lk_lift (T := m.T) (I := m.I) (J := m.J) (s := m.s) (pc2 := 69) (lv2 := [(0, .ref 67)]) (st2 := []) (I2 := m.I) (J2 := m.J) (fun hT v kk => ?_) ?_
      · refine sh_j0 (c := .eq) (off := (119)) (pc2 := 69) false rfl (sh_Zeqf c) rfl ?_
        exact kk
      exact sh_Lk_sub (sh_sub_c rfl (sh_sub_n)) (sl_255_69 e tg)
    · refine sh_Lk_lift (T := m.T) (I := m.I) (J := m.J) (s := m.s) (pc2 := 188) (lv2 := [(0, .ref 67)]) (st2 := [.int 0, .ref 67, .ref 67]) (I2 := m.I) (J2 := m.J) (fun hT v kk => ?_) ?_
      · refine sh_j0 (c := .eq) (off := (119)) (pc2 := 185) true rfl (sh_Zeqt c) rfl ?_
        refine sh_w (i := (.aload_n 0)) (len := 1) (pc2 := 186) (lv2 := [(0, .ref 67)]) (st2 := [.ref 67]) (h2 := (sh_rep m.T m.I m.J)) rfl rfl rfl ?_
        refine sh_w (i := (.aload_n 0)) (len := 1) (pc2 := 187) (lv2 := [(0, .ref 67)]) (st2 := [.ref 67, .ref 67]) (h2 := (sh_rep m.T m.I m.J)) rfl rfl rfl ?_
        refine sh_w (i := (.iconst 0)) (len := 1) (pc2 := 188) (lv2 := [(0, .ref 67)]) (st2 := [.int 0, .ref 67, .ref 67]) (h2 := (sh_rep m.T m.I m.J)) rfl rfl rfl ?_
        exact kk
      obtain ⟨r3, m13, e3, e⟩ := sh_bn_e e
      refine sh_Lk_cV (r := (some (.int r3))) (st2 := [.int r3, .ref 67]) (pc2 := 191) (k2 := 264) (a := 66) (as := [.ref 67, .int 0]) (rest := [.ref 67]) rfl rfl rfl (fun hT => (sh_s66 hT.st)) rfl rfl ⟨Nat.le_of_ble_eq_true rfl, Nat.le_of_ble_eq_true rfl⟩ ((sq_242_l sh_dp).f264 e3 ⟨rfl, rfl⟩) rfl rfl (Nat.le_of_ble_eq_true rfl) (Nat.le_of_ble_eq_true rfl) ?_
      refine sh_Lk_lift (T := m13.T) (I := m13.I) (J := m13.J) (s := m13.s) (pc2 := 200) (lv2 := [(0, .ref 67)]) (st2 := [.int (-2), .int r3]) (I2 := sh_u2 m13.I 66 37 r3) (J2 := m13.J) (fun hT v kk => ?_) ?_
      · refine sh_pI1 (x := r3) (pc2 := 194) rfl rfl (sh_s66 hT.st) rfl rfl rfl rfl ?_
        refine sh_w (i := (.aload_n 0)) (len := 1) (pc2 := 195) (lv2 := [(0, .ref 67)]) (st2 := [.ref 67]) (h2 := (sh_rep m13.T (sh_u2 m13.I 66 37 r3) m13.J)) rfl rfl rfl ?_
        refine sh_gI1 (len := 3) (x := r3) (pc2 := 198) rfl rfl (sh_s66 hT.st) rfl rfl rfl ?_
        refine sh_w (i := (.bipush (-2))) (len := 2) (pc2 := 200) (lv2 := [(0, .ref 67)]) (st2 := [.int (-2), .int r3]) (h2 := (sh_rep m13.T (sh_u2 m13.I 66 37 r3) m13.J)) rfl rfl rfl ?_
        exact kk
      rcases sh_ite e with ⟨c, e⟩ | ⟨c, e⟩
      · refine sh_Lk_lift (T := m13.T) (I := sh_u2 m13.I 66 37 r3) (J := m13.J) (s := m13.s) (pc2 := 237) (lv2 := [(0, .ref 67)]) (st2 := [.int 0]) (I2 := sh_u2 m13.I 66 37 r3) (J2 := m13.J) (fun hT v kk => ?_) ?_
        · refine sh_jc (c := .eq) (off := (36)) (pc2 := 236) true rfl (sh_Beqt c) rfl ?_
          refine sh_w (i := (.iconst 0)) (len := 1) (pc2 := 237) (lv2 := [(0, .ref 67)]) (st2 := [.int 0]) (h2 := (sh_rep m13.T (sh_u2 m13.I 66 37 r3) m13.J)) rfl rfl rfl ?_
          exact kk
        obtain rfl := Option.some.inj e
        obtain ⟨rfl, rfl⟩ := tg
        exact sh_Lk_ret (i := .ireturn) rfl rfl rfl (Nat.le_of_ble_eq_true rfl) (Nat.le_of_ble_eq_true rfl)
      · refine sh_Lk_lift (T := m13.T) (I := sh_u2 m13.I 66 37 r3) (J := m13.J) (s := m13.s) (pc2 := 211) (lv2 := [(0, .ref 67)]) (st2 := [.int (m13.I 66 21), .ref 69]) (I2 := sh_u2 m13.I 66 37 r3) (J2 := m13.J) (fun hT v kk => ?_) ?_
        · refine sh_jc (c := .eq) (off := (36)) (pc2 := 203) false rfl (sh_Beqf c) rfl ?_
          refine sh_w (i := (.aload_n 0)) (len := 1) (pc2 := 204) (lv2 := [(0, .ref 67)]) (st2 := [.ref 67]) (h2 := (sh_rep m13.T (sh_u2 m13.I 66 37 r3) m13.J)) rfl rfl rfl ?_
          refine sh_gR1 (len := 3) (x := .ref 69) (pc2 := 207) rfl rfl (sh_s66 hT.st) rfl rfl ?_
          refine sh_w (i := (.aload_n 0)) (len := 1) (pc2 := 208) (lv2 := [(0, .ref 67)]) (st2 := [.ref 67, .ref 69]) (h2 := (sh_rep m13.T (sh_u2 m13.I 66 37 r3) m13.J)) rfl rfl rfl ?_
          refine sh_gI1 (len := 3) (x := m13.I 66 21) (pc2 := 211) rfl rfl (sh_s66 hT.st) rfl rfl rfl ?_
          exact kk
        obtain ⟨c, e⟩ := sh_gd e
        refine sh_Lk_lift (T := m13.T) (I := sh_u2 m13.I 66 37 r3) (J := m13.J) (s := m13.s) (pc2 := 212) (lv2 := [(0, .ref 67)]) (st2 := [.int (m13.I 68 (Int32.toNatClampNeg (m13.I 66 21)))]) (I2 := sh_u2 m13.I 66 37 r3) (J2 := m13.J) (fun hT v kk => ?_) ?_
        · refine sh_ia1 (x := m13.I 68 (Int32.toNatClampNeg (m13.I 66 21))) (pc2 := 212) rfl (sh_s68 hT.st) (sh_okb1 c) (sh_okb2 c) rfl rfl ?_
          exact kk
        rcases sh_ite e with ⟨c, e⟩ | ⟨c, e⟩
        · refine sh_Lk_lift (T := m13.T) (I := sh_u2 m13.I 66 37 r3) (J := m13.J) (s := m13.s) (pc2 := 232) (lv2 := [(0, .ref 67)]) (st2 := []) (I2 := sh_u2 m13.I 66 37 r3) (J2 := m13.J) (fun hT v kk => ?_) ?_
          · refine sh_j0 (c := .eq) (off := (20)) (pc2 := 232) true rfl (sh_Beqt c) rfl ?_
            exact kk
          obtain ⟨_, eu, rfl⟩ := sh_up_e e
          exact sh_Lk_sub (sh_sub_n) (sl_255_232 eu tg)
        · refine sh_Lk_lift (T := m13.T) (I := sh_u2 m13.I 66 37 r3) (J := m13.J) (s := m13.s) (pc2 := 225) (lv2 := [(0, .ref 67)]) (st2 := [.int (m13.I 66 21), .ref 70, .int 2, .ref 67]) (I2 := sh_u2 m13.I 66 37 r3) (J2 := m13.J) (fun hT v kk => ?_) ?_
          · refine sh_j0 (c := .eq) (off := (20)) (pc2 := 215) false rfl (sh_Beqf c) rfl ?_
            refine sh_w (i := (.aload_n 0)) (len := 1) (pc2 := 216) (lv2 := [(0, .ref 67)]) (st2 := [.ref 67]) (h2 := (sh_rep m13.T (sh_u2 m13.I 66 37 r3) m13.J)) rfl rfl rfl ?_
            refine sh_w (i := (.iconst 2)) (len := 1) (pc2 := 217) (lv2 := [(0, .ref 67)]) (st2 := [.int 2, .ref 67]) (h2 := (sh_rep m13.T (sh_u2 m13.I 66 37 r3) m13.J)) rfl rfl rfl ?_
            refine sh_w (i := (.aload_n 0)) (len := 1) (pc2 := 218) (lv2 := [(0, .ref 67)]) (st2 := [.ref 67, .int 2, .ref 67]) (h2 := (sh_rep m13.T (sh_u2 m13.I 66 37 r3) m13.J)) rfl rfl rfl ?_
            refine sh_gR1 (len := 3) (x := .ref 70) (pc2 := 221) rfl rfl (sh_s66 hT.st) rfl rfl ?_
            refine sh_w (i := (.aload_n 0)) (len := 1) (pc2 := 222) (lv2 := [(0, .ref 67)]) (st2 := [.ref 67, .ref 70, .int 2, .ref 67]) (h2 := (sh_rep m13.T (sh_u2 m13.I 66 37 r3) m13.J)) rfl rfl rfl ?_
            refine sh_gI1 (len := 3) (x := m13.I 66 21) (pc2 := 225) rfl rfl (sh_s66 hT.st) rfl rfl rfl ?_
            exact kk
          obtain ⟨c, e⟩ := sh_gd e
          refine sh_Lk_lift (T := m13.T) (I := sh_u2 m13.I 66 37 r3) (J := m13.J) (s := m13.s) (pc2 := 226) (lv2 := [(0, .ref 67)]) (st2 := [.int (m13.I 69 (Int32.toNatClampNeg (m13.I 66 21))), .int 2, .ref 67]) (I2 := sh_u2 m13.I 66 37 r3) (J2 := m13.J) (fun hT v kk => ?_) ?_
          · refine sh_ia1 (x := m13.I 69 (Int32.toNatClampNeg (m13.I 66 21))) (pc2 := 226) rfl (sh_s69 hT.st) (sh_okb1 c) (sh_okb2 c) rfl rfl ?_
            exact kk
          obtain ⟨r4, m14, e4, e⟩ := sh_bn_e e
          refine sh_Lk_cV (r := (some (.int (sh_b2 r4)))) (st2 := [.int (sh_b2 r4)]) (pc2 := 229) (k2 := 252) (a := 66) (as := [.ref 67, .int 2, .int (m13.I 69 (Int32.toNatClampNeg (m13.I 66 21)))]) (rest := []) rfl rfl rfl (fun hT => (sh_s66 hT.st)) rfl rfl ⟨Nat.le_of_ble_eq_true rfl, Nat.le_of_ble_eq_true rfl⟩ (sl_252 e4 ⟨rfl, rfl⟩) rfl rfl (Nat.le_of_ble_eq_true rfl) (Nat.le_of_ble_eq_true rfl) ?_
          rcases sh_ite e with ⟨c, e⟩ | ⟨c, e⟩
          · refine sh_Lk_lift (T := m14.T) (I := m14.I) (J := m14.J) (s := m14.s) (pc2 := 232) (lv2 := [(0, .ref 67)]) (st2 := []) (I2 := m14.I) (J2 := m14.J) (fun hT v kk => ?_) ?_
            · refine sh_j0 (c := .eq) (off := (7)) (pc2 := 232) false rfl (sh_Zeqf c) rfl ?_
              exact kk
            obtain ⟨_, eu, rfl⟩ := sh_up_e e
            exact sh_Lk_sub (sh_sub_n) (sl_255_232 eu tg)
          · refine sh_Lk_lift (T := m14.T) (I := m14.I) (J := m14.J) (s := m14.s) (pc2 := 237) (lv2 := [(0, .ref 67)]) (st2 := [.int 0]) (I2 := m14.I) (J2 := m14.J) (fun hT v kk => ?_) ?_
            · refine sh_j0 (c := .eq) (off := (7)) (pc2 := 236) true rfl (sh_Zeqt c) rfl ?_
              refine sh_w (i := (.iconst 0)) (len := 1) (pc2 := 237) (lv2 := [(0, .ref 67)]) (st2 := [.int 0]) (h2 := (sh_rep m14.T m14.I m14.J)) rfl rfl rfl ?_
              exact kk
            obtain rfl := Option.some.inj e
            obtain ⟨rfl, rfl⟩ := tg
            exact sh_Lk_ret (i := .ireturn) rfl rfl rfl (Nat.le_of_ble_eq_true rfl) (Nat.le_of_ble_eq_true rfl)
theorem sl_255_43 {m m2 : sh_X} {o : Outcome} {z : (Bool × sh_X)} (e : sf_255_43 m = some z) (tg : (sh_tZ o m2) z) : sh_Lk 255 43 [(0, .ref 67)] [] m o m2 2036 80736 := by
  unfold sf_255_43 at e
  exact sh_while_lk (P := fun q => sh_Lk 255 43 [(0, .ref 67)] [] q o m2 2036 80736) (Q := (sh_tZ o m2)) (fun q z e tg => sl_255_43s (m := q) e tg) (s := m) e tg
theorem sl_255_20s {m m2 : sh_X} {o : Outcome} {z : (sh_X ⊕ (Bool × sh_X))} (e : sf_255_20s m = some z) (tg : (sh_el (fun q => sh_Lk 255 20 [(0, .ref 67)] [] q o m2 2036 80736) (sh_tZ o m2)) z) : sh_Lk 255 20 [(0, .ref 67)] [] m o m2 2036 80736 := by
  unfold sf_255_20s at e
  refine sh_Lk_lift (T := m.T) (I := m.I) (J := m.J) (s := m.s) (pc2 := 28) (lv2 := [(0, .ref 67)]) (st2 := [.ref 1000008, .int (m.I 66 21), .ref 67]) (I2 := m.I) (J2 := m.J) (fun hT v kk => ?_) ?_
  · refine sh_w (i := (.aload_n 0)) (len := 1) (pc2 := 21) (lv2 := [(0, .ref 67)]) (st2 := [.ref 67]) (h2 := (sh_rep m.T m.I m.J)) rfl rfl rfl ?_
    refine sh_w (i := (.aload_n 0)) (len := 1) (pc2 := 22) (lv2 := [(0, .ref 67)]) (st2 := [.ref 67, .ref 67]) (h2 := (sh_rep m.T m.I m.J)) rfl rfl rfl ?_
    refine sh_gI1 (len := 3) (x := m.I 66 21) (pc2 := 25) rfl rfl (sh_s66 hT.st) rfl rfl rfl ?_
    refine sh_w (i := (.ldc_w 258)) (len := 3) (pc2 := 28) (lv2 := [(0, .ref 67)]) (st2 := [.ref 1000008, .int (m.I 66 21), .ref 67]) (h2 := (sh_rep m.T m.I m.J)) rfl rfl rfl ?_
    exact kk
  obtain ⟨r1, e1, e⟩ := sh_bc_e e
  refine sh_Lk_cV (r := (some (.int (sh_b2 r1)))) (st2 := [.int (sh_b2 r1)]) (pc2 := 31) (k2 := 256) (a := 66) (as := [.ref 67, .int (m.I 66 21), .ref 1000008]) (rest := []) rfl rfl rfl (fun hT => (sh_s66 hT.st)) rfl rfl ⟨Nat.le_of_ble_eq_true rfl, Nat.le_of_ble_eq_true rfl⟩ (sl_256 e1 ⟨rfl, rfl⟩) rfl rfl (Nat.le_of_ble_eq_true rfl) (Nat.le_of_ble_eq_true rfl) ?_
  rcases sh_ite e with ⟨c, e⟩ | ⟨c, e⟩
  · refine sh_Lk_lift (T := m.T) (I := m.I) (J := m.J) (s := m.s) (pc2 := 35) (lv2 := [(0, .ref 67)]) (st2 := [.ref 67]) (I2 := m.I) (J2 := m.J) (fun hT v kk => ?_) ?_
    · refine sh_j0 (c := .eq) (off := (12)) (pc2 := 34) false rfl (sh_Zeqf c) rfl ?_
      refine sh_w (i := (.aload_n 0)) (len := 1) (pc2 := 35) (lv2 := [(0, .ref 67)]) (st2 := [.ref 67]) (h2 := (sh_rep m.T m.I m.J)) rfl rfl rfl ?_
      exact kk
    obtain ⟨r2, m12, e2, e⟩ := sh_bn_e e
    refine sh_Lk_cV (r := (some (.int (sh_b2 r2)))) (st2 := [.int (sh_b2 r2)]) (pc2 := 38) (k2 := 257) (a := 66) (as := [.ref 67]) (rest := []) rfl rfl rfl (fun hT => (sh_s66 hT.st)) rfl rfl ⟨Nat.le_of_ble_eq_true rfl, Nat.le_of_ble_eq_true rfl⟩ (sl_257 e2 ⟨rfl, rfl⟩) rfl rfl (Nat.le_of_ble_eq_true rfl) (Nat.le_of_ble_eq_true rfl) ?_
    rcases sh_ite e with ⟨c, e⟩ | ⟨c, e⟩
    · refine sh_Lk_lift (T := m12.T) (I := m12.I) (J := m12.J) (s := m12.s) (pc2 := 20) (lv2 := [(0, .ref 67)]) (st2 := []) (I2 := m12.I) (J2 := m12.J) (fun hT v kk => ?_) ?_
      · refine sh_j0 (c := .ne) (off := (-18)) (pc2 := 20) true rfl (sh_Znet c) rfl ?_
        exact kk
      obtain rfl := Option.some.inj e
      exact sh_Lk_sub (sh_sub_c rfl (sh_sub_n)) tg
    · refine sh_Lk_lift (T := m12.T) (I := m12.I) (J := m12.J) (s := m12.s) (pc2 := 42) (lv2 := [(0, .ref 67)]) (st2 := [.int 0]) (I2 := m12.I) (J2 := m12.J) (fun hT v kk => ?_) ?_
      · refine sh_j0 (c := .ne) (off := (-18)) (pc2 := 41) false rfl (sh_Znef c) rfl ?_
        refine sh_w (i := (.iconst 0)) (len := 1) (pc2 := 42) (lv2 := [(0, .ref 67)]) (st2 := [.int 0]) (h2 := (sh_rep m12.T m12.I m12.J)) rfl rfl rfl ?_
        exact kk
      obtain rfl := Option.some.inj e
      obtain ⟨rfl, rfl⟩ := tg
      exact sh_Lk_ret (i := .ireturn) rfl rfl rfl (Nat.le_of_ble_eq_true rfl) (Nat.le_of_ble_eq_true rfl)
  · refine sh_Lk_lift (T := m.T) (I := m.I) (J := m.J) (s := m.s) (pc2 := 43) (lv2 := [(0, .ref 67)]) (st2 := []) (I2 := m.I) (J2 := m.J) (fun hT v kk => ?_) ?_
    · refine sh_j0 (c := .eq) (off := (12)) (pc2 := 43) true rfl (sh_Zeqt c) rfl ?_
      exact kk
    obtain ⟨_, eu, rfl⟩ := sh_up_e e
    exact sh_Lk_sub (sh_sub_c rfl (sh_sub_n)) (sl_255_43 eu tg)
theorem sl_255_20 {m m2 : sh_X} {o : Outcome} {z : (Bool × sh_X)} (e : sf_255_20 m = some z) (tg : (sh_tZ o m2) z) : sh_Lk 255 20 [(0, .ref 67)] [] m o m2 2036 80736 := by
  unfold sf_255_20 at e
  exact sh_while_lk (P := fun q => sh_Lk 255 20 [(0, .ref 67)] [] q o m2 2036 80736) (Q := (sh_tZ o m2)) (fun q z e tg => sl_255_20s (m := q) e tg) (s := m) e tg
theorem sl_255 {m m2 : sh_X} {o : Outcome} {z : (Bool × sh_X)} (e : sf_255 m = some z) (tg : (sh_tZ o m2) z) : sh_Lk 255 0 [(0, .ref 67)] [] m o m2 2036 80736 := by
  unfold sf_255 at e
  refine sh_Lk_lift (T := m.T) (I := m.I) (J := m.J) (s := m.s) (pc2 := 20) (lv2 := [(0, .ref 67)]) (st2 := []) (I2 := sh_u2 (sh_u2 (sh_u2 (sh_u2 m.I 66 20 0) 66 21 0) 66 31 0) 66 36 0) (J2 := m.J) (fun hT v kk => ?_) ?_
  · refine sh_w (i := (.aload_n 0)) (len := 1) (pc2 := 1) (lv2 := [(0, .ref 67)]) (st2 := [.ref 67]) (h2 := (sh_rep m.T m.I m.J)) rfl rfl rfl ?_
    refine sh_w (i := (.iconst 0)) (len := 1) (pc2 := 2) (lv2 := [(0, .ref 67)]) (st2 := [.int 0, .ref 67]) (h2 := (sh_rep m.T m.I m.J)) rfl rfl rfl ?_
    refine sh_pI1 (x := 0) (pc2 := 5) rfl rfl (sh_s66 hT.st) rfl rfl rfl rfl ?_
    refine sh_w (i := (.aload_n 0)) (len := 1) (pc2 := 6) (lv2 := [(0, .ref 67)]) (st2 := [.ref 67]) (h2 := (sh_rep m.T (sh_u2 m.I 66 20 0) m.J)) rfl rfl rfl ?_
    refine sh_w (i := (.iconst 0)) (len := 1) (pc2 := 7) (lv2 := [(0, .ref 67)]) (st2 := [.int 0, .ref 67]) (h2 := (sh_rep m.T (sh_u2 m.I 66 20 0) m.J)) rfl rfl rfl ?_
    refine sh_pI1 (x := 0) (pc2 := 10) rfl rfl (sh_s66 hT.st) rfl rfl rfl rfl ?_
    refine sh_w (i := (.aload_n 0)) (len := 1) (pc2 := 11) (lv2 := [(0, .ref 67)]) (st2 := [.ref 67]) (h2 := (sh_rep m.T (sh_u2 (sh_u2 m.I 66 20 0) 66 21 0) m.J)) rfl rfl rfl ?_
    refine sh_w (i := (.iconst 0)) (len := 1) (pc2 := 12) (lv2 := [(0, .ref 67)]) (st2 := [.int 0, .ref 67]) (h2 := (sh_rep m.T (sh_u2 (sh_u2 m.I 66 20 0) 66 21 0) m.J)) rfl rfl rfl ?_
    refine sh_pI1 (x := 0) (pc2 := 15) rfl rfl (sh_s66 hT.st) rfl rfl rfl rfl ?_
    refine sh_w (i := (.aload_n 0)) (len := 1) (pc2 := 16) (lv2 := [(0, .ref 67)]) (st2 := [.ref 67]) (h2 := (sh_rep m.T (sh_u2 (sh_u2 (sh_u2 m.I 66 20 0) 66 21 0) 66 31 0) m.J)) rfl rfl rfl ?_
    refine sh_w (i := (.iconst 0)) (len := 1) (pc2 := 17) (lv2 := [(0, .ref 67)]) (st2 := [.int 0, .ref 67]) (h2 := (sh_rep m.T (sh_u2 (sh_u2 (sh_u2 m.I 66 20 0) 66 21 0) 66 31 0) m.J)) rfl rfl rfl ?_
    refine sh_pI1 (x := 0) (pc2 := 20) rfl rfl (sh_s66 hT.st) rfl rfl rfl rfl ?_
    exact kk
  exact sh_Lk_sub (sh_sub_c rfl (sh_sub_n)) (sl_255_20 e tg)
