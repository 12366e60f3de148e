/-! LINKS, printed by gen27.py -/
theorem sl_105 {x1 : Int32} {x2 : Int32} {x3 : Int32} {x4 : Int64} {m m2 : sh_X} {o : Outcome} {z : (Unit × sh_X)} (e : sf_105 x1 x2 x3 x4 m = some z) (tg : (sh_tV o m2) z) : sh_Lk 105 0 [(0, .ref 54), (1, .int x1), (2, .int x2), (3, .int x3), (4, .long x4)] [] m o m2 8 200 := by
  unfold sf_105 at e
  refine sh_Lk_lift (T := m.T) (I := m.I) (J := m.J) (s := m.s) (pc2 := 7) (lv2 := [(0, .ref 54), (1, .int x1), (2, .int x2), (3, .int x3), (4, .long x4)]) (st2 := [.int 1024, .int (m.I 53 4)]) (I2 := m.I) (J2 := m.J) (fun hT v kk => ?_) ?_
  · refine sh_w (i := (.aload_n 0)) (len := 1) (pc2 := 1) (lv2 := [(0, .ref 54), (1, .int x1), (2, .int x2), (3, .int x3), (4, .long x4)]) (st2 := [.ref 54]) (h2 := (sh_rep m.T m.I m.J)) rfl rfl rfl ?_
    refine sh_gI1 (len := 3) (x := m.I 53 4) (pc2 := 4) rfl rfl (sh_s53 hT.st) rfl rfl rfl ?_
    refine sh_w (i := (.sipush 1024)) (len := 3) (pc2 := 7) (lv2 := [(0, .ref 54), (1, .int x1), (2, .int x2), (3, .int x3), (4, .long x4)]) (st2 := [.int 1024, .int (m.I 53 4)]) (h2 := (sh_rep m.T m.I m.J)) rfl rfl rfl ?_
    exact kk
  rcases sh_ite e with ⟨c, e⟩ | ⟨c, e⟩
  · refine sh_Lk_lift (T := m.T) (I := m.I) (J := m.J) (s := m.s) (pc2 := 19) (lv2 := [(0, .ref 54), (1, .int x1), (2, .int x2), (3, .int x3), (4, .long x4)]) (st2 := [.int x1, .int (m.I 53 4), .ref 55]) (I2 := m.I) (J2 := m.J) (fun hT v kk => ?_) ?_
    · refine sh_jc (c := .ge) (off := (54)) (pc2 := 10) false rfl (sh_Bgef c) rfl ?_
      refine sh_w (i := (.aload_n 0)) (len := 1) (pc2 := 11) (lv2 := [(0, .ref 54), (1, .int x1), (2, .int x2), (3, .int x3), (4, .long x4)]) (st2 := [.ref 54]) (h2 := (sh_rep m.T m.I m.J)) rfl rfl rfl ?_
      refine sh_gR1 (len := 3) (x := .ref 55) (pc2 := 14) rfl rfl (sh_s53 hT.st) rfl rfl ?_
      refine sh_w (i := (.aload_n 0)) (len := 1) (pc2 := 15) (lv2 := [(0, .ref 54), (1, .int x1), (2, .int x2), (3, .int x3), (4, .long x4)]) (st2 := [.ref 54, .ref 55]) (h2 := (sh_rep m.T m.I m.J)) rfl rfl rfl ?_
      refine sh_gI1 (len := 3) (x := m.I 53 4) (pc2 := 18) rfl rfl (sh_s53 hT.st) rfl rfl rfl ?_
      refine sh_w (i := (.iload_n 1)) (len := 1) (pc2 := 19) (lv2 := [(0, .ref 54), (1, .int x1), (2, .int x2), (3, .int x3), (4, .long x4)]) (st2 := [.int x1, .int (m.I 53 4), .ref 55]) (h2 := (sh_rep m.T m.I m.J)) rfl rfl rfl ?_
      exact kk
    obtain ⟨c, e⟩ := sh_gd e
    refine sh_Lk_lift (T := m.T) (I := m.I) (J := m.J) (s := m.s) (pc2 := 29) (lv2 := [(0, .ref 54), (1, .int x1), (2, .int x2), (3, .int x3), (4, .long x4)]) (st2 := [.int x2, .int (m.I 53 4), .ref 56]) (I2 := sh_u2 m.I 54 (Int32.toNatClampNeg (m.I 53 4)) x1) (J2 := m.J) (fun hT v kk => ?_) ?_
    · refine sh_is1 (x := x1) (i := m.I 53 4) (pc2 := 20) rfl (sh_s54 hT.st) (sh_okb1 c) (sh_okb2 c) rfl ?_
      refine sh_w (i := (.aload_n 0)) (len := 1) (pc2 := 21) (lv2 := [(0, .ref 54), (1, .int x1), (2, .int x2), (3, .int x3), (4, .long x4)]) (st2 := [.ref 54]) (h2 := (sh_rep m.T (sh_u2 m.I 54 (Int32.toNatClampNeg (m.I 53 4)) x1) m.J)) rfl rfl rfl ?_
      refine sh_gR1 (len := 3) (x := .ref 56) (pc2 := 24) rfl rfl (sh_s53 hT.st) rfl rfl ?_
      refine sh_w (i := (.aload_n 0)) (len := 1) (pc2 := 25) (lv2 := [(0, .ref 54), (1, .int x1), (2, .int x2), (3, .int x3), (4, .long x4)]) (st2 := [.ref 54, .ref 56]) (h2 := (sh_rep m.T (sh_u2 m.I 54 (Int32.toNatClampNeg (m.I 53 4)) x1) m.J)) rfl rfl rfl ?_
      refine sh_gI1 (len := 3) (x := m.I 53 4) (pc2 := 28) rfl rfl (sh_s53 hT.st) rfl rfl rfl ?_
      refine sh_w (i := (.iload_n 2)) (len := 1) (pc2 := 29) (lv2 := [(0, .ref 54), (1, .int x1), (2, .int x2), (3, .int x3), (4, .long x4)]) (st2 := [.int x2, .int (m.I 53 4), .ref 56]) (h2 := (sh_rep m.T (sh_u2 m.I 54 (Int32.toNatClampNeg (m.I 53 4)) x1) m.J)) rfl rfl rfl ?_
      exact kk
    obtain ⟨c, e⟩ := sh_gd e
    refine sh_Lk_lift (T := m.T) (I := sh_u2 m.I 54 (Int32.toNatClampNeg (m.I 53 4)) x1) (J := m.J) (s := m.s) (pc2 := 39) (lv2 := [(0, .ref 54), (1, .int x1), (2, .int x2), (3, .int x3), (4, .long x4)]) (st2 := [.int x3, .int (m.I 53 4), .ref 57]) (I2 := sh_u2 (sh_u2 m.I 54 (Int32.toNatClampNeg (m.I 53 4)) x1) 55 (Int32.toNatClampNeg (m.I 53 4)) x2) (J2 := m.J) (fun hT v kk => ?_) ?_
    · refine sh_is1 (x := x2) (i := m.I 53 4) (pc2 := 30) rfl (sh_s55 hT.st) (sh_okb1 c) (sh_okb2 c) rfl ?_
      refine sh_w (i := (.aload_n 0)) (len := 1) (pc2 := 31) (lv2 := [(0, .ref 54), (1, .int x1), (2, .int x2), (3, .int x3), (4, .long x4)]) (st2 := [.ref 54]) (h2 := (sh_rep m.T (sh_u2 (sh_u2 m.I 54 (Int32.toNatClampNeg (m.I 53 4)) x1) 55 (Int32.toNatClampNeg (m.I 53 4)) x2) m.J)) rfl rfl rfl ?_
      refine sh_gR1 (len := 3) (x := .ref 57) (pc2 := 34) rfl rfl (sh_s53 hT.st) rfl rfl ?_
      refine sh_w (i := (.aload_n 0)) (len := 1) (pc2 := 35) (lv2 := [(0, .ref 54), (1, .int x1), (2, .int x2), (3, .int x3), (4, .long x4)]) (st2 := [.ref 54, .ref 57]) (h2 := (sh_rep m.T (sh_u2 (sh_u2 m.I 54 (Int32.toNatClampNeg (m.I 53 4)) x1) 55 (Int32.toNatClampNeg (m.I 53 4)) x2) m.J)) rfl rfl rfl ?_
      refine sh_gI1 (len := 3) (x := m.I 53 4) (pc2 := 38) rfl rfl (sh_s53 hT.st) rfl rfl rfl ?_
      refine sh_w (i := (.iload_n 3)) (len := 1) (pc2 := 39) (lv2 := [(0, .ref 54), (1, .int x1), (2, .int x2), (3, .int x3), (4, .long x4)]) (st2 := [.int x3, .int (m.I 53 4), .ref 57]) (h2 := (sh_rep m.T (sh_u2 (sh_u2 m.I 54 (Int32.toNatClampNeg (m.I 53 4)) x1) 55 (Int32.toNatClampNeg (m.I 53 4)) x2) m.J)) rfl rfl rfl ?_
      exact kk
    obtain ⟨c, e⟩ := sh_gd e
    refine sh_Lk_lift (T := m.T) (I := sh_u2 (sh_u2 m.I 54 (Int32.toNatClampNeg (m.I 53 4)) x1) 55 (Int32.toNatClampNeg (m.I 53 4)) x2) (J := m.J) (s := m.s) (pc2 := 50) (lv2 := [(0, .ref 54), (1, .int x1), (2, .int x2), (3, .int x3), (4, .long x4)]) (st2 := [.long x4, .int (m.I 53 4), .ref 58]) (I2 := sh_u2 (sh_u2 (sh_u2 m.I 54 (Int32.toNatClampNeg (m.I 53 4)) x1) 55 (Int32.toNatClampNeg (m.I 53 4)) x2) 56 (Int32.toNatClampNeg (m.I 53 4)) x3) (J2 := m.J) (fun hT v kk => ?_) ?_
    · refine sh_is1 (x := x3) (i := m.I 53 4) (pc2 := 40) rfl (sh_s56 hT.st) (sh_okb1 c) (sh_okb2 c) rfl ?_
      refine sh_w (i := (.aload_n 0)) (len := 1) (pc2 := 41) (lv2 := [(0, .ref 54), (1, .int x1), (2, .int x2), (3, .int x3), (4, .long x4)]) (st2 := [.ref 54]) (h2 := (sh_rep m.T (sh_u2 (sh_u2 (sh_u2 m.I 54 (Int32.toNatClampNeg (m.I 53 4)) x1) 55 (Int32.toNatClampNeg (m.I 53 4)) x2) 56 (Int32.toNatClampNeg (m.I 53 4)) x3) m.J)) rfl rfl rfl ?_
      refine sh_gR1 (len := 3) (x := .ref 58) (pc2 := 44) rfl rfl (sh_s53 hT.st) rfl rfl ?_
      refine sh_w (i := (.aload_n 0)) (len := 1) (pc2 := 45) (lv2 := [(0, .ref 54), (1, .int x1), (2, .int x2), (3, .int x3), (4, .long x4)]) (st2 := [.ref 54, .ref 58]) (h2 := (sh_rep m.T (sh_u2 (sh_u2 (sh_u2 m.I 54 (Int32.toNatClampNeg (m.I 53 4)) x1) 55 (Int32.toNatClampNeg (m.I 53 4)) x2) 56 (Int32.toNatClampNeg (m.I 53 4)) x3) m.J)) rfl rfl rfl ?_
      refine sh_gI1 (len := 3) (x := m.I 53 4) (pc2 := 48) rfl rfl (sh_s53 hT.st) rfl rfl rfl ?_
      refine sh_w (i := (.lload 4)) (len := 2) (pc2 := 50) (lv2 := [(0, .ref 54), (1, .int x1), (2, .int x2), (3, .int x3), (4, .long x4)]) (st2 := [.long x4, .int (m.I 53 4), .ref 58]) (h2 := (sh_rep m.T (sh_u2 (sh_u2 (sh_u2 m.I 54 (Int32.toNatClampNeg (m.I 53 4)) x1) 55 (Int32.toNatClampNeg (m.I 53 4)) x2) 56 (Int32.toNatClampNeg (m.I 53 4)) x3) m.J)) rfl rfl rfl ?_
      exact kk
    obtain ⟨c, e⟩ := sh_gd e
    refine sh_Lk_lift (T := m.T) (I := sh_u2 (sh_u2 (sh_u2 m.I 54 (Int32.toNatClampNeg (m.I 53 4)) x1) 55 (Int32.toNatClampNeg (m.I 53 4)) x2) 56 (Int32.toNatClampNeg (m.I 53 4)) x3) (J := m.J) (s := m.s) (pc2 := 61) (lv2 := [(0, .ref 54), (1, .int x1), (2, .int x2), (3, .int x3), (4, .long x4)]) (st2 := []) (I2 := sh_u2 (sh_u2 (sh_u2 (sh_u2 m.I 54 (Int32.toNatClampNeg (m.I 53 4)) x1) 55 (Int32.toNatClampNeg (m.I 53 4)) x2) 56 (Int32.toNatClampNeg (m.I 53 4)) x3) 53 4 ((m.I 53 4) + 1)) (J2 := sh_u2 m.J 57 (Int32.toNatClampNeg (m.I 53 4)) x4) (fun hT v kk => ?_) ?_
    · refine sh_ls1 (x := x4) (i := m.I 53 4) (pc2 := 51) rfl (sh_s57 hT.st) (sh_okb1 c) (sh_okb2 c) rfl ?_
      refine sh_w (i := (.aload_n 0)) (len := 1) (pc2 := 52) (lv2 := [(0, .ref 54), (1, .int x1), (2, .int x2), (3, .int x3), (4, .long x4)]) (st2 := [.ref 54]) (h2 := (sh_rep m.T (sh_u2 (sh_u2 (sh_u2 m.I 54 (Int32.toNatClampNeg (m.I 53 4)) x1) 55 (Int32.toNatClampNeg (m.I 53 4)) x2) 56 (Int32.toNatClampNeg (m.I 53 4)) x3) (sh_u2 m.J 57 (Int32.toNatClampNeg (m.I 53 4)) x4))) rfl rfl rfl ?_
      refine sh_w (i := .dup) (len := 1) (pc2 := 53) (lv2 := [(0, .ref 54), (1, .int x1), (2, .int x2), (3, .int x3), (4, .long x4)]) (st2 := [.ref 54, .ref 54]) (h2 := (sh_rep m.T (sh_u2 (sh_u2 (sh_u2 m.I 54 (Int32.toNatClampNeg (m.I 53 4)) x1) 55 (Int32.toNatClampNeg (m.I 53 4)) x2) 56 (Int32.toNatClampNeg (m.I 53 4)) x3) (sh_u2 m.J 57 (Int32.toNatClampNeg (m.I 53 4)) x4))) rfl rfl rfl ?_
      refine sh_gI1 (len := 3) (x := m.I 53 4) (pc2 := 56) rfl rfl (sh_s53 hT.st) rfl rfl rfl ?_
      refine sh_w (i := (.iconst 1)) (len := 1) (pc2 := 57) (lv2 := [(0, .ref 54), (1, .int x1), (2, .int x2), (3, .int x3), (4, .long x4)]) (st2 := [.int 1, .int (m.I 53 4), .ref 54]) (h2 := (sh_rep m.T (sh_u2 (sh_u2 (sh_u2 m.I 54 (Int32.toNatClampNeg (m.I 53 4)) x1) 55 (Int32.toNatClampNeg (m.I 53 4)) x2) 56 (Int32.toNatClampNeg (m.I 53 4)) x3) (sh_u2 m.J 57 (Int32.toNatClampNeg (m.I 53 4)) x4))) rfl rfl rfl ?_
      refine sh_w (i := .iadd) (len := 1) (pc2 := 58) (lv2 := [(0, .ref 54), (1, .int x1), (2, .int x2), (3, .int x3), (4, .long x4)]) (st2 := [.int ((m.I 53 4) + 1), .ref 54]) (h2 := (sh_rep m.T (sh_u2 (sh_u2 (sh_u2 m.I 54 (Int32.toNatClampNeg (m.I 53 4)) x1) 55 (Int32.toNatClampNeg (m.I 53 4)) x2) 56 (Int32.toNatClampNeg (m.I 53 4)) x3) (sh_u2 m.J 57 (Int32.toNatClampNeg (m.I 53 4)) x4))) rfl rfl rfl ?_
      refine sh_pI1 (x := (m.I 53 4) + 1) (pc2 := 61) rfl rfl (sh_s53 hT.st) rfl rfl rfl rfl ?_
      exact kk
    obtain rfl := Option.some.inj e
    obtain ⟨rfl, rfl⟩ := tg
    exact sh_Lk_ret (i := .return_) rfl rfl rfl (Nat.le_of_ble_eq_true rfl) (Nat.le_of_ble_eq_true rfl)
  · refine sh_Lk_lift (T := m.T) (I := m.I) (J := m.J) (s := m.s) (pc2 := 61) (lv2 := [(0, .ref 54), (1, .int x1), (2, .int x2), (3, .int x3), (4, .long x4)]) (st2 := []) (I2 := m.I) (J2 := m.J) (fun hT v kk => ?_) ?_
    · refine sh_jc (c := .ge) (off := (54)) (pc2 := 61) true rfl (sh_Bget c) rfl ?_
      exact kk
    obtain rfl := Option.some.inj e
    obtain ⟨rfl, rfl⟩ := tg
    exact sh_Lk_ret (i := .return_) rfl rfl rfl (Nat.le_of_ble_eq_true rfl) (Nat.le_of_ble_eq_true rfl)
theorem sl_91_95 {x1 : Int32} {x2 : Nat} {x3 : Int32} {m m2 : sh_X} {o : Outcome} {z : (Option Unit × sh_X)} (hx2 : sh_isE x2) (e : sf_91_95 x1 x2 x3 m = some z) (tg : (sh_tVt o m2) z) : sh_Lk 91 95 [(0, .ref 42), (1, .int x1), (2, .ref (x2 + 1)), (3, .int x3)] [] m o m2 13 309 := by
  unfold sf_91_95 at e
  rcases hx2 with rfl | rfl | rfl
  · refine sh_Lk_lift (T := m.T) (I := m.I) (J := m.J) (s := m.s) (pc2 := 100) (lv2 := [(0, .ref 42), (1, .int x1), (2, .ref 14), (3, .int x3)]) (st2 := [.int x3, .ref 45]) (I2 := m.I) (J2 := m.J) (fun hT v kk => ?_) ?_
    · refine sh_w (i := (.aload_n 0)) (len := 1) (pc2 := 96) (lv2 := [(0, .ref 42), (1, .int x1), (2, .ref 14), (3, .int x3)]) (st2 := [.ref 42]) (h2 := (sh_rep m.T m.I m.J)) rfl rfl rfl ?_
      refine sh_gR1 (len := 3) (x := .ref 45) (pc2 := 99) rfl rfl (sh_s41 hT.st) rfl rfl ?_
      refine sh_w (i := (.iload_n 3)) (len := 1) (pc2 := 100) (lv2 := [(0, .ref 42), (1, .int x1), (2, .ref 14), (3, .int x3)]) (st2 := [.int x3, .ref 45]) (h2 := (sh_rep m.T m.I m.J)) rfl rfl rfl ?_
      exact kk
    refine sh_Lk_cS (r := (some (.int (sf_96 x3)))) (st2 := [.int (sf_96 x3), .ref 45]) (pc2 := 103) (k2 := 96) (as := [.int x3]) (rest := [.ref 45]) rfl rfl (by decide) (Nat.le_of_ble_eq_true rfl) rfl rfl ⟨Nat.le_of_ble_eq_true rfl, Nat.le_of_ble_eq_true rfl⟩ (sl_96 (m := m) rfl ⟨rfl, rfl⟩) rfl rfl (Nat.le_of_ble_eq_true rfl) (Nat.le_of_ble_eq_true rfl) ?_
    obtain ⟨r2, m12, e2, e⟩ := sh_bn_e e
    refine sh_Lk_cV (r := (some (.int r2))) (st2 := [.int r2]) (pc2 := 106) (k2 := 97) (a := 44) (as := [.ref 45, .int (sf_96 x3)]) (rest := []) rfl rfl rfl (fun hT => (sh_s44 hT.st)) rfl rfl ⟨Nat.le_of_ble_eq_true rfl, Nat.le_of_ble_eq_true rfl⟩ (sl_97 e2 ⟨rfl, rfl⟩) rfl rfl (Nat.le_of_ble_eq_true rfl) (Nat.le_of_ble_eq_true rfl) ?_
    refine sh_Lk_lift (T := m12.T) (I := m12.I) (J := m12.J) (s := m12.s) (pc2 := 113) (lv2 := [(4, .int r2), (0, .ref 42), (1, .int x1), (2, .ref 14), (3, .int x3)]) (st2 := [.int r2, .int x3, .ref 14, .ref 42]) (I2 := m12.I) (J2 := m12.J) (fun hT v kk => ?_) ?_
    · refine sh_w (i := (.istore 4)) (len := 2) (pc2 := 108) (lv2 := [(4, .int r2), (0, .ref 42), (1, .int x1), (2, .ref 14), (3, .int x3)]) (st2 := []) (h2 := (sh_rep m12.T m12.I m12.J)) rfl rfl rfl ?_
      refine sh_w (i := (.aload_n 0)) (len := 1) (pc2 := 109) (lv2 := [(4, .int r2), (0, .ref 42), (1, .int x1), (2, .ref 14), (3, .int x3)]) (st2 := [.ref 42]) (h2 := (sh_rep m12.T m12.I m12.J)) rfl rfl rfl ?_
      refine sh_w (i := (.aload_n 2)) (len := 1) (pc2 := 110) (lv2 := [(4, .int r2), (0, .ref 42), (1, .int x1), (2, .ref 14), (3, .int x3)]) (st2 := [.ref 14, .ref 42]) (h2 := (sh_rep m12.T m12.I m12.J)) rfl rfl rfl ?_
      refine sh_w (i := (.iload_n 3)) (len := 1) (pc2 := 111) (lv2 := [(4, .int r2), (0, .ref 42), (1, .int x1), (2, .ref 14), (3, .int x3)]) (st2 := [.int x3, .ref 14, .ref 42]) (h2 := (sh_rep m12.T m12.I m12.J)) rfl rfl rfl ?_
      refine sh_w (i := (.iload 4)) (len := 2) (pc2 := 113) (lv2 := [(4, .int r2), (0, .ref 42), (1, .int x1), (2, .ref 14), (3, .int x3)]) (st2 := [.int r2, .int x3, .ref 14, .ref 42]) (h2 := (sh_rep m12.T m12.I m12.J)) rfl rfl rfl ?_
      exact kk
    obtain ⟨r3, m13, e3, e⟩ := sh_bn_e e
    refine sh_Lk_cV (r := none) (st2 := []) (pc2 := 116) (k2 := 101) (a := 41) (as := [.ref 42, .ref 14, .int x3, .int r2]) (rest := []) rfl rfl rfl (fun hT => (sh_s41 hT.st)) rfl rfl ⟨Nat.le_of_ble_eq_true rfl, Nat.le_of_ble_eq_true rfl⟩ (sl_101 (by decide) e3 ⟨rfl, rfl⟩) rfl rfl (Nat.le_of_ble_eq_true rfl) (Nat.le_of_ble_eq_true rfl) ?_
    refine sh_Lk_lift (T := m13.T) (I := m13.I) (J := m13.J) (s := m13.s) (pc2 := 127) (lv2 := [(4, .int r2), (0, .ref 42), (1, .int x1), (2, .ref 14), (3, .int x3)]) (st2 := [.int (x1 + 1), .ref 3, .ref 54]) (I2 := m13.I) (J2 := m13.J) (fun hT v kk => ?_) ?_
    · refine sh_w (i := (.aload_n 0)) (len := 1) (pc2 := 117) (lv2 := [(4, .int r2), (0, .ref 42), (1, .int x1), (2, .ref 14), (3, .int x3)]) (st2 := [.ref 42]) (h2 := (sh_rep m13.T m13.I m13.J)) rfl rfl rfl ?_
      refine sh_gR1 (len := 3) (x := .ref 54) (pc2 := 120) rfl rfl (sh_s41 hT.st) rfl rfl ?_
      refine sh_w (i := (.aload_n 0)) (len := 1) (pc2 := 121) (lv2 := [(4, .int r2), (0, .ref 42), (1, .int x1), (2, .ref 14), (3, .int x3)]) (st2 := [.ref 42, .ref 54]) (h2 := (sh_rep m13.T m13.I m13.J)) rfl rfl rfl ?_
      refine sh_gR1 (len := 3) (x := .ref 3) (pc2 := 124) rfl rfl (sh_s41 hT.st) rfl rfl ?_
      refine sh_w (i := (.iload_n 1)) (len := 1) (pc2 := 125) (lv2 := [(4, .int r2), (0, .ref 42), (1, .int x1), (2, .ref 14), (3, .int x3)]) (st2 := [.int x1, .ref 3, .ref 54]) (h2 := (sh_rep m13.T m13.I m13.J)) rfl rfl rfl ?_
      refine sh_w (i := (.iconst 1)) (len := 1) (pc2 := 126) (lv2 := [(4, .int r2), (0, .ref 42), (1, .int x1), (2, .ref 14), (3, .int x3)]) (st2 := [.int 1, .int x1, .ref 3, .ref 54]) (h2 := (sh_rep m13.T m13.I m13.J)) rfl rfl rfl ?_
      refine sh_w (i := .iadd) (len := 1) (pc2 := 127) (lv2 := [(4, .int r2), (0, .ref 42), (1, .int x1), (2, .ref 14), (3, .int x3)]) (st2 := [.int (x1 + 1), .ref 3, .ref 54]) (h2 := (sh_rep m13.T m13.I m13.J)) rfl rfl rfl ?_
      exact kk
    obtain ⟨r4, e4, e⟩ := sh_bc_e e
    refine sh_Lk_cV (r := (some (.int r4))) (st2 := [.int r4, .ref 54]) (pc2 := 130) (k2 := 83) (a := 2) (as := [.ref 3, .int (x1 + 1)]) (rest := [.ref 54]) rfl rfl rfl (fun hT => hT.t2) rfl rfl ⟨Nat.le_of_ble_eq_true rfl, Nat.le_of_ble_eq_true rfl⟩ (sl_83 e4 ⟨rfl, rfl⟩) rfl rfl (Nat.le_of_ble_eq_true rfl) (Nat.le_of_ble_eq_true rfl) ?_
    refine sh_Lk_lift (T := m13.T) (I := m13.I) (J := m13.J) (s := m13.s) (pc2 := 134) (lv2 := [(4, .int r2), (0, .ref 42), (1, .int x1), (2, .ref 14), (3, .int x3)]) (st2 := [.long 0, .int r2, .int x3, .int r4, .ref 54]) (I2 := m13.I) (J2 := m13.J) (fun hT v kk => ?_) ?_
    · refine sh_w (i := (.iload_n 3)) (len := 1) (pc2 := 131) (lv2 := [(4, .int r2), (0, .ref 42), (1, .int x1), (2, .ref 14), (3, .int x3)]) (st2 := [.int x3, .int r4, .ref 54]) (h2 := (sh_rep m13.T m13.I m13.J)) rfl rfl rfl ?_
      refine sh_w (i := (.iload 4)) (len := 2) (pc2 := 133) (lv2 := [(4, .int r2), (0, .ref 42), (1, .int x1), (2, .ref 14), (3, .int x3)]) (st2 := [.int r2, .int x3, .int r4, .ref 54]) (h2 := (sh_rep m13.T m13.I m13.J)) rfl rfl rfl ?_
      refine sh_w (i := (.lconst 0)) (len := 1) (pc2 := 134) (lv2 := [(4, .int r2), (0, .ref 42), (1, .int x1), (2, .ref 14), (3, .int x3)]) (st2 := [.long 0, .int r2, .int x3, .int r4, .ref 54]) (h2 := (sh_rep m13.T m13.I m13.J)) rfl rfl rfl ?_
      exact kk
    obtain ⟨r5, m15, e5, e⟩ := sh_bn_e e
    refine sh_Lk_cV (r := none) (st2 := []) (pc2 := 137) (k2 := 105) (a := 53) (as := [.ref 54, .int r4, .int x3, .int r2, .long 0]) (rest := []) rfl rfl rfl (fun hT => (sh_s53 hT.st)) rfl rfl ⟨Nat.le_of_ble_eq_true rfl, Nat.le_of_ble_eq_true rfl⟩ (sl_105 e5 ⟨rfl, rfl⟩) rfl rfl (Nat.le_of_ble_eq_true rfl) (Nat.le_of_ble_eq_true rfl) ?_
    obtain rfl := Option.some.inj e
    obtain ⟨rfl, rfl⟩ := tg
    exact sh_Lk_ret (i := .return_) rfl rfl rfl (Nat.le_of_ble_eq_true rfl) (Nat.le_of_ble_eq_true rfl)
  · refine sh_Lk_lift (T := m.T) (I := m.I) (J := m.J) (s := m.s) (pc2 := 100) (lv2 := [(0, .ref 42), (1, .int x1), (2, .ref 19), (3, .int x3)]) (st2 := [.int x3, .ref 45]) (I2 := m.I) (J2 := m.J) (fun hT v kk => ?_) ?_
    · refine sh_w (i := (.aload_n 0)) (len := 1) (pc2 := 96) (lv2 := [(0, .ref 42), (1, .int x1), (2, .ref 19), (3, .int x3)]) (st2 := [.ref 42]) (h2 := (sh_rep m.T m.I m.J)) rfl rfl rfl ?_
      refine sh_gR1 (len := 3) (x := .ref 45) (pc2 := 99) rfl rfl (sh_s41 hT.st) rfl rfl ?_
      refine sh_w (i := (.iload_n 3)) (len := 1) (pc2 := 100) (lv2 := [(0, .ref 42), (1, .int x1), (2, .ref 19), (3, .int x3)]) (st2 := [.int x3, .ref 45]) (h2 := (sh_rep m.T m.I m.J)) rfl rfl rfl ?_
      exact kk
    refine sh_Lk_cS (r := (some (.int (sf_96 x3)))) (st2 := [.int (sf_96 x3), .ref 45]) (pc2 := 103) (k2 := 96) (as := [.int x3]) (rest := [.ref 45]) rfl rfl (by decide) (Nat.le_of_ble_eq_true rfl) rfl rfl ⟨Nat.le_of_ble_eq_true rfl, Nat.le_of_ble_eq_true rfl⟩ (sl_96 (m := m) rfl ⟨rfl, rfl⟩) rfl rfl (Nat.le_of_ble_eq_true rfl) (Nat.le_of_ble_eq_true rfl) ?_
    obtain ⟨r2, m12, e2, e⟩ := sh_bn_e e
    refine sh_Lk_cV (r := (some (.int r2))) (st2 := [.int r2]) (pc2 := 106) (k2 := 97) (a := 44) (as := [.ref 45, .int (sf_96 x3)]) (rest := []) rfl rfl rfl (fun hT => (sh_s44 hT.st)) rfl rfl ⟨Nat.le_of_ble_eq_true rfl, Nat.le_of_ble_eq_true rfl⟩ (sl_97 e2 ⟨rfl, rfl⟩) rfl rfl (Nat.le_of_ble_eq_true rfl) (Nat.le_of_ble_eq_true rfl) ?_
    refine sh_Lk_lift (T := m12.T) (I := m12.I) (J := m12.J) (s := m12.s) (pc2 := 113) (lv2 := [(4, .int r2), (0, .ref 42), (1, .int x1), (2, .ref 19), (3, .int x3)]) (st2 := [.int r2, .int x3, .ref 19, .ref 42]) (I2 := m12.I) (J2 := m12.J) (fun hT v kk => ?_) ?_
    · refine sh_w (i := (.istore 4)) (len := 2) (pc2 := 108) (lv2 := [(4, .int r2), (0, .ref 42), (1, .int x1), (2, .ref 19), (3, .int x3)]) (st2 := []) (h2 := (sh_rep m12.T m12.I m12.J)) rfl rfl rfl ?_
      refine sh_w (i := (.aload_n 0)) (len := 1) (pc2 := 109) (lv2 := [(4, .int r2), (0, .ref 42), (1, .int x1), (2, .ref 19), (3, .int x3)]) (st2 := [.ref 42]) (h2 := (sh_rep m12.T m12.I m12.J)) rfl rfl rfl ?_
      refine sh_w (i := (.aload_n 2)) (len := 1) (pc2 := 110) (lv2 := [(4, .int r2), (0, .ref 42), (1, .int x1), (2, .ref 19), (3, .int x3)]) (st2 := [.ref 19, .ref 42]) (h2 := (sh_rep m12.T m12.I m12.J)) rfl rfl rfl ?_
      refine sh_w (i := (.iload_n 3)) (len := 1) (pc2 := 111) (lv2 := [(4, .int r2), (0, .ref 42), (1, .int x1), (2, .ref 19), (3, .int x3)]) (st2 := [.int x3, .ref 19, .ref 42]) (h2 := (sh_rep m12.T m12.I m12.J)) rfl rfl rfl ?_
      refine sh_w (i := (.iload 4)) (len := 2) (pc2 := 113) (lv2 := [(4, .int r2), (0, .ref 42), (1, .int x1), (2, .ref 19), (3, .int x3)]) (st2 := [.int r2, .int x3, .ref 19, .ref 42]) (h2 := (sh_rep m12.T m12.I m12.J)) rfl rfl rfl ?_
      exact kk
    obtain ⟨r3, m13, e3, e⟩ := sh_bn_e e
    refine sh_Lk_cV (r := none) (st2 := []) (pc2 := 116) (k2 := 101) (a := 41) (as := [.ref 42, .ref 19, .int x3, .int r2]) (rest := []) rfl rfl rfl (fun hT => (sh_s41 hT.st)) rfl rfl ⟨Nat.le_of_ble_eq_true rfl, Nat.le_of_ble_eq_true rfl⟩ (sl_101 (by decide) e3 ⟨rfl, rfl⟩) rfl rfl (Nat.le_of_ble_eq_true rfl) (Nat.le_of_ble_eq_true rfl) ?_
    refine sh_Lk_lift (T := m13.T) (I := m13.I) (J := m13.J) (s := m13.s) (pc2 := 127) (lv2 := [(4, .int r2), (0, .ref 42), (1, .int x1), (2, .ref 19), (3, .int x3)]) (st2 := [.int (x1 + 1), .ref 3, .ref 54]) (I2 := m13.I) (J2 := m13.J) (fun hT v kk => ?_) ?_
    · refine sh_w (i := (.aload_n 0)) (len := 1) (pc2 := 117) (lv2 := [(4, .int r2), (0, .ref 42), (1, .int x1), (2, .ref 19), (3, .int x3)]) (st2 := [.ref 42]) (h2 := (sh_rep m13.T m13.I m13.J)) rfl rfl rfl ?_
      refine sh_gR1 (len := 3) (x := .ref 54) (pc2 := 120) rfl rfl (sh_s41 hT.st) rfl rfl ?_
      refine sh_w (i := (.aload_n 0)) (len := 1) (pc2 := 121) (lv2 := [(4, .int r2), (0, .ref 42), (1, .int x1), (2, .ref 19), (3, .int x3)]) (st2 := [.ref 42, .ref 54]) (h2 := (sh_rep m13.T m13.I m13.J)) rfl rfl rfl ?_
      refine sh_gR1 (len := 3) (x := .ref 3) (pc2 := 124) rfl rfl (sh_s41 hT.st) rfl rfl ?_
      refine sh_w (i := (.iload_n 1)) (len := 1) (pc2 := 125) (lv2 := [(4, .int r2), (0, .ref 42), (1, .int x1), (2, .ref 19), (3, .int x3)]) (st2 := [.int x1, .ref 3, .ref 54]) (h2 := (sh_rep m13.T m13.I m13.J)) rfl rfl rfl ?_
      refine sh_w (i := (.iconst 1)) (len := 1) (pc2 := 126) (lv2 := [(4, .int r2), (0, .ref 42), (1, .int x1), (2, .ref 19), (3, .int x3)]) (st2 := [.int 1, .int x1, .ref 3, .ref 54]) (h2 := (sh_rep m13.T m13.I m13.J)) rfl rfl rfl ?_
      refine sh_w (i := .iadd) (len := 1) (pc2 := 127) (lv2 := [(4, .int r2), (0, .ref 42), (1, .int x1), (2, .ref 19), (3, .int x3)]) (st2 := [.int (x1 + 1), .ref 3, .ref 54]) (h2 := (sh_rep m13.T m13.I m13.J)) rfl rfl rfl ?_
      exact kk
    obtain ⟨r4, e4, e⟩ := sh_bc_e e
    refine sh_Lk_cV (r := (some (.int r4))) (st2 := [.int r4, .ref 54]) (pc2 := 130) (k2 := 83) (a := 2) (as := [.ref 3, .int (x1 + 1)]) (rest := [.ref 54]) rfl rfl rfl (fun hT => hT.t2) rfl rfl ⟨Nat.le_of_ble_eq_true rfl, Nat.le_of_ble_eq_true rfl⟩ (sl_83 e4 ⟨rfl, rfl⟩) rfl rfl (Nat.le_of_ble_eq_true rfl) (Nat.le_of_ble_eq_true rfl) ?_
    refine sh_Lk_lift (T := m13.T) (I := m13.I) (J := m13.J) (s := m13.s) (pc2 := 134) (lv2 := [(4, .int r2), (0, .ref 42), (1, .int x1), (2, .ref 19), (3, .int x3)]) (st2 := [.long 0, .int r2, .int x3, .int r4, .ref 54]) (I2 := m13.I) (J2 := m13.J) (fun hT v kk => ?_) ?_
    · refine sh_w (i := (.iload_n 3)) (len := 1) (pc2 := 131) (lv2 := [(4, .int r2), (0, .ref 42), (1, .int x1), (2, .ref 19), (3, .int x3)]) (st2 := [.int x3, .int r4, .ref 54]) (h2 := (sh_rep m13.T m13.I m13.J)) rfl rfl rfl ?_
      refine sh_w (i := (.iload 4)) (len := 2) (pc2 := 133) (lv2 := [(4, .int r2), (0, .ref 42), (1, .int x1), (2, .ref 19), (3, .int x3)]) (st2 := [.int r2, .int x3, .int r4, .ref 54]) (h2 := (sh_rep m13.T m13.I m13.J)) rfl rfl rfl ?_
      refine sh_w (i := (.lconst 0)) (len := 1) (pc2 := 134) (lv2 := [(4, .int r2), (0, .ref 42), (1, .int x1), (2, .ref 19), (3, .int x3)]) (st2 := [.long 0, .int r2, .int x3, .int r4, .ref 54]) (h2 := (sh_rep m13.T m13.I m13.J)) rfl rfl rfl ?_
      exact kk
    obtain ⟨r5, m15, e5, e⟩ := sh_bn_e e
    refine sh_Lk_cV (r := none) (st2 := []) (pc2 := 137) (k2 := 105) (a := 53) (as := [.ref 54, .int r4, .int x3, .int r2, .long 0]) (rest := []) rfl rfl rfl (fun hT => (sh_s53 hT.st)) rfl rfl ⟨Nat.le_of_ble_eq_true rfl, Nat.le_of_ble_eq_true rfl⟩ (sl_105 e5 ⟨rfl, rfl⟩) rfl rfl (Nat.le_of_ble_eq_true rfl) (Nat.le_of_ble_eq_true rfl) ?_
    obtain rfl := Option.some.inj e
    obtain ⟨rfl, rfl⟩ := tg
    exact sh_Lk_ret (i := .return_) rfl rfl rfl (Nat.le_of_ble_eq_true rfl) (Nat.le_of_ble_eq_true rfl)
  · refine sh_Lk_lift (T := m.T) (I := m.I) (J := m.J) (s := m.s) (pc2 := 100) (lv2 := [(0, .ref 42), (1, .int x1), (2, .ref 24), (3, .int x3)]) (st2 := [.int x3, .ref 45]) (I2 := m.I) (J2 := m.J) (fun hT v kk => ?_) ?_
    · refine sh_w (i := (.aload_n 0)) (len := 1) (pc2 := 96) (lv2 := [(0, .ref 42), (1, .int x1), (2, .ref 24), (3, .int x3)]) (st2 := [.ref 42]) (h2 := (sh_rep m.T m.I m.J)) rfl rfl rfl ?_
      refine sh_gR1 (len := 3) (x := .ref 45) (pc2 := 99) rfl rfl (sh_s41 hT.st) rfl rfl ?_
      refine sh_w (i := (.iload_n 3)) (len := 1) (pc2 := 100) (lv2 := [(0, .ref 42), (1, .int x1), (2, .ref 24), (3, .int x3)]) (st2 := [.int x3, .ref 45]) (h2 := (sh_rep m.T m.I m.J)) rfl rfl rfl ?_
      exact kk
    refine sh_Lk_cS (r := (some (.int (sf_96 x3)))) (st2 := [.int (sf_96 x3), .ref 45]) (pc2 := 103) (k2 := 96) (as := [.int x3]) (rest := [.ref 45]) rfl rfl (by decide) (Nat.le_of_ble_eq_true rfl) rfl rfl ⟨Nat.le_of_ble_eq_true rfl, Nat.le_of_ble_eq_true rfl⟩ (sl_96 (m := m) rfl ⟨rfl, rfl⟩) rfl rfl (Nat.le_of_ble_eq_true rfl) (Nat.le_of_ble_eq_true rfl) ?_
    obtain ⟨r2, m12, e2, e⟩ := sh_bn_e e
    refine sh_Lk_cV (r := (some (.int r2))) (st2 := [.int r2]) (pc2 := 106) (k2 := 97) (a := 44) (as := [.ref 45, .int (sf_96 x3)]) (rest := []) rfl rfl rfl (fun hT => (sh_s44 hT.st)) rfl rfl ⟨Nat.le_of_ble_eq_true rfl, Nat.le_of_ble_eq_true rfl⟩ (sl_97 e2 ⟨rfl, rfl⟩) rfl rfl (Nat.le_of_ble_eq_true rfl) (Nat.le_of_ble_eq_true rfl) ?_
    refine sh_Lk_lift (T := m12.T) (I := m12.I) (J := m12.J) (s := m12.s) (pc2 := 113) (lv2 := [(4, .int r2), (0, .ref 42), (1, .int x1), (2, .ref 24), (3, .int x3)]) (st2 := [.int r2, .int x3, .ref 24, .ref 42]) (I2 := m12.I) (J2 := m12.J) (fun hT v kk => ?_) ?_
    · refine sh_w (i := (.istore 4)) (len := 2) (pc2 := 108) (lv2 := [(4, .int r2), (0, .ref 42), (1, .int x1), (2, .ref 24), (3, .int x3)]) (st2 := []) (h2 := (sh_rep m12.T m12.I m12.J)) rfl rfl rfl ?_
      refine sh_w (i := (.aload_n 0)) (len := 1) (pc2 := 109) (lv2 := [(4, .int r2), (0, .ref 42), (1, .int x1), (2, .ref 24), (3, .int x3)]) (st2 := [.ref 42]) (h2 := (sh_rep m12.T m12.I m12.J)) rfl rfl rfl ?_
      refine sh_w (i := (.aload_n 2)) (len := 1) (pc2 := 110) (lv2 := [(4, .int r2), (0, .ref 42), (1, .int x1), (2, .ref 24), (3, .int x3)]) (st2 := [.ref 24, .ref 42]) (h2 := (sh_rep m12.T m12.I m12.J)) rfl rfl rfl ?_
      refine sh_w (i := (.iload_n 3)) (len := 1) (pc2 := 111) (lv2 := [(4, .int r2), (0, .ref 42), (1, .int x1), (2, .ref 24), (3, .int x3)]) (st2 := [.int x3, .ref 24, .ref 42]) (h2 := (sh_rep m12.T m12.I m12.J)) rfl rfl rfl ?_
      refine sh_w (i := (.iload 4)) (len := 2) (pc2 := 113) (lv2 := [(4, .int r2), (0, .ref 42), (1, .int x1), (2, .ref 24), (3, .int x3)]) (st2 := [.int r2, .int x3, .ref 24, .ref 42]) (h2 := (sh_rep m12.T m12.I m12.J)) rfl rfl rfl ?_
      exact kk
    obtain ⟨r3, m13, e3, e⟩ := sh_bn_e e
    refine sh_Lk_cV (r := none) (st2 := []) (pc2 := 116) (k2 := 101) (a := 41) (as := [.ref 42, .ref 24, .int x3, .int r2]) (rest := []) rfl rfl rfl (fun hT => (sh_s41 hT.st)) rfl rfl ⟨Nat.le_of_ble_eq_true rfl, Nat.le_of_ble_eq_true rfl⟩ (sl_101 (by decide) e3 ⟨rfl, rfl⟩) rfl rfl (Nat.le_of_ble_eq_true rfl) (Nat.le_of_ble_eq_true rfl) ?_
    refine sh_Lk_lift (T := m13.T) (I := m13.I) (J := m13.J) (s := m13.s) (pc2 := 127) (lv2 := [(4, .int r2), (0, .ref 42), (1, .int x1), (2, .ref 24), (3, .int x3)]) (st2 := [.int (x1 + 1), .ref 3, .ref 54]) (I2 := m13.I) (J2 := m13.J) (fun hT v kk => ?_) ?_
    · refine sh_w (i := (.aload_n 0)) (len := 1) (pc2 := 117) (lv2 := [(4, .int r2), (0, .ref 42), (1, .int x1), (2, .ref 24), (3, .int x3)]) (st2 := [.ref 42]) (h2 := (sh_rep m13.T m13.I m13.J)) rfl rfl rfl ?_
      refine sh_gR1 (len := 3) (x := .ref 54) (pc2 := 120) rfl rfl (sh_s41 hT.st) rfl rfl ?_
      refine sh_w (i := (.aload_n 0)) (len := 1) (pc2 := 121) (lv2 := [(4, .int r2), (0, .ref 42), (1, .int x1), (2, .ref 24), (3, .int x3)]) (st2 := [.ref 42, .ref 54]) (h2 := (sh_rep m13.T m13.I m13.J)) rfl rfl rfl ?_
      refine sh_gR1 (len := 3) (x := .ref 3) (pc2 := 124) rfl rfl (sh_s41 hT.st) rfl rfl ?_
      refine sh_w (i := (.iload_n 1)) (len := 1) (pc2 := 125) (lv2 := [(4, .int r2), (0, .ref 42), (1, .int x1), (2, .ref 24), (3, .int x3)]) (st2 := [.int x1, .ref 3, .ref 54]) (h2 := (sh_rep m13.T m13.I m13.J)) rfl rfl rfl ?_
      refine sh_w (i := (.iconst 1)) (len := 1) (pc2 := 126) (lv2 := [(4, .int r2), (0, .ref 42), (1, .int x1), (2, .ref 24), (3, .int x3)]) (st2 := [.int 1, .int x1, .ref 3, .ref 54]) (h2 := (sh_rep m13.T m13.I m13.J)) rfl rfl rfl ?_
      refine sh_w (i := .iadd) (len := 1) (pc2 := 127) (lv2 := [(4, .int r2), (0, .ref 42), (1, .int x1), (2, .ref 24), (3, .int x3)]) (st2 := [.int (x1 + 1), .ref 3, .ref 54]) (h2 := (sh_rep m13.T m13.I m13.J)) rfl rfl rfl ?_
      exact kk
    obtain ⟨r4, e4, e⟩ := sh_bc_e e
    refine sh_Lk_cV (r := (some (.int r4))) (st2 := [.int r4, .ref 54]) (pc2 := 130) (k2 := 83) (a := 2) (as := [.ref 3, .int (x1 + 1)]) (rest := [.ref 54]) rfl rfl rfl (fun hT => hT.t2) rfl rfl ⟨Nat.le_of_ble_eq_true rfl, Nat.le_of_ble_eq_true rfl⟩ (sl_83 e4 ⟨rfl, rfl⟩) rfl rfl (Nat.le_of_ble_eq_true rfl) (Nat.le_of_ble_eq_true rfl) ?_
    refine sh_Lk_lift (T := m13.T) (I := m13.I) (J := m13.J) (s := m13.s) (pc2 := 134) (lv2 := [(4, .int r2), (0, .ref 42), (1, .int x1), (2, .ref 24), (3, .int x3)]) (st2 := [.long 0, .int r2, .int x3, .int r4, .ref 54]) (I2 := m13.I) (J2 := m13.J) (fun hT v kk => ?_) ?_
    · refine sh_w (i := (.iload_n 3)) (len := 1) (pc2 := 131) (lv2 := [(4, .int r2), (0, .ref 42), (1, .int x1), (2, .ref 24), (3, .int x3)]) (st2 := [.int x3, .int r4, .ref 54]) (h2 := (sh_rep m13.T m13.I m13.J)) rfl rfl rfl ?_
      refine sh_w (i := (.iload 4)) (len := 2) (pc2 := 133) (lv2 := [(4, .int r2), (0, .ref 42), (1, .int x1), (2, .ref 24), (3, .int x3)]) (st2 := [.int r2, .int x3, .int r4, .ref 54]) (h2 := (sh_rep m13.T m13.I m13.J)) rfl rfl rfl ?_
      refine sh_w (i := (.lconst 0)) (len := 1) (pc2 := 134) (lv2 := [(4, .int r2), (0, .ref 42), (1, .int x1), (2, .ref 24), (3, .int x3)]) (st2 := [.long 0, .int r2, .int x3, .int r4, .ref 54]) (h2 := (sh_rep m13.T m13.I m13.J)) rfl rfl rfl ?_
      exact kk
    obtain ⟨r5, m15, e5, e⟩ := sh_bn_e e
    refine sh_Lk_cV (r := none) (st2 := []) (pc2 := 137) (k2 := 105) (a := 53) (as := [.ref 54, .int r4, .int x3, .int r2, .long 0]) (rest := []) rfl rfl rfl (fun hT => (sh_s53 hT.st)) rfl rfl ⟨Nat.le_of_ble_eq_true rfl, Nat.le_of_ble_eq_true rfl⟩ (sl_105 e5 ⟨rfl, rfl⟩) rfl rfl (Nat.le_of_ble_eq_true rfl) (Nat.le_of_ble_eq_true rfl) ?_
    obtain rfl := Option.some.inj e
    obtain ⟨rfl, rfl⟩ := tg
    exact sh_Lk_ret (i := .return_) rfl rfl rfl (Nat.le_of_ble_eq_true rfl) (Nat.le_of_ble_eq_true rfl)
theorem sl_91_64 {x1 : Int32} {x2 : Nat} {x3 : Int32} {m m2 : sh_X} {o : Outcome} {z : (Option Unit × sh_X)} (hx2 : sh_isE x2) (e : sf_91_64 x1 x2 x3 m = some z) (tg : (sh_tVt o m2) z) : sh_Lk 91 64 [(0, .ref 42), (1, .int x1), (2, .ref (x2 + 1)), (3, .int x3)] [] m o m2 13 309 := by
  unfold sf_91_64 at e
  rcases hx2 with rfl | rfl | rfl
  · refine sh_Lk_lift (T := m.T) (I := m.I) (J := m.J) (s := m.s) (pc2 := 67) (lv2 := [(0, .ref 42), (1, .int x1), (2, .ref 14), (3, .int x3)]) (st2 := [.int x3, .int 1, .ref 14]) (I2 := m.I) (J2 := m.J) (fun hT v kk => ?_) ?_
    · refine sh_w (i := (.aload_n 2)) (len := 1) (pc2 := 65) (lv2 := [(0, .ref 42), (1, .int x1), (2, .ref 14), (3, .int x3)]) (st2 := [.ref 14]) (h2 := (sh_rep m.T m.I m.J)) rfl rfl rfl ?_
      refine sh_w (i := (.iconst 1)) (len := 1) (pc2 := 66) (lv2 := [(0, .ref 42), (1, .int x1), (2, .ref 14), (3, .int x3)]) (st2 := [.int 1, .ref 14]) (h2 := (sh_rep m.T m.I m.J)) rfl rfl rfl ?_
      refine sh_w (i := (.iload_n 3)) (len := 1) (pc2 := 67) (lv2 := [(0, .ref 42), (1, .int x1), (2, .ref 14), (3, .int x3)]) (st2 := [.int x3, .int 1, .ref 14]) (h2 := (sh_rep m.T m.I m.J)) rfl rfl rfl ?_
      exact kk
    refine sh_Lk_cS (r := (some (.int (sf_93 x3)))) (st2 := [.int (sf_93 x3), .int 1, .ref 14]) (pc2 := 70) (k2 := 93) (as := [.int x3]) (rest := [.int 1, .ref 14]) rfl rfl (by decide) (Nat.le_of_ble_eq_true rfl) rfl rfl ⟨Nat.le_of_ble_eq_true rfl, Nat.le_of_ble_eq_true rfl⟩ (sl_93 (m := m) rfl ⟨rfl, rfl⟩) rfl rfl (Nat.le_of_ble_eq_true rfl) (Nat.le_of_ble_eq_true rfl) ?_
    refine sh_Lk_cS (r := (some (.int (sf_42 1 (sf_93 x3))))) (st2 := [.int (sf_42 1 (sf_93 x3)), .ref 14]) (pc2 := 73) (k2 := 42) (as := [.int 1, .int (sf_93 x3)]) (rest := [.ref 14]) rfl rfl (by decide) (Nat.le_of_ble_eq_true rfl) rfl rfl ⟨Nat.le_of_ble_eq_true rfl, Nat.le_of_ble_eq_true rfl⟩ (sl_42 (m := m) rfl ⟨rfl, rfl⟩) rfl rfl (Nat.le_of_ble_eq_true rfl) (Nat.le_of_ble_eq_true rfl) ?_
    refine sh_Lk_lift (T := m.T) (I := m.I) (J := m.J) (s := m.s) (pc2 := 74) (lv2 := [(0, .ref 42), (1, .int x1), (2, .ref 14), (3, .int x3)]) (st2 := [.int x3, .int (sf_42 1 (sf_93 x3)), .ref 14]) (I2 := m.I) (J2 := m.J) (fun hT v kk => ?_) ?_
    · refine sh_w (i := (.iload_n 3)) (len := 1) (pc2 := 74) (lv2 := [(0, .ref 42), (1, .int x1), (2, .ref 14), (3, .int x3)]) (st2 := [.int x3, .int (sf_42 1 (sf_93 x3)), .ref 14]) (h2 := (sh_rep m.T m.I m.J)) rfl rfl rfl ?_
      exact kk
    refine sh_Lk_cS (r := (some (.int (sf_94 x3)))) (st2 := [.int (sf_94 x3), .int (sf_42 1 (sf_93 x3)), .ref 14]) (pc2 := 77) (k2 := 94) (as := [.int x3]) (rest := [.int (sf_42 1 (sf_93 x3)), .ref 14]) rfl rfl (by decide) (Nat.le_of_ble_eq_true rfl) rfl rfl ⟨Nat.le_of_ble_eq_true rfl, Nat.le_of_ble_eq_true rfl⟩ (sl_94 (m := m) rfl ⟨rfl, rfl⟩) rfl rfl (Nat.le_of_ble_eq_true rfl) (Nat.le_of_ble_eq_true rfl) ?_
    obtain ⟨r4, e4, e⟩ := sh_bc_e e
    refine sh_Lk_cV (r := (some (.int (sh_b2 r4)))) (st2 := [.int (sh_b2 r4)]) (pc2 := 80) (k2 := 95) (a := 13) (as := [.ref 14, .int (sf_42 1 (sf_93 x3)), .int (sf_94 x3)]) (rest := []) rfl rfl rfl (fun hT => (sh_s13 hT.st)) rfl rfl ⟨Nat.le_of_ble_eq_true rfl, Nat.le_of_ble_eq_true rfl⟩ (sl_95 (by decide) e4 ⟨rfl, rfl⟩) rfl rfl (Nat.le_of_ble_eq_true rfl) (Nat.le_of_ble_eq_true rfl) ?_
    rcases sh_ite e with ⟨c, e⟩ | ⟨c, e⟩
    · refine sh_Lk_lift (T := m.T) (I := m.I) (J := m.J) (s := m.s) (pc2 := 95) (lv2 := [(0, .ref 42), (1, .int x1), (2, .ref 14), (3, .int x3)]) (st2 := []) (I2 := m.I) (J2 := m.J) (fun hT v kk => ?_) ?_
      · refine sh_j0 (c := .ne) (off := (15)) (pc2 := 95) true rfl (sh_Znet c) rfl ?_
        exact kk
      exact sh_Lk_sub (sh_sub_c rfl (sh_sub_c rfl (sh_sub_c rfl (sh_sub_c rfl (sh_sub_n))))) (sl_91_95 (by decide) e tg)
    · refine sh_Lk_lift (T := m.T) (I := m.I) (J := m.J) (s := m.s) (pc2 := 92) (lv2 := [(0, .ref 42), (1, .int x1), (2, .ref 14), (3, .int x3)]) (st2 := [.int (x1 + 1), .int 6, .ref 3]) (I2 := m.I) (J2 := m.J) (fun hT v kk => ?_) ?_
      · refine sh_j0 (c := .ne) (off := (15)) (pc2 := 83) false rfl (sh_Znef c) rfl ?_
        refine sh_w (i := (.aload_n 0)) (len := 1) (pc2 := 84) (lv2 := [(0, .ref 42), (1, .int x1), (2, .ref 14), (3, .int x3)]) (st2 := [.ref 42]) (h2 := (sh_rep m.T m.I m.J)) rfl rfl rfl ?_
        refine sh_gR1 (len := 3) (x := .ref 3) (pc2 := 87) rfl rfl (sh_s41 hT.st) rfl rfl ?_
        refine sh_w (i := (.bipush 6)) (len := 2) (pc2 := 89) (lv2 := [(0, .ref 42), (1, .int x1), (2, .ref 14), (3, .int x3)]) (st2 := [.int 6, .ref 3]) (h2 := (sh_rep m.T m.I m.J)) rfl rfl rfl ?_
        refine sh_w (i := (.iload_n 1)) (len := 1) (pc2 := 90) (lv2 := [(0, .ref 42), (1, .int x1), (2, .ref 14), (3, .int x3)]) (st2 := [.int x1, .int 6, .ref 3]) (h2 := (sh_rep m.T m.I m.J)) rfl rfl rfl ?_
        refine sh_w (i := (.iconst 1)) (len := 1) (pc2 := 91) (lv2 := [(0, .ref 42), (1, .int x1), (2, .ref 14), (3, .int x3)]) (st2 := [.int 1, .int x1, .int 6, .ref 3]) (h2 := (sh_rep m.T m.I m.J)) rfl rfl rfl ?_
        refine sh_w (i := .iadd) (len := 1) (pc2 := 92) (lv2 := [(0, .ref 42), (1, .int x1), (2, .ref 14), (3, .int x3)]) (st2 := [.int (x1 + 1), .int 6, .ref 3]) (h2 := (sh_rep m.T m.I m.J)) rfl rfl rfl ?_
        exact kk
      rcases sh_bt_e e with ⟨m15, e5, rfl⟩ | ⟨r5, m15, e5, e⟩
      · obtain ⟨rfl, rfl⟩ := tg
        exact sh_Lk_tV (k2 := 50) (a := 2) (as := [.ref 3, .int 6, .int (x1 + 1)]) (rest := []) rfl rfl rfl (fun hT => hT.t2) rfl rfl ⟨Nat.le_of_ble_eq_true rfl, Nat.le_of_ble_eq_true rfl⟩ (sl_50 e5 ⟨rfl, rfl⟩) rfl (Nat.le_of_ble_eq_true rfl) (Nat.le_of_ble_eq_true rfl) (Nat.le_of_ble_eq_true rfl) (Nat.le_of_ble_eq_true rfl) rfl
      refine sh_Lk_cV (r := none) (st2 := []) (pc2 := 95) (k2 := 50) (a := 2) (as := [.ref 3, .int 6, .int (x1 + 1)]) (rest := []) rfl rfl rfl (fun hT => hT.t2) rfl rfl ⟨Nat.le_of_ble_eq_true rfl, Nat.le_of_ble_eq_true rfl⟩ (sl_50 e5 ⟨rfl, rfl⟩) rfl rfl (Nat.le_of_ble_eq_true rfl) (Nat.le_of_ble_eq_true rfl) ?_
      exact sh_Lk_sub (sh_sub_c rfl (sh_sub_c rfl (sh_sub_c rfl (sh_sub_c rfl (sh_sub_n))))) (sl_91_95 (by decide) e tg)
  · refine sh_Lk_lift (T := m.T) (I := m.I) (J := m.J) (s := m.s) (pc2 := 67) (lv2 := [(0, .ref 42), (1, .int x1), (2, .ref 19), (3, .int x3)]) (st2 := [.int x3, .int 1, .ref 19]) (I2 := m.I) (J2 := m.J) (fun hT v kk => ?_) ?_
    · refine sh_w (i := (.aload_n 2)) (len := 1) (pc2 := 65) (lv2 := [(0, .ref 42), (1, .int x1), (2, .ref 19), (3, .int x3)]) (st2 := [.ref 19]) (h2 := (sh_rep m.T m.I m.J)) rfl rfl rfl ?_
      refine sh_w (i := (.iconst 1)) (len := 1) (pc2 := 66) (lv2 := [(0, .ref 42), (1, .int x1), (2, .ref 19), (3, .int x3)]) (st2 := [.int 1, .ref 19]) (h2 := (sh_rep m.T m.I m.J)) rfl rfl rfl ?_
      refine sh_w (i := (.iload_n 3)) (len := 1) (pc2 := 67) (lv2 := [(0, .ref 42), (1, .int x1), (2, .ref 19), (3, .int x3)]) (st2 := [.int x3, .int 1, .ref 19]) (h2 := (sh_rep m.T m.I m.J)) rfl rfl rfl ?_
      exact kk
    refine sh_Lk_cS (r := (some (.int (sf_93 x3)))) (st2 := [.int (sf_93 x3), .int 1, .ref 19]) (pc2 := 70) (k2 := 93) (as := [.int x3]) (rest := [.int 1, .ref 19]) rfl rfl (by decide) (Nat.le_of_ble_eq_true rfl) rfl rfl ⟨Nat.le_of_ble_eq_true rfl, Nat.le_of_ble_eq_true rfl⟩ (sl_93 (m := m) rfl ⟨rfl, rfl⟩) rfl rfl (Nat.le_of_ble_eq_true rfl) (Nat.le_of_ble_eq_true rfl) ?_
    refine sh_Lk_cS (r := (some (.int (sf_42 1 (sf_93 x3))))) (st2 := [.int (sf_42 1 (sf_93 x3)), .ref 19]) (pc2 := 73) (k2 := 42) (as := [.int 1, .int (sf_93 x3)]) (rest := [.ref 19]) rfl rfl (by decide) (Nat.le_of_ble_eq_true rfl) rfl rfl ⟨Nat.le_of_ble_eq_true rfl, Nat.le_of_ble_eq_true rfl⟩ (sl_42 (m := m) rfl ⟨rfl, rfl⟩) rfl rfl (Nat.le_of_ble_eq_true rfl) (Nat.le_of_ble_eq_true rfl) ?_
    refine sh_Lk_lift (T := m.T) (I := m.I) (J := m.J) (s := m.s) (pc2 := 74) (lv2 := [(0, .ref 42), (1, .int x1), (2, .ref 19), (3, .int x3)]) (st2 := [.int x3, .int (sf_42 1 (sf_93 x3)), .ref 19]) (I2 := m.I) (J2 := m.J) (fun hT v kk => ?_) ?_
    · refine sh_w (i := (.iload_n 3)) (len := 1) (pc2 := 74) (lv2 := [(0, .ref 42), (1, .int x1), (2, .ref 19), (3, .int x3)]) (st2 := [.int x3, .int (sf_42 1 (sf_93 x3)), .ref 19]) (h2 := (sh_rep m.T m.I m.J)) rfl rfl rfl ?_
      exact kk
    refine sh_Lk_cS (r := (some (.int (sf_94 x3)))) (st2 := [.int (sf_94 x3), .int (sf_42 1 (sf_93 x3)), .ref 19]) (pc2 := 77) (k2 := 94) (as := [.int x3]) (rest := [.int (sf_42 1 (sf_93 x3)), .ref 19]) rfl rfl (by decide) (Nat.le_of_ble_eq_true rfl) rfl rfl ⟨Nat.le_of_ble_eq_true rfl, Nat.le_of_ble_eq_true rfl⟩ (sl_94 (m := m) rfl ⟨rfl, rfl⟩) rfl rfl (Nat.le_of_ble_eq_true rfl) (Nat.le_of_ble_eq_true rfl) ?_
    obtain ⟨r4, e4, e⟩ := sh_bc_e e
    refine sh_Lk_cV (r := (some (.int (sh_b2 r4)))) (st2 := [.int (sh_b2 r4)]) (pc2 := 80) (k2 := 95) (a := 18) (as := [.ref 19, .int (sf_42 1 (sf_93 x3)), .int (sf_94 x3)]) (rest := []) rfl rfl rfl (fun hT => (sh_s18 hT.st)) rfl rfl ⟨Nat.le_of_ble_eq_true rfl, Nat.le_of_ble_eq_true rfl⟩ (sl_95 (by decide) e4 ⟨rfl, rfl⟩) rfl rfl (Nat.le_of_ble_eq_true rfl) (Nat.le_of_ble_eq_true rfl) ?_
    rcases sh_ite e with ⟨c, e⟩ | ⟨c, e⟩
    · refine sh_Lk_lift (T := m.T) (I := m.I) (J := m.J) (s := m.s) (pc2 := 95) (lv2 := [(0, .ref 42), (1, .int x1), (2, .ref 19), (3, .int x3)]) (st2 := []) (I2 := m.I) (J2 := m.J) (fun hT v kk => ?_) ?_
      · refine sh_j0 (c := .ne) (off := (15)) (pc2 := 95) true rfl (sh_Znet c) rfl ?_
        exact kk
      exact sh_Lk_sub (sh_sub_c rfl (sh_sub_c rfl (sh_sub_c rfl (sh_sub_c rfl (sh_sub_n))))) (sl_91_95 (by decide) e tg)
    · refine sh_Lk_lift (T := m.T) (I := m.I) (J := m.J) (s := m.s) (pc2 := 92) (lv2 := [(0, .ref 42), (1, .int x1), (2, .ref 19), (3, .int x3)]) (st2 := [.int (x1 + 1), .int 6, .ref 3]) (I2 := m.I) (J2 := m.J) (fun hT v kk => ?_) ?_
      · refine sh_j0 (c := .ne) (off := (15)) (pc2 := 83) false rfl (sh_Znef c) rfl ?_
        refine sh_w (i := (.aload_n 0)) (len := 1) (pc2 := 84) (lv2 := [(0, .ref 42), (1, .int x1), (2, .ref 19), (3, .int x3)]) (st2 := [.ref 42]) (h2 := (sh_rep m.T m.I m.J)) rfl rfl rfl ?_
        refine sh_gR1 (len := 3) (x := .ref 3) (pc2 := 87) rfl rfl (sh_s41 hT.st) rfl rfl ?_
        refine sh_w (i := (.bipush 6)) (len := 2) (pc2 := 89) (lv2 := [(0, .ref 42), (1, .int x1), (2, .ref 19), (3, .int x3)]) (st2 := [.int 6, .ref 3]) (h2 := (sh_rep m.T m.I m.J)) rfl rfl rfl ?_
        refine sh_w (i := (.iload_n 1)) (len := 1) (pc2 := 90) (lv2 := [(0, .ref 42), (1, .int x1), (2, .ref 19), (3, .int x3)]) (st2 := [.int x1, .int 6, .ref 3]) (h2 := (sh_rep m.T m.I m.J)) rfl rfl rfl ?_
        refine sh_w (i := (.iconst 1)) (len := 1) (pc2 := 91) (lv2 := [(0, .ref 42), (1, .int x1), (2, .ref 19), (3, .int x3)]) (st2 := [.int 1, .int x1, .int 6, .ref 3]) (h2 := (sh_rep m.T m.I m.J)) rfl rfl rfl ?_
        refine sh_w (i := .iadd) (len := 1) (pc2 := 92) (lv2 := [(0, .ref 42), (1, .int x1), (2, .ref 19), (3, .int x3)]) (st2 := [.int (x1 + 1), .int 6, .ref 3]) (h2 := (sh_rep m.T m.I m.J)) rfl rfl rfl ?_
        exact kk
      rcases sh_bt_e e with ⟨m15, e5, rfl⟩ | ⟨r5, m15, e5, e⟩
      · obtain ⟨rfl, rfl⟩ := tg
        exact sh_Lk_tV (k2 := 50) (a := 2) (as := [.ref 3, .int 6, .int (x1 + 1)]) (rest := []) rfl rfl rfl (fun hT => hT.t2) rfl rfl ⟨Nat.le_of_ble_eq_true rfl, Nat.le_of_ble_eq_true rfl⟩ (sl_50 e5 ⟨rfl, rfl⟩) rfl (Nat.le_of_ble_eq_true rfl) (Nat.le_of_ble_eq_true rfl) (Nat.le_of_ble_eq_true rfl) (Nat.le_of_ble_eq_true rfl) rfl
      refine sh_Lk_cV (r := none) (st2 := []) (pc2 := 95) (k2 := 50) (a := 2) (as := [.ref 3, .int 6, .int (x1 + 1)]) (rest := []) rfl rfl rfl (fun hT => hT.t2) rfl rfl ⟨Nat.le_of_ble_eq_true rfl, Nat.le_of_ble_eq_true rfl⟩ (sl_50 e5 ⟨rfl, rfl⟩) rfl rfl (Nat.le_of_ble_eq_true rfl) (Nat.le_of_ble_eq_true rfl) ?_
      exact sh_Lk_sub (sh_sub_c rfl (sh_sub_c rfl (sh_sub_c rfl (sh_sub_c rfl (sh_sub_n))))) (sl_91_95 (by decide) e tg)
  · refine sh_Lk_lift (T := m.T) (I := m.I) (J := m.J) (s := m.s) (pc2 := 67) (lv2 := [(0, .ref 42), (1, .int x1), (2, .ref 24), (3, .int x3)]) (st2 := [.int x3, .int 1, .ref 24]) (I2 := m.I) (J2 := m.J) (fun hT v kk => ?_) ?_
    · refine sh_w (i := (.aload_n 2)) (len := 1) (pc2 := 65) (lv2 := [(0, .ref 42), (1, .int x1), (2, .ref 24), (3, .int x3)]) (st2 := [.ref 24]) (h2 := (sh_rep m.T m.I m.J)) rfl rfl rfl ?_
      refine sh_w (i := (.iconst 1)) (len := 1) (pc2 := 66) (lv2 := [(0, .ref 42), (1, .int x1), (2, .ref 24), (3, .int x3)]) (st2 := [.int 1, .ref 24]) (h2 := (sh_rep m.T m.I m.J)) rfl rfl rfl ?_
      refine sh_w (i := (.iload_n 3)) (len := 1) (pc2 := 67) (lv2 := [(0, .ref 42), (1, .int x1), (2, .ref 24), (3, .int x3)]) (st2 := [.int x3, .int 1, .ref 24]) (h2 := (sh_rep m.T m.I m.J)) rfl rfl rfl ?_
      exact kk
    refine sh_Lk_cS (r := (some (.int (sf_93 x3)))) (st2 := [.int (sf_93 x3), .int 1, .ref 24]) (pc2 := 70) (k2 := 93) (as := [.int x3]) (rest := [.int 1, .ref 24]) rfl rfl (by decide) (Nat.le_of_ble_eq_true rfl) rfl rfl ⟨Nat.le_of_ble_eq_true rfl, Nat.le_of_ble_eq_true rfl⟩ (sl_93 (m := m) rfl ⟨rfl, rfl⟩) rfl rfl (Nat.le_of_ble_eq_true rfl) (Nat.le_of_ble_eq_true rfl) ?_
    refine sh_Lk_cS (r := (some (.int (sf_42 1 (sf_93 x3))))) (st2 := [.int (sf_42 1 (sf_93 x3)), .ref 24]) (pc2 := 73) (k2 := 42) (as := [.int 1, .int (sf_93 x3)]) (rest := [.ref 24]) rfl rfl (by decide) (Nat.le_of_ble_eq_true rfl) rfl rfl ⟨Nat.le_of_ble_eq_true rfl, Nat.le_of_ble_eq_true rfl⟩ (sl_42 (m := m) rfl ⟨rfl, rfl⟩) rfl rfl (Nat.le_of_ble_eq_true rfl) (Nat.le_of_ble_eq_true rfl) ?_
    refine sh_Lk_lift (T := m.T) (I := m.I) (J := m.J) (s := m.s) (pc2 := 74) (lv2 := [(0, .ref 42), (1, .int x1), (2, .ref 24), (3, .int x3)]) (st2 := [.int x3, .int (sf_42 1 (sf_93 x3)), .ref 24]) (I2 := m.I) (J2 := m.J) (fun hT v kk => ?_) ?_
    · refine sh_w (i := (.iload_n 3)) (len := 1) (pc2 := 74) (lv2 := [(0, .ref 42), (1, .int x1), (2, .ref 24), (3, .int x3)]) (st2 := [.int x3, .int (sf_42 1 (sf_93 x3)), .ref 24]) (h2 := (sh_rep m.T m.I m.J)) rfl rfl rfl ?_
      exact kk
    refine sh_Lk_cS (r := (some (.int (sf_94 x3)))) (st2 := [.int (sf_94 x3), .int (sf_42 1 (sf_93 x3)), .ref 24]) (pc2 := 77) (k2 := 94) (as := [.int x3]) (rest := [.int (sf_42 1 (sf_93 x3)), .ref 24]) rfl rfl (by decide) (Nat.le_of_ble_eq_true rfl) rfl rfl ⟨Nat.le_of_ble_eq_true rfl, Nat.le_of_ble_eq_true rfl⟩ (sl_94 (m := m) rfl ⟨rfl, rfl⟩) rfl rfl (Nat.le_of_ble_eq_true rfl) (Nat.le_of_ble_eq_true rfl) ?_
    obtain ⟨r4, e4, e⟩ := sh_bc_e e
    refine sh_Lk_cV (r := (some (.int (sh_b2 r4)))) (st2 := [.int (sh_b2 r4)]) (pc2 := 80) (k2 := 95) (a := 23) (as := [.ref 24, .int (sf_42 1 (sf_93 x3)), .int (sf_94 x3)]) (rest := []) rfl rfl rfl (fun hT => (sh_s23 hT.st)) rfl rfl ⟨Nat.le_of_ble_eq_true rfl, Nat.le_of_ble_eq_true rfl⟩ (sl_95 (by decide) e4 ⟨rfl, rfl⟩) rfl rfl (Nat.le_of_ble_eq_true rfl) (Nat.le_of_ble_eq_true rfl) ?_
    rcases sh_ite e with ⟨c, e⟩ | ⟨c, e⟩
    · refine sh_Lk_lift (T := m.T) (I := m.I) (J := m.J) (s := m.s) (pc2 := 95) (lv2 := [(0, .ref 42), (1, .int x1), (2, .ref 24), (3, .int x3)]) (st2 := []) (I2 := m.I) (J2 := m.J) (fun hT v kk => ?_) ?_
      · refine sh_j0 (c := .ne) (off := (15)) (pc2 := 95) true rfl (sh_Znet c) rfl ?_
        exact kk
      exact sh_Lk_sub (sh_sub_c rfl (sh_sub_c rfl (sh_sub_c rfl (sh_sub_c rfl (sh_sub_n))))) (sl_91_95 (by decide) e tg)
    · refine sh_Lk_lift (T := m.T) (I := m.I) (J := m.J) (s := m.s) (pc2 := 92) (lv2 := [(0, .ref 42), (1, .int x1), (2, .ref 24), (3, .int x3)]) (st2 := [.int (x1 + 1), .int 6, .ref 3]) (I2 := m.I) (J2 := m.J) (fun hT v kk => ?_) ?_
      · refine sh_j0 (c := .ne) (off := (15)) (pc2 := 83) false rfl (sh_Znef c) rfl ?_
        refine sh_w (i := (.aload_n 0)) (len := 1) (pc2 := 84) (lv2 := [(0, .ref 42), (1, .int x1), (2, .ref 24), (3, .int x3)]) (st2 := [.ref 42]) (h2 := (sh_rep m.T m.I m.J)) rfl rfl rfl ?_
        refine sh_gR1 (len := 3) (x := .ref 3) (pc2 := 87) rfl rfl (sh_s41 hT.st) rfl rfl ?_
        refine sh_w (i := (.bipush 6)) (len := 2) (pc2 := 89) (lv2 := [(0, .ref 42), (1, .int x1), (2, .ref 24), (3, .int x3)]) (st2 := [.int 6, .ref 3]) (h2 := (sh_rep m.T m.I m.J)) rfl rfl rfl ?_
        refine sh_w (i := (.iload_n 1)) (len := 1) (pc2 := 90) (lv2 := [(0, .ref 42), (1, .int x1), (2, .ref 24), (3, .int x3)]) (st2 := [.int x1, .int 6, .ref 3]) (h2 := (sh_rep m.T m.I m.J)) rfl rfl rfl ?_
        refine sh_w (i := (.iconst 1)) (len := 1) (pc2 := 91) (lv2 := [(0, .ref 42), (1, .int x1), (2, .ref 24), (3, .int x3)]) (st2 := [.int 1, .int x1, .int 6, .ref 3]) (h2 := (sh_rep m.T m.I m.J)) rfl rfl rfl ?_
        refine sh_w (i := .iadd) (len := 1) (pc2 := 92) (lv2 := [(0, .ref 42), (1, .int x1), (2, .ref 24), (3, .int x3)]) (st2 := [.int (x1 + 1), .int 6, .ref 3]) (h2 := (sh_rep m.T m.I m.J)) rfl rfl rfl ?_
        exact kk
      rcases sh_bt_e e with ⟨m15, e5, rfl⟩ | ⟨r5, m15, e5, e⟩
      · obtain ⟨rfl, rfl⟩ := tg
        exact sh_Lk_tV (k2 := 50) (a := 2) (as := [.ref 3, .int 6, .int (x1 + 1)]) (rest := []) rfl rfl rfl (fun hT => hT.t2) rfl rfl ⟨Nat.le_of_ble_eq_true rfl, Nat.le_of_ble_eq_true rfl⟩ (sl_50 e5 ⟨rfl, rfl⟩) rfl (Nat.le_of_ble_eq_true rfl) (Nat.le_of_ble_eq_true rfl) (Nat.le_of_ble_eq_true rfl) (Nat.le_of_ble_eq_true rfl) rfl
      refine sh_Lk_cV (r := none) (st2 := []) (pc2 := 95) (k2 := 50) (a := 2) (as := [.ref 3, .int 6, .int (x1 + 1)]) (rest := []) rfl rfl rfl (fun hT => hT.t2) rfl rfl ⟨Nat.le_of_ble_eq_true rfl, Nat.le_of_ble_eq_true rfl⟩ (sl_50 e5 ⟨rfl, rfl⟩) rfl rfl (Nat.le_of_ble_eq_true rfl) (Nat.le_of_ble_eq_true rfl) ?_
      exact sh_Lk_sub (sh_sub_c rfl (sh_sub_c rfl (sh_sub_c rfl (sh_sub_c rfl (sh_sub_n))))) (sl_91_95 (by decide) e tg)
theorem sl_91_23 {x1 : Int32} {y0 : Nat} {m m2 : sh_X} {o : Outcome} {z : (Option Unit × sh_X)} (hy0 : sh_isE y0) (e : sf_91_23 x1 y0 m = some z) (tg : (sh_tVt o m2) z) : sh_Lk 91 23 [(0, .ref 42), (1, .int x1)] [.ref (y0 + 1)] m o m2 13 309 := by
  unfold sf_91_23 at e
  rcases hy0 with rfl | rfl | rfl
  · refine sh_Lk_lift (T := m.T) (I := m.I) (J := m.J) (s := m.s) (pc2 := 28) (lv2 := [(2, .ref 14), (0, .ref 42), (1, .int x1)]) (st2 := [.int (x1 + 2), .ref 42]) (I2 := m.I) (J2 := m.J) (fun hT v kk => ?_) ?_
    · refine sh_w (i := (.astore_n 2)) (len := 1) (pc2 := 24) (lv2 := [(2, .ref 14), (0, .ref 42), (1, .int x1)]) (st2 := []) (h2 := (sh_rep m.T m.I m.J)) rfl rfl rfl ?_
      refine sh_w (i := (.aload_n 0)) (len := 1) (pc2 := 25) (lv2 := [(2, .ref 14), (0, .ref 42), (1, .int x1)]) (st2 := [.ref 42]) (h2 := (sh_rep m.T m.I m.J)) rfl rfl rfl ?_
      refine sh_w (i := (.iload_n 1)) (len := 1) (pc2 := 26) (lv2 := [(2, .ref 14), (0, .ref 42), (1, .int x1)]) (st2 := [.int x1, .ref 42]) (h2 := (sh_rep m.T m.I m.J)) rfl rfl rfl ?_
      refine sh_w (i := (.iconst 2)) (len := 1) (pc2 := 27) (lv2 := [(2, .ref 14), (0, .ref 42), (1, .int x1)]) (st2 := [.int 2, .int x1, .ref 42]) (h2 := (sh_rep m.T m.I m.J)) rfl rfl rfl ?_
      refine sh_w (i := .iadd) (len := 1) (pc2 := 28) (lv2 := [(2, .ref 14), (0, .ref 42), (1, .int x1)]) (st2 := [.int (x1 + 2), .ref 42]) (h2 := (sh_rep m.T m.I m.J)) rfl rfl rfl ?_
      exact kk
    rcases sh_bt_e e with ⟨m11, e1, rfl⟩ | ⟨r1, m11, e1, e⟩
    · obtain ⟨rfl, rfl⟩ := tg
      exact sh_Lk_tV (k2 := 86) (a := 41) (as := [.ref 42, .int (x1 + 2)]) (rest := []) rfl rfl rfl (fun hT => (sh_s41 hT.st)) rfl rfl ⟨Nat.le_of_ble_eq_true rfl, Nat.le_of_ble_eq_true rfl⟩ (sl_86 e1 ⟨rfl, rfl⟩) rfl (Nat.le_of_ble_eq_true rfl) (Nat.le_of_ble_eq_true rfl) (Nat.le_of_ble_eq_true rfl) (Nat.le_of_ble_eq_true rfl) rfl
    refine sh_Lk_cV (r := (some (.int r1))) (st2 := [.int r1]) (pc2 := 31) (k2 := 86) (a := 41) (as := [.ref 42, .int (x1 + 2)]) (rest := []) rfl rfl rfl (fun hT => (sh_s41 hT.st)) rfl rfl ⟨Nat.le_of_ble_eq_true rfl, Nat.le_of_ble_eq_true rfl⟩ (sl_86 e1 ⟨rfl, rfl⟩) rfl rfl (Nat.le_of_ble_eq_true rfl) (Nat.le_of_ble_eq_true rfl) ?_
    refine sh_Lk_lift (T := m11.T) (I := m11.I) (J := m11.J) (s := m11.s) (pc2 := 43) (lv2 := [(3, .int r1), (2, .ref 14), (0, .ref 42), (1, .int x1)]) (st2 := [.int (x1 + 1), .ref 3, .ref 54]) (I2 := m11.I) (J2 := m11.J) (fun hT v kk => ?_) ?_
    · refine sh_w (i := (.istore_n 3)) (len := 1) (pc2 := 32) (lv2 := [(3, .int r1), (2, .ref 14), (0, .ref 42), (1, .int x1)]) (st2 := []) (h2 := (sh_rep m11.T m11.I m11.J)) rfl rfl rfl ?_
      refine sh_w (i := (.aload_n 0)) (len := 1) (pc2 := 33) (lv2 := [(3, .int r1), (2, .ref 14), (0, .ref 42), (1, .int x1)]) (st2 := [.ref 42]) (h2 := (sh_rep m11.T m11.I m11.J)) rfl rfl rfl ?_
      refine sh_gR1 (len := 3) (x := .ref 54) (pc2 := 36) rfl rfl (sh_s41 hT.st) rfl rfl ?_
      refine sh_w (i := (.aload_n 0)) (len := 1) (pc2 := 37) (lv2 := [(3, .int r1), (2, .ref 14), (0, .ref 42), (1, .int x1)]) (st2 := [.ref 42, .ref 54]) (h2 := (sh_rep m11.T m11.I m11.J)) rfl rfl rfl ?_
      refine sh_gR1 (len := 3) (x := .ref 3) (pc2 := 40) rfl rfl (sh_s41 hT.st) rfl rfl ?_
      refine sh_w (i := (.iload_n 1)) (len := 1) (pc2 := 41) (lv2 := [(3, .int r1), (2, .ref 14), (0, .ref 42), (1, .int x1)]) (st2 := [.int x1, .ref 3, .ref 54]) (h2 := (sh_rep m11.T m11.I m11.J)) rfl rfl rfl ?_
      refine sh_w (i := (.iconst 1)) (len := 1) (pc2 := 42) (lv2 := [(3, .int r1), (2, .ref 14), (0, .ref 42), (1, .int x1)]) (st2 := [.int 1, .int x1, .ref 3, .ref 54]) (h2 := (sh_rep m11.T m11.I m11.J)) rfl rfl rfl ?_
      refine sh_w (i := .iadd) (len := 1) (pc2 := 43) (lv2 := [(3, .int r1), (2, .ref 14), (0, .ref 42), (1, .int x1)]) (st2 := [.int (x1 + 1), .ref 3, .ref 54]) (h2 := (sh_rep m11.T m11.I m11.J)) rfl rfl rfl ?_
      exact kk
    obtain ⟨r2, e2, e⟩ := sh_bc_e e
    refine sh_Lk_cV (r := (some (.int r2))) (st2 := [.int r2, .ref 54]) (pc2 := 46) (k2 := 83) (a := 2) (as := [.ref 3, .int (x1 + 1)]) (rest := [.ref 54]) rfl rfl rfl (fun hT => hT.t2) rfl rfl ⟨Nat.le_of_ble_eq_true rfl, Nat.le_of_ble_eq_true rfl⟩ (sl_83 e2 ⟨rfl, rfl⟩) rfl rfl (Nat.le_of_ble_eq_true rfl) (Nat.le_of_ble_eq_true rfl) ?_
    obtain ⟨r3, e3, e⟩ := sh_bc_e e
    refine sh_Lk_cV (r := (some (.int r3))) (st2 := [.int r3]) (pc2 := 49) (k2 := 92) (a := 53) (as := [.ref 54, .int r2]) (rest := []) rfl rfl rfl (fun hT => (sh_s53 hT.st)) rfl rfl ⟨Nat.le_of_ble_eq_true rfl, Nat.le_of_ble_eq_true rfl⟩ (sl_92 e3 ⟨rfl, rfl⟩) rfl rfl (Nat.le_of_ble_eq_true rfl) (Nat.le_of_ble_eq_true rfl) ?_
    refine sh_Lk_lift (T := m11.T) (I := m11.I) (J := m11.J) (s := m11.s) (pc2 := 50) (lv2 := [(3, .int r1), (2, .ref 14), (0, .ref 42), (1, .int x1)]) (st2 := [.int (-1), .int r3]) (I2 := m11.I) (J2 := m11.J) (fun hT v kk => ?_) ?_
    · refine sh_w (i := (.iconst (-1))) (len := 1) (pc2 := 50) (lv2 := [(3, .int r1), (2, .ref 14), (0, .ref 42), (1, .int x1)]) (st2 := [.int (-1), .int r3]) (h2 := (sh_rep m11.T m11.I m11.J)) rfl rfl rfl ?_
      exact kk
    rcases sh_ite e with ⟨c, e⟩ | ⟨c, e⟩
    · refine sh_Lk_lift (T := m11.T) (I := m11.I) (J := m11.J) (s := m11.s) (pc2 := 64) (lv2 := [(3, .int r1), (2, .ref 14), (0, .ref 42), (1, .int x1)]) (st2 := []) (I2 := m11.I) (J2 := m11.J) (fun hT v kk => ?_) ?_
      · refine sh_jc (c := .eq) (off := (14)) (pc2 := 64) true rfl (sh_Beqt c) rfl ?_
        exact kk
      exact sh_Lk_sub (sh_sub_c rfl (sh_sub_c rfl (sh_sub_c rfl (sh_sub_c rfl (sh_sub_n))))) (sl_91_64 (by decide) e tg)
    · refine sh_Lk_lift (T := m11.T) (I := m11.I) (J := m11.J) (s := m11.s) (pc2 := 61) (lv2 := [(3, .int r1), (2, .ref 14), (0, .ref 42), (1, .int x1)]) (st2 := [.int (x1 + 1), .int 3, .ref 3]) (I2 := m11.I) (J2 := m11.J) (fun hT v kk => ?_) ?_
      · refine sh_jc (c := .eq) (off := (14)) (pc2 := 53) false rfl (sh_Beqf c) rfl ?_
        refine sh_w (i := (.aload_n 0)) (len := 1) (pc2 := 54) (lv2 := [(3, .int r1), (2, .ref 14), (0, .ref 42), (1, .int x1)]) (st2 := [.ref 42]) (h2 := (sh_rep m11.T m11.I m11.J)) rfl rfl rfl ?_
        refine sh_gR1 (len := 3) (x := .ref 3) (pc2 := 57) rfl rfl (sh_s41 hT.st) rfl rfl ?_
        refine sh_w (i := (.iconst 3)) (len := 1) (pc2 := 58) (lv2 := [(3, .int r1), (2, .ref 14), (0, .ref 42), (1, .int x1)]) (st2 := [.int 3, .ref 3]) (h2 := (sh_rep m11.T m11.I m11.J)) rfl rfl rfl ?_
        refine sh_w (i := (.iload_n 1)) (len := 1) (pc2 := 59) (lv2 := [(3, .int r1), (2, .ref 14), (0, .ref 42), (1, .int x1)]) (st2 := [.int x1, .int 3, .ref 3]) (h2 := (sh_rep m11.T m11.I m11.J)) rfl rfl rfl ?_
        refine sh_w (i := (.iconst 1)) (len := 1) (pc2 := 60) (lv2 := [(3, .int r1), (2, .ref 14), (0, .ref 42), (1, .int x1)]) (st2 := [.int 1, .int x1, .int 3, .ref 3]) (h2 := (sh_rep m11.T m11.I m11.J)) rfl rfl rfl ?_
        refine sh_w (i := .iadd) (len := 1) (pc2 := 61) (lv2 := [(3, .int r1), (2, .ref 14), (0, .ref 42), (1, .int x1)]) (st2 := [.int (x1 + 1), .int 3, .ref 3]) (h2 := (sh_rep m11.T m11.I m11.J)) rfl rfl rfl ?_
        exact kk
      rcases sh_bt_e e with ⟨m14, e4, rfl⟩ | ⟨r4, m14, e4, e⟩
      · obtain ⟨rfl, rfl⟩ := tg
        exact sh_Lk_tV (k2 := 50) (a := 2) (as := [.ref 3, .int 3, .int (x1 + 1)]) (rest := []) rfl rfl rfl (fun hT => hT.t2) rfl rfl ⟨Nat.le_of_ble_eq_true rfl, Nat.le_of_ble_eq_true rfl⟩ (sl_50 e4 ⟨rfl, rfl⟩) rfl (Nat.le_of_ble_eq_true rfl) (Nat.le_of_ble_eq_true rfl) (Nat.le_of_ble_eq_true rfl) (Nat.le_of_ble_eq_true rfl) rfl
      refine sh_Lk_cV (r := none) (st2 := []) (pc2 := 64) (k2 := 50) (a := 2) (as := [.ref 3, .int 3, .int (x1 + 1)]) (rest := []) rfl rfl rfl (fun hT => hT.t2) rfl rfl ⟨Nat.le_of_ble_eq_true rfl, Nat.le_of_ble_eq_true rfl⟩ (sl_50 e4 ⟨rfl, rfl⟩) rfl rfl (Nat.le_of_ble_eq_true rfl) (Nat.le_of_ble_eq_true rfl) ?_
      exact sh_Lk_sub (sh_sub_c rfl (sh_sub_c rfl (sh_sub_c rfl (sh_sub_c rfl (sh_sub_n))))) (sl_91_64 (by decide) e tg)
  · refine sh_Lk_lift (T := m.T) (I := m.I) (J := m.J) (s := m.s) (pc2 := 28) (lv2 := [(2, .ref 19), (0, .ref 42), (1, .int x1)]) (st2 := [.int (x1 + 2), .ref 42]) (I2 := m.I) (J2 := m.J) (fun hT v kk => ?_) ?_
    · refine sh_w (i := (.astore_n 2)) (len := 1) (pc2 := 24) (lv2 := [(2, .ref 19), (0, .ref 42), (1, .int x1)]) (st2 := []) (h2 := (sh_rep m.T m.I m.J)) rfl rfl rfl ?_
      refine sh_w (i := (.aload_n 0)) (len := 1) (pc2 := 25) (lv2 := [(2, .ref 19), (0, .ref 42), (1, .int x1)]) (st2 := [.ref 42]) (h2 := (sh_rep m.T m.I m.J)) rfl rfl rfl ?_
      refine sh_w (i := (.iload_n 1)) (len := 1) (pc2 := 26) (lv2 := [(2, .ref 19), (0, .ref 42), (1, .int x1)]) (st2 := [.int x1, .ref 42]) (h2 := (sh_rep m.T m.I m.J)) rfl rfl rfl ?_
      refine sh_w (i := (.iconst 2)) (len := 1) (pc2 := 27) (lv2 := [(2, .ref 19), (0, .ref 42), (1, .int x1)]) (st2 := [.int 2, .int x1, .ref 42]) (h2 := (sh_rep m.T m.I m.J)) rfl rfl rfl ?_
      refine sh_w (i := .iadd) (len := 1) (pc2 := 28) (lv2 := [(2, .ref 19), (0, .ref 42), (1, .int x1)]) (st2 := [.int (x1 + 2), .ref 42]) (h2 := (sh_rep m.T m.I m.J)) rfl rfl rfl ?_
      exact kk
    rcases sh_bt_e e with ⟨m11, e1, rfl⟩ | ⟨r1, m11, e1, e⟩
    · obtain ⟨rfl, rfl⟩ := tg
      exact sh_Lk_tV (k2 := 86) (a := 41) (as := [.ref 42, .int (x1 + 2)]) (rest := []) rfl rfl rfl (fun hT => (sh_s41 hT.st)) rfl rfl ⟨Nat.le_of_ble_eq_true rfl, Nat.le_of_ble_eq_true rfl⟩ (sl_86 e1 ⟨rfl, rfl⟩) rfl (Nat.le_of_ble_eq_true rfl) (Nat.le_of_ble_eq_true rfl) (Nat.le_of_ble_eq_true rfl) (Nat.le_of_ble_eq_true rfl) rfl
    refine sh_Lk_cV (r := (some (.int r1))) (st2 := [.int r1]) (pc2 := 31) (k2 := 86) (a := 41) (as := [.ref 42, .int (x1 + 2)]) (rest := []) rfl rfl rfl (fun hT => (sh_s41 hT.st)) rfl rfl ⟨Nat.le_of_ble_eq_true rfl, Nat.le_of_ble_eq_true rfl⟩ (sl_86 e1 ⟨rfl, rfl⟩) rfl rfl (Nat.le_of_ble_eq_true rfl) (Nat.le_of_ble_eq_true rfl) ?_
    refine sh_Lk_lift (T := m11.T) (I := m11.I) (J := m11.J) (s := m11.s) (pc2 := 43) (lv2 := [(3, .int r1), (2, .ref 19), (0, .ref 42), (1, .int x1)]) (st2 := [.int (x1 + 1), .ref 3, .ref 54]) (I2 := m11.I) (J2 := m11.J) (fun hT v kk => ?_) ?_
    · refine sh_w (i := (.istore_n 3)) (len := 1) (pc2 := 32) (lv2 := [(3, .int r1), (2, .ref 19), (0, .ref 42), (1, .int x1)]) (st2 := []) (h2 := (sh_rep m11.T m11.I m11.J)) rfl rfl rfl ?_
      refine sh_w (i := (.aload_n 0)) (len := 1) (pc2 := 33) (lv2 := [(3, .int r1), (2, .ref 19), (0, .ref 42), (1, .int x1)]) (st2 := [.ref 42]) (h2 := (sh_rep m11.T m11.I m11.J)) rfl rfl rfl ?_
      refine sh_gR1 (len := 3) (x := .ref 54) (pc2 := 36) rfl rfl (sh_s41 hT.st) rfl rfl ?_
      refine sh_w (i := (.aload_n 0)) (len := 1) (pc2 := 37) (lv2 := [(3, .int r1), (2, .ref 19), (0, .ref 42), (1, .int x1)]) (st2 := [.ref 42, .ref 54]) (h2 := (sh_rep m11.T m11.I m11.J)) rfl rfl rfl ?_
      refine sh_gR1 (len := 3) (x := .ref 3) (pc2 := 40) rfl rfl (sh_s41 hT.st) rfl rfl ?_
      refine sh_w (i := (.iload_n 1)) (len := 1) (pc2 := 41) (lv2 := [(3, .int r1), (2, .ref 19), (0, .ref 42), (1, .int x1)]) (st2 := [.int x1, .ref 3, .ref 54]) (h2 := (sh_rep m11.T m11.I m11.J)) rfl rfl rfl ?_
      refine sh_w (i := (.iconst 1)) (len := 1) (pc2 := 42) (lv2 := [(3, .int r1), (2, .ref 19), (0, .ref 42), (1, .int x1)]) (st2 := [.int 1, .int x1, .ref 3, .ref 54]) (h2 := (sh_rep m11.T m11.I m11.J)) rfl rfl rfl ?_
      refine sh_w (i := .iadd) (len := 1) (pc2 := 43) (lv2 := [(3, .int r1), (2, .ref 19), (0, .ref 42), (1, .int x1)]) (st2 := [.int (x1 + 1), .ref 3, .ref 54]) (h2 := (sh_rep m11.T m11.I m11.J)) rfl rfl rfl ?_
      exact kk
    obtain ⟨r2, e2, e⟩ := sh_bc_e e
    refine sh_Lk_cV (r := (some (.int r2))) (st2 := [.int r2, .ref 54]) (pc2 := 46) (k2 := 83) (a := 2) (as := [.ref 3, .int (x1 + 1)]) (rest := [.ref 54]) rfl rfl rfl (fun hT => hT.t2) rfl rfl ⟨Nat.le_of_ble_eq_true rfl, Nat.le_of_ble_eq_true rfl⟩ (sl_83 e2 ⟨rfl, rfl⟩) rfl rfl (Nat.le_of_ble_eq_true rfl) (Nat.le_of_ble_eq_true rfl) ?_
    obtain ⟨r3, e3, e⟩ := sh_bc_e e
    refine sh_Lk_cV (r := (some (.int r3))) (st2 := [.int r3]) (pc2 := 49) (k2 := 92) (a := 53) (as := [.ref 54, .int r2]) (rest := []) rfl rfl rfl (fun hT => (sh_s53 hT.st)) rfl rfl ⟨Nat.le_of_ble_eq_true rfl, Nat.le_of_ble_eq_true rfl⟩ (sl_92 e3 ⟨rfl, rfl⟩) rfl rfl (Nat.le_of_ble_eq_true rfl) (Nat.le_of_ble_eq_true rfl) ?_
    refine sh_Lk_lift (T := m11.T) (I := m11.I) (J := m11.J) (s := m11.s) (pc2 := 50) (lv2 := [(3, .int r1), (2, .ref 19), (0, .ref 42), (1, .int x1)]) (st2 := [.int (-1), .int r3]) (I2 := m11.I) (J2 := m11.J) (fun hT v kk => ?_) ?_
    · refine sh_w (i := (.iconst (-1))) (len := 1) (pc2 := 50) (lv2 := [(3, .int r1), (2, .ref 19), (0, .ref 42), (1, .int x1)]) (st2 := [.int (-1), .int r3]) (h2 := (sh_rep m11.T m11.I m11.J)) rfl rfl rfl ?_
      exact kk
    rcases sh_ite e with ⟨c, e⟩ | ⟨c, e⟩
    · refine sh_Lk_lift (T := m11.T) (I := m11.I) (J := m11.J) (s := m11.s) (pc2 := 64) (lv2 := [(3, .int r1), (2, .ref 19), (0, .ref 42), (1, .int x1)]) (st2 := []) (I2 := m11.I) (J2 := m11.J) (fun hT v kk => ?_) ?_
      · refine sh_jc (c := .eq) (off := (14)) (pc2 := 64) true rfl (sh_Beqt c) rfl ?_
        exact kk
      exact sh_Lk_sub (sh_sub_c rfl (sh_sub_c rfl (sh_sub_c rfl (sh_sub_c rfl (sh_sub_n))))) (sl_91_64 (by decide) e tg)
    · refine sh_Lk_lift (T := m11.T) (I := m11.I) (J := m11.J) (s := m11.s) (pc2 := 61) (lv2 := [(3, .int r1), (2, .ref 19), (0, .ref 42), (1, .int x1)]) (st2 := [.int (x1 + 1), .int 3, .ref 3]) (I2 := m11.I) (J2 := m11.J) (fun hT v kk => ?_) ?_
      · refine sh_jc (c := .eq) (off := (14)) (pc2 := 53) false rfl (sh_Beqf c) rfl ?_
        refine sh_w (i := (.aload_n 0)) (len := 1) (pc2 := 54) (lv2 := [(3, .int r1), (2, .ref 19), (0, .ref 42), (1, .int x1)]) (st2 := [.ref 42]) (h2 := (sh_rep m11.T m11.I m11.J)) rfl rfl rfl ?_
        refine sh_gR1 (len := 3) (x := .ref 3) (pc2 := 57) rfl rfl (sh_s41 hT.st) rfl rfl ?_
        refine sh_w (i := (.iconst 3)) (len := 1) (pc2 := 58) (lv2 := [(3, .int r1), (2, .ref 19), (0, .ref 42), (1, .int x1)]) (st2 := [.int 3, .ref 3]) (h2 := (sh_rep m11.T m11.I m11.J)) rfl rfl rfl ?_
        refine sh_w (i := (.iload_n 1)) (len := 1) (pc2 := 59) (lv2 := [(3, .int r1), (2, .ref 19), (0, .ref 42), (1, .int x1)]) (st2 := [.int x1, .int 3, .ref 3]) (h2 := (sh_rep m11.T m11.I m11.J)) rfl rfl rfl ?_
        refine sh_w (i := (.iconst 1)) (len := 1) (pc2 := 60) (lv2 := [(3, .int r1), (2, .ref 19), (0, .ref 42), (1, .int x1)]) (st2 := [.int 1, .int x1, .int 3, .ref 3]) (h2 := (sh_rep m11.T m11.I m11.J)) rfl rfl rfl ?_
        refine sh_w (i := .iadd) (len := 1) (pc2 := 61) (lv2 := [(3, .int r1), (2, .ref 19), (0, .ref 42), (1, .int x1)]) (st2 := [.int (x1 + 1), .int 3, .ref 3]) (h2 := (sh_rep m11.T m11.I m11.J)) rfl rfl rfl ?_
        exact kk
      rcases sh_bt_e e with ⟨m14, e4, rfl⟩ | ⟨r4, m14, e4, e⟩
      · obtain ⟨rfl, rfl⟩ := tg
        exact sh_Lk_tV (k2 := 50) (a := 2) (as := [.ref 3, .int 3, .int (x1 + 1)]) (rest := []) rfl rfl rfl (fun hT => hT.t2) rfl rfl ⟨Nat.le_of_ble_eq_true rfl, Nat.le_of_ble_eq_true rfl⟩ (sl_50 e4 ⟨rfl, rfl⟩) rfl (Nat.le_of_ble_eq_true rfl) (Nat.le_of_ble_eq_true rfl) (Nat.le_of_ble_eq_true rfl) (Nat.le_of_ble_eq_true rfl) rfl
      refine sh_Lk_cV (r := none) (st2 := []) (pc2 := 64) (k2 := 50) (a := 2) (as := [.ref 3, .int 3, .int (x1 + 1)]) (rest := []) rfl rfl rfl (fun hT => hT.t2) rfl rfl ⟨Nat.le_of_ble_eq_true rfl, Nat.le_of_ble_eq_true rfl⟩ (sl_50 e4 ⟨rfl, rfl⟩) rfl rfl (Nat.le_of_ble_eq_true rfl) (Nat.le_of_ble_eq_true rfl) ?_
      exact sh_Lk_sub (sh_sub_c rfl (sh_sub_c rfl (sh_sub_c rfl (sh_sub_c rfl (sh_sub_n))))) (sl_91_64 (by decide) e tg)
  · refine sh_Lk_lift (T := m.T) (I := m.I) (J := m.J) (s := m.s) (pc2 := 28) (lv2 := [(2, .ref 24), (0, .ref 42), (1, .int x1)]) (st2 := [.int (x1 + 2), .ref 42]) (I2 := m.I) (J2 := m.J) (fun hT v kk => ?_) ?_
    · refine sh_w (i := (.astore_n 2)) (len := 1) (pc2 := 24) (lv2 := [(2, .ref 24), (0, .ref 42), (1, .int x1)]) (st2 := []) (h2 := (sh_rep m.T m.I m.J)) rfl rfl rfl ?_
      refine sh_w (i := (.aload_n 0)) (len := 1) (pc2 := 25) (lv2 := [(2, .ref 24), (0, .ref 42), (1, .int x1)]) (st2 := [.ref 42]) (h2 := (sh_rep m.T m.I m.J)) rfl rfl rfl ?_
      refine sh_w (i := (.iload_n 1)) (len := 1) (pc2 := 26) (lv2 := [(2, .ref 24), (0, .ref 42), (1, .int x1)]) (st2 := [.int x1, .ref 42]) (h2 := (sh_rep m.T m.I m.J)) rfl rfl rfl ?_
      refine sh_w (i := (.iconst 2)) (len := 1) (pc2 := 27) (lv2 := [(2, .ref 24), (0, .ref 42), (1, .int x1)]) (st2 := [.int 2, .int x1, .ref 42]) (h2 := (sh_rep m.T m.I m.J)) rfl rfl rfl ?_
      refine sh_w (i := .iadd) (len := 1) (pc2 := 28) (lv2 := [(2, .ref 24), (0, .ref 42), (1, .int x1)]) (st2 := [.int (x1 + 2), .ref 42]) (h2 := (sh_rep m.T m.I m.J)) rfl rfl rfl ?_
      exact kk
    rcases sh_bt_e e with ⟨m11, e1, rfl⟩ | ⟨r1, m11, e1, e⟩
    · obtain ⟨rfl, rfl⟩ := tg
      exact sh_Lk_tV (k2 := 86) (a := 41) (as := [.ref 42, .int (x1 + 2)]) (rest := []) rfl rfl rfl (fun hT => (sh_s41 hT.st)) rfl rfl ⟨Nat.le_of_ble_eq_true rfl, Nat.le_of_ble_eq_true rfl⟩ (sl_86 e1 ⟨rfl, rfl⟩) rfl (Nat.le_of_ble_eq_true rfl) (Nat.le_of_ble_eq_true rfl) (Nat.le_of_ble_eq_true rfl) (Nat.le_of_ble_eq_true rfl) rfl
    refine sh_Lk_cV (r := (some (.int r1))) (st2 := [.int r1]) (pc2 := 31) (k2 := 86) (a := 41) (as := [.ref 42, .int (x1 + 2)]) (rest := []) rfl rfl rfl (fun hT => (sh_s41 hT.st)) rfl rfl ⟨Nat.le_of_ble_eq_true rfl, Nat.le_of_ble_eq_true rfl⟩ (sl_86 e1 ⟨rfl, rfl⟩) rfl rfl (Nat.le_of_ble_eq_true rfl) (Nat.le_of_ble_eq_true rfl) ?_
    refine sh_Lk_lift (T := m11.T) (I := m11.I) (J := m11.J) (s := m11.s) (pc2 := 43) (lv2 := [(3, .int r1), (2, .ref 24), (0, .ref 42), (1, .int x1)]) (st2 := [.int (x1 + 1), .ref 3, .ref 54]) (I2 := m11.I) (J2 := m11.J) (fun hT v kk => ?_) ?_
    · refine sh_w (i := (.istore_n 3)) (len := 1) (pc2 := 32) (lv2 := [(3, .int r1), (2, .ref 24), (0, .ref 42), (1, .int x1)]) (st2 := []) (h2 := (sh_rep m11.T m11.I m11.J)) rfl rfl rfl ?_
      refine sh_w (i := (.aload_n 0)) (len := 1) (pc2 := 33) (lv2 := [(3, .int r1), (2, .ref 24), (0, .ref 42), (1, .int x1)]) (st2 := [.ref 42]) (h2 := (sh_rep m11.T m11.I m11.J)) rfl rfl rfl ?_
      refine sh_gR1 (len := 3) (x := .ref 54) (pc2 := 36) rfl rfl (sh_s41 hT.st) rfl rfl ?_
      refine sh_w (i := (.aload_n 0)) (len := 1) (pc2 := 37) (lv2 := [(3, .int r1), (2, .ref 24), (0, .ref 42), (1, .int x1)]) (st2 := [.ref 42, .ref 54]) (h2 := (sh_rep m11.T m11.I m11.J)) rfl rfl rfl ?_
      refine sh_gR1 (len := 3) (x := .ref 3) (pc2 := 40) rfl rfl (sh_s41 hT.st) rfl rfl ?_
      refine sh_w (i := (.iload_n 1)) (len := 1) (pc2 := 41) (lv2 := [(3, .int r1), (2, .ref 24), (0, .ref 42), (1, .int x1)]) (st2 := [.int x1, .ref 3, .ref 54]) (h2 := (sh_rep m11.T m11.I m11.J)) rfl rfl rfl ?_
      refine sh_w (i := (.iconst 1)) (len := 1) (pc2 := 42) (lv2 := [(3, .int r1), (2, .ref 24), (0, .ref 42), (1, .int x1)]) (st2 := [.int 1, .int x1, .ref 3, .ref 54]) (h2 := (sh_rep m11.T m11.I m11.J)) rfl rfl rfl ?_
      refine sh_w (i := .iadd) (len := 1) (pc2 := 43) (lv2 := [(3, .int r1), (2, .ref 24), (0, .ref 42), (1, .int x1)]) (st2 := [.int (x1 + 1), .ref 3, .ref 54]) (h2 := (sh_rep m11.T m11.I m11.J)) rfl rfl rfl ?_
      exact kk
    obtain ⟨r2, e2, e⟩ := sh_bc_e e
    refine sh_Lk_cV (r := (some (.int r2))) (st2 := [.int r2, .ref 54]) (pc2 := 46) (k2 := 83) (a := 2) (as := [.ref 3, .int (x1 + 1)]) (rest := [.ref 54]) rfl rfl rfl (fun hT => hT.t2) rfl rfl ⟨Nat.le_of_ble_eq_true rfl, Nat.le_of_ble_eq_true rfl⟩ (sl_83 e2 ⟨rfl, rfl⟩) rfl rfl (Nat.le_of_ble_eq_true rfl) (Nat.le_of_ble_eq_true rfl) ?_
    obtain ⟨r3, e3, e⟩ := sh_bc_e e
    refine sh_Lk_cV (r := (some (.int r3))) (st2 := [.int r3]) (pc2 := 49) (k2 := 92) (a := 53) (as := [.ref 54, .int r2]) (rest := []) rfl rfl rfl (fun hT => (sh_s53 hT.st)) rfl rfl ⟨Nat.le_of_ble_eq_true rfl, Nat.le_of_ble_eq_true rfl⟩ (sl_92 e3 ⟨rfl, rfl⟩) rfl rfl (Nat.le_of_ble_eq_true rfl) (Nat.le_of_ble_eq_true rfl) ?_
    refine sh_Lk_lift (T := m11.T) (I := m11.I) (J := m11.J) (s := m11.s) (pc2 := 50) (lv2 := [(3, .int r1), (2, .ref 24), (0, .ref 42), (1, .int x1)]) (st2 := [.int (-1), .int r3]) (I2 := m11.I) (J2 := m11.J) (fun hT v kk => ?_) ?_
    · refine sh_w (i := (.iconst (-1))) (len := 1) (pc2 := 50) (lv2 := [(3, .int r1), (2, .ref 24), (0, .ref 42), (1, .int x1)]) (st2 := [.int (-1), .int r3]) (h2 := (sh_rep m11.T m11.I m11.J)) rfl rfl rfl ?_
      exact kk
    rcases sh_ite e with ⟨c, e⟩ | ⟨c, e⟩
    · refine sh_Lk_lift (T := m11.T) (I := m11.I) (J := m11.J) (s := m11.s) (pc2 := 64) (lv2 := [(3, .int r1), (2, .ref 24), (0, .ref 42), (1, .int x1)]) (st2 := []) (I2 := m11.I) (J2 := m11.J) (fun hT v kk => ?_) ?_
      · refine sh_jc (c := .eq) (off := (14)) (pc2 := 64) true rfl (sh_Beqt c) rfl ?_
        exact kk
      exact sh_Lk_sub (sh_sub_c rfl (sh_sub_c rfl (sh_sub_c rfl (sh_sub_c rfl (sh_sub_n))))) (sl_91_64 (by decide) e tg)
    · refine sh_Lk_lift (T := m11.T) (I := m11.I) (J := m11.J) (s := m11.s) (pc2 := 61) (lv2 := [(3, .int r1), (2, .ref 24), (0, .ref 42), (1, .int x1)]) (st2 := [.int (x1 + 1), .int 3, .ref 3]) (I2 := m11.I) (J2 := m11.J) (fun hT v kk => ?_) ?_
      · refine sh_jc (c := .eq) (off := (14)) (pc2 := 53) false rfl (sh_Beqf c) rfl ?_
        refine sh_w (i := (.aload_n 0)) (len := 1) (pc2 := 54) (lv2 := [(3, .int r1), (2, .ref 24), (0, .ref 42), (1, .int x1)]) (st2 := [.ref 42]) (h2 := (sh_rep m11.T m11.I m11.J)) rfl rfl rfl ?_
        refine sh_gR1 (len := 3) (x := .ref 3) (pc2 := 57) rfl rfl (sh_s41 hT.st) rfl rfl ?_
        refine sh_w (i := (.iconst 3)) (len := 1) (pc2 := 58) (lv2 := [(3, .int r1), (2, .ref 24), (0, .ref 42), (1, .int x1)]) (st2 := [.int 3, .ref 3]) (h2 := (sh_rep m11.T m11.I m11.J)) rfl rfl rfl ?_
        refine sh_w (i := (.iload_n 1)) (len := 1) (pc2 := 59) (lv2 := [(3, .int r1), (2, .ref 24), (0, .ref 42), (1, .int x1)]) (st2 := [.int x1, .int 3, .ref 3]) (h2 := (sh_rep m11.T m11.I m11.J)) rfl rfl rfl ?_
        refine sh_w (i := (.iconst 1)) (len := 1) (pc2 := 60) (lv2 := [(3, .int r1), (2, .ref 24), (0, .ref 42), (1, .int x1)]) (st2 := [.int 1, .int x1, .int 3, .ref 3]) (h2 := (sh_rep m11.T m11.I m11.J)) rfl rfl rfl ?_
        refine sh_w (i := .iadd) (len := 1) (pc2 := 61) (lv2 := [(3, .int r1), (2, .ref 24), (0, .ref 42), (1, .int x1)]) (st2 := [.int (x1 + 1), .int 3, .ref 3]) (h2 := (sh_rep m11.T m11.I m11.J)) rfl rfl rfl ?_
        exact kk
      rcases sh_bt_e e with ⟨m14, e4, rfl⟩ | ⟨r4, m14, e4, e⟩
      · obtain ⟨rfl, rfl⟩ := tg
        exact sh_Lk_tV (k2 := 50) (a := 2) (as := [.ref 3, .int 3, .int (x1 + 1)]) (rest := []) rfl rfl rfl (fun hT => hT.t2) rfl rfl ⟨Nat.le_of_ble_eq_true rfl, Nat.le_of_ble_eq_true rfl⟩ (sl_50 e4 ⟨rfl, rfl⟩) rfl (Nat.le_of_ble_eq_true rfl) (Nat.le_of_ble_eq_true rfl) (Nat.le_of_ble_eq_true rfl) (Nat.le_of_ble_eq_true rfl) rfl
      refine sh_Lk_cV (r := none) (st2 := []) (pc2 := 64) (k2 := 50) (a := 2) (as := [.ref 3, .int 3, .int (x1 + 1)]) (rest := []) rfl rfl rfl (fun hT => hT.t2) rfl rfl ⟨Nat.le_of_ble_eq_true rfl, Nat.le_of_ble_eq_true rfl⟩ (sl_50 e4 ⟨rfl, rfl⟩) rfl rfl (Nat.le_of_ble_eq_true rfl) (Nat.le_of_ble_eq_true rfl) ?_
      exact sh_Lk_sub (sh_sub_c rfl (sh_sub_c rfl (sh_sub_c rfl (sh_sub_c rfl (sh_sub_n))))) (sl_91_64 (by decide) e tg)
theorem sl_91 {x1 : Int32} {m m2 : sh_X} {o : Outcome} {z : (Option Unit × sh_X)} (e : sf_91 x1 m = some z) (tg : (sh_tVt o m2) z) : sh_Lk 91 0 [(0, .ref 42), (1, .int x1)] [] m o m2 13 309 := by
  unfold sf_91 at e
  refine sh_Lk_lift (T := m.T) (I := m.I) (J := m.J) (s := m.s) (pc2 := 5) (lv2 := [(0, .ref 42), (1, .int x1)]) (st2 := [.int x1, .ref 3]) (I2 := m.I) (J2 := m.J) (fun hT v kk => ?_) ?_
  · refine sh_w (i := (.aload_n 0)) (len := 1) (pc2 := 1) (lv2 := [(0, .ref 42), (1, .int x1)]) (st2 := [.ref 42]) (h2 := (sh_rep m.T m.I m.J)) rfl rfl rfl ?_
    refine sh_gR1 (len := 3) (x := .ref 3) (pc2 := 4) rfl rfl (sh_s41 hT.st) rfl rfl ?_
    refine sh_w (i := (.iload_n 1)) (len := 1) (pc2 := 5) (lv2 := [(0, .ref 42), (1, .int x1)]) (st2 := [.int x1, .ref 3]) (h2 := (sh_rep m.T m.I m.J)) rfl rfl rfl ?_
    exact kk
  obtain ⟨r1, e1, e⟩ := sh_bc_e e
  refine sh_Lk_cV (r := (some (.int r1))) (st2 := [.int r1]) (pc2 := 8) (k2 := 46) (a := 2) (as := [.ref 3, .int x1]) (rest := []) rfl rfl rfl (fun hT => hT.t2) rfl rfl ⟨Nat.le_of_ble_eq_true rfl, Nat.le_of_ble_eq_true rfl⟩ (sl_46 e1 ⟨rfl, rfl⟩) rfl rfl (Nat.le_of_ble_eq_true rfl) (Nat.le_of_ble_eq_true rfl) ?_
  refine sh_Lk_lift (T := m.T) (I := m.I) (J := m.J) (s := m.s) (pc2 := 9) (lv2 := [(0, .ref 42), (1, .int x1)]) (st2 := [.int 4, .int r1]) (I2 := m.I) (J2 := m.J) (fun hT v kk => ?_) ?_
  · refine sh_w (i := (.iconst 4)) (len := 1) (pc2 := 9) (lv2 := [(0, .ref 42), (1, .int x1)]) (st2 := [.int 4, .int r1]) (h2 := (sh_rep m.T m.I m.J)) rfl rfl rfl ?_
    exact kk
  rcases sh_ite e with ⟨c, e⟩ | ⟨c, e⟩
  · refine sh_Lk_lift (T := m.T) (I := m.I) (J := m.J) (s := m.s) (pc2 := 23) (lv2 := [(0, .ref 42), (1, .int x1)]) (st2 := [.ref 14]) (I2 := m.I) (J2 := m.J) (fun hT v kk => ?_) ?_
    · refine sh_jc (c := .ne) (off := (10)) (pc2 := 12) false rfl (sh_Bnef c) rfl ?_
      refine sh_w (i := (.aload_n 0)) (len := 1) (pc2 := 13) (lv2 := [(0, .ref 42), (1, .int x1)]) (st2 := [.ref 42]) (h2 := (sh_rep m.T m.I m.J)) rfl rfl rfl ?_
      refine sh_gR1 (len := 3) (x := .ref 14) (pc2 := 16) rfl rfl (sh_s41 hT.st) rfl rfl ?_
      refine sh_w (i := (.goto 7)) (len := 3) (pc2 := 23) (lv2 := [(0, .ref 42), (1, .int x1)]) (st2 := [.ref 14]) (h2 := (sh_rep m.T m.I m.J)) rfl rfl rfl ?_
      exact kk
    exact sh_Lk_sub (sh_sub_c rfl (sh_sub_c rfl (sh_sub_n))) (sl_91_23 (by decide) e tg)
  · refine sh_Lk_lift (T := m.T) (I := m.I) (J := m.J) (s := m.s) (pc2 := 23) (lv2 := [(0, .ref 42), (1, .int x1)]) (st2 := [.ref 19]) (I2 := m.I) (J2 := m.J) (fun hT v kk => ?_) ?_
    · refine sh_jc (c := .ne) (off := (10)) (pc2 := 19) true rfl (sh_Bnet c) rfl ?_
      refine sh_w (i := (.aload_n 0)) (len := 1) (pc2 := 20) (lv2 := [(0, .ref 42), (1, .int x1)]) (st2 := [.ref 42]) (h2 := (sh_rep m.T m.I m.J)) rfl rfl rfl ?_
      refine sh_gR1 (len := 3) (x := .ref 19) (pc2 := 23) rfl rfl (sh_s41 hT.st) rfl rfl ?_
      exact kk
    exact sh_Lk_sub (sh_sub_c rfl (sh_sub_c rfl (sh_sub_n))) (sl_91_23 (by decide) e tg)
theorem sl_109 {x1 : Int32} {m m2 : sh_X} {o : Outcome} {z : Bool} (e : sf_109 x1 m = some z) (tg : (sh_tZc m o m2) z) : sh_Lk 109 0 [(0, .ref 49), (1, .int x1)] [] m o m2 8 200 := by
  unfold sf_109 at e
  refine sh_Lk_lift (T := m.T) (I := m.I) (J := m.J) (s := m.s) (pc2 := 1) (lv2 := [(0, .ref 49), (1, .int x1)]) (st2 := [.int x1]) (I2 := m.I) (J2 := m.J) (fun hT v kk => ?_) ?_
  · refine sh_w (i := (.iload_n 1)) (len := 1) (pc2 := 1) (lv2 := [(0, .ref 49), (1, .int x1)]) (st2 := [.int x1]) (h2 := (sh_rep m.T m.I m.J)) rfl rfl rfl ?_
    exact kk
  rcases sh_ite e with ⟨c, e⟩ | ⟨c, e⟩
  · refine sh_Lk_lift (T := m.T) (I := m.I) (J := m.J) (s := m.s) (pc2 := 17) (lv2 := [(0, .ref 49), (1, .int x1)]) (st2 := [.int 0]) (I2 := m.I) (J2 := m.J) (fun hT v kk => ?_) ?_
    · refine sh_j0 (c := .lt) (off := (15)) (pc2 := 16) true rfl (sh_Bltt c) rfl ?_
      refine sh_w (i := (.iconst 0)) (len := 1) (pc2 := 17) (lv2 := [(0, .ref 49), (1, .int x1)]) (st2 := [.int 0]) (h2 := (sh_rep m.T m.I m.J)) rfl rfl rfl ?_
      exact kk
    obtain rfl := Option.some.inj e
    obtain ⟨rfl, rfl⟩ := tg
    exact sh_Lk_ret (i := .ireturn) rfl rfl rfl (Nat.le_of_ble_eq_true rfl) (Nat.le_of_ble_eq_true rfl)
  · refine sh_Lk_lift (T := m.T) (I := m.I) (J := m.J) (s := m.s) (pc2 := 9) (lv2 := [(0, .ref 49), (1, .int x1)]) (st2 := [.int (m.I 48 4), .int x1]) (I2 := m.I) (J2 := m.J) (fun hT v kk => ?_) ?_
    · refine sh_j0 (c := .lt) (off := (15)) (pc2 := 4) false rfl (sh_Bltf c) rfl ?_
      refine sh_w (i := (.iload_n 1)) (len := 1) (pc2 := 5) (lv2 := [(0, .ref 49), (1, .int x1)]) (st2 := [.int x1]) (h2 := (sh_rep m.T m.I m.J)) rfl rfl rfl ?_
      refine sh_w (i := (.aload_n 0)) (len := 1) (pc2 := 6) (lv2 := [(0, .ref 49), (1, .int x1)]) (st2 := [.ref 49, .int x1]) (h2 := (sh_rep m.T m.I m.J)) rfl rfl rfl ?_
      refine sh_gI1 (len := 3) (x := m.I 48 4) (pc2 := 9) rfl rfl (sh_s48 hT.st) rfl rfl rfl ?_
      exact kk
    rcases sh_ite e with ⟨c, e⟩ | ⟨c, e⟩
    · refine sh_Lk_lift (T := m.T) (I := m.I) (J := m.J) (s := m.s) (pc2 := 17) (lv2 := [(0, .ref 49), (1, .int x1)]) (st2 := [.int 1]) (I2 := m.I) (J2 := m.J) (fun hT v kk => ?_) ?_
      · refine sh_jc (c := .ge) (off := (7)) (pc2 := 12) false rfl (sh_Bgef c) rfl ?_
        refine sh_w (i := (.iconst 1)) (len := 1) (pc2 := 13) (lv2 := [(0, .ref 49), (1, .int x1)]) (st2 := [.int 1]) (h2 := (sh_rep m.T m.I m.J)) rfl rfl rfl ?_
        refine sh_w (i := (.goto 4)) (len := 3) (pc2 := 17) (lv2 := [(0, .ref 49), (1, .int x1)]) (st2 := [.int 1]) (h2 := (sh_rep m.T m.I m.J)) rfl rfl rfl ?_
        exact kk
      obtain rfl := Option.some.inj e
      obtain ⟨rfl, rfl⟩ := tg
      exact sh_Lk_ret (i := .ireturn) rfl rfl rfl (Nat.le_of_ble_eq_true rfl) (Nat.le_of_ble_eq_true rfl)
    · refine sh_Lk_lift (T := m.T) (I := m.I) (J := m.J) (s := m.s) (pc2 := 17) (lv2 := [(0, .ref 49), (1, .int x1)]) (st2 := [.int 0]) (I2 := m.I) (J2 := m.J) (fun hT v kk => ?_) ?_
      · refine sh_jc (c := .ge) (off := (7)) (pc2 := 16) true rfl (sh_Bget c) rfl ?_
        refine sh_w (i := (.iconst 0)) (len := 1) (pc2 := 17) (lv2 := [(0, .ref 49), (1, .int x1)]) (st2 := [.int 0]) (h2 := (sh_rep m.T m.I m.J)) rfl rfl rfl ?_
        exact kk
      obtain rfl := Option.some.inj e
      obtain ⟨rfl, rfl⟩ := tg
      exact sh_Lk_ret (i := .ireturn) rfl rfl rfl (Nat.le_of_ble_eq_true rfl) (Nat.le_of_ble_eq_true rfl)
theorem sl_108 {x1 : Int32} {m m2 : sh_X} {o : Outcome} {z : Int32} (e : sf_108 x1 m = some z) (tg : (sh_tIc m o m2) z) : sh_Lk 108 0 [(0, .ref 49), (1, .int x1)] [] m o m2 9 221 := by
  unfold sf_108 at e
  refine sh_Lk_lift (T := m.T) (I := m.I) (J := m.J) (s := m.s) (pc2 := 2) (lv2 := [(0, .ref 49), (1, .int x1)]) (st2 := [.int x1, .ref 49]) (I2 := m.I) (J2 := m.J) (fun hT v kk => ?_) ?_
  · refine sh_w (i := (.aload_n 0)) (len := 1) (pc2 := 1) (lv2 := [(0, .ref 49), (1, .int x1)]) (st2 := [.ref 49]) (h2 := (sh_rep m.T m.I m.J)) rfl rfl rfl ?_
    refine sh_w (i := (.iload_n 1)) (len := 1) (pc2 := 2) (lv2 := [(0, .ref 49), (1, .int x1)]) (st2 := [.int x1, .ref 49]) (h2 := (sh_rep m.T m.I m.J)) rfl rfl rfl ?_
    exact kk
  obtain ⟨r1, e1, e⟩ := sh_bc_e e
  refine sh_Lk_cV (r := (some (.int (sh_b2 r1)))) (st2 := [.int (sh_b2 r1)]) (pc2 := 5) (k2 := 109) (a := 48) (as := [.ref 49, .int x1]) (rest := []) rfl rfl rfl (fun hT => (sh_s48 hT.st)) rfl rfl ⟨Nat.le_of_ble_eq_true rfl, Nat.le_of_ble_eq_true rfl⟩ (sl_109 e1 ⟨rfl, rfl⟩) rfl rfl (Nat.le_of_ble_eq_true rfl) (Nat.le_of_ble_eq_true rfl) ?_
  rcases sh_ite e with ⟨c, e⟩ | ⟨c, e⟩
  · refine sh_Lk_lift (T := m.T) (I := m.I) (J := m.J) (s := m.s) (pc2 := 13) (lv2 := [(0, .ref 49), (1, .int x1)]) (st2 := [.int x1, .ref 50]) (I2 := m.I) (J2 := m.J) (fun hT v kk => ?_) ?_
    · refine sh_j0 (c := .eq) (off := (12)) (pc2 := 8) false rfl (sh_Zeqf c) rfl ?_
      refine sh_w (i := (.aload_n 0)) (len := 1) (pc2 := 9) (lv2 := [(0, .ref 49), (1, .int x1)]) (st2 := [.ref 49]) (h2 := (sh_rep m.T m.I m.J)) rfl rfl rfl ?_
      refine sh_gR1 (len := 3) (x := .ref 50) (pc2 := 12) rfl rfl (sh_s48 hT.st) rfl rfl ?_
      refine sh_w (i := (.iload_n 1)) (len := 1) (pc2 := 13) (lv2 := [(0, .ref 49), (1, .int x1)]) (st2 := [.int x1, .ref 50]) (h2 := (sh_rep m.T m.I m.J)) rfl rfl rfl ?_
      exact kk
    obtain ⟨c, e⟩ := sh_gd e
    refine sh_Lk_lift (T := m.T) (I := m.I) (J := m.J) (s := m.s) (pc2 := 18) (lv2 := [(0, .ref 49), (1, .int x1)]) (st2 := [.int (m.I 49 (Int32.toNatClampNeg x1))]) (I2 := m.I) (J2 := m.J) (fun hT v kk => ?_) ?_
    · refine sh_ia1 (x := m.I 49 (Int32.toNatClampNeg x1)) (pc2 := 14) rfl (sh_s49 hT.st) (sh_okb1 c) (sh_okb2 c) rfl rfl ?_
      refine sh_w (i := (.goto 4)) (len := 3) (pc2 := 18) (lv2 := [(0, .ref 49), (1, .int x1)]) (st2 := [.int (m.I 49 (Int32.toNatClampNeg x1))]) (h2 := (sh_rep m.T m.I m.J)) rfl rfl rfl ?_
      exact kk
    obtain rfl := Option.some.inj e
    obtain ⟨rfl, rfl⟩ := tg
    exact sh_Lk_ret (i := .ireturn) rfl rfl rfl (Nat.le_of_ble_eq_true rfl) (Nat.le_of_ble_eq_true rfl)
  · refine sh_Lk_lift (T := m.T) (I := m.I) (J := m.J) (s := m.s) (pc2 := 18) (lv2 := [(0, .ref 49), (1, .int x1)]) (st2 := [.int 0]) (I2 := m.I) (J2 := m.J) (fun hT v kk => ?_) ?_
    · refine sh_j0 (c := .eq) (off := (12)) (pc2 := 17) true rfl (sh_Zeqt c) rfl ?_
      refine sh_w (i := (.iconst 0)) (len := 1) (pc2 := 18) (lv2 := [(0, .ref 49), (1, .int x1)]) (st2 := [.int 0]) (h2 := (sh_rep m.T m.I m.J)) rfl rfl rfl ?_
      exact kk
    obtain rfl := Option.some.inj e
    obtain ⟨rfl, rfl⟩ := tg
    exact sh_Lk_ret (i := .ireturn) rfl rfl rfl (Nat.le_of_ble_eq_true rfl) (Nat.le_of_ble_eq_true rfl)
theorem sl_110 {x1 : Int32} {m m2 : sh_X} {o : Outcome} {z : Int32} (e : sf_110 x1 m = some z) (tg : (sh_tIc m o m2) z) : sh_Lk 110 0 [(0, .ref 49), (1, .int x1)] [] m o m2 9 221 := by
  unfold sf_110 at e
  refine sh_Lk_lift (T := m.T) (I := m.I) (J := m.J) (s := m.s) (pc2 := 2) (lv2 := [(0, .ref 49), (1, .int x1)]) (st2 := [.int x1, .ref 49]) (I2 := m.I) (J2 := m.J) (fun hT v kk => ?_) ?_
  · refine sh_w (i := (.aload_n 0)) (len := 1) (pc2 := 1) (lv2 := [(0, .ref 49), (1, .int x1)]) (st2 := [.ref 49]) (h2 := (sh_rep m.T m.I m.J)) rfl rfl rfl ?_
    refine sh_w (i := (.iload_n 1)) (len := 1) (pc2 := 2) (lv2 := [(0, .ref 49), (1, .int x1)]) (st2 := [.int x1, .ref 49]) (h2 := (sh_rep m.T m.I m.J)) rfl rfl rfl ?_
    exact kk
  obtain ⟨r1, e1, e⟩ := sh_bc_e e
  refine sh_Lk_cV (r := (some (.int (sh_b2 r1)))) (st2 := [.int (sh_b2 r1)]) (pc2 := 5) (k2 := 109) (a := 48) (as := [.ref 49, .int x1]) (rest := []) rfl rfl rfl (fun hT => (sh_s48 hT.st)) rfl rfl ⟨Nat.le_of_ble_eq_true rfl, Nat.le_of_ble_eq_true rfl⟩ (sl_109 e1 ⟨rfl, rfl⟩) rfl rfl (Nat.le_of_ble_eq_true rfl) (Nat.le_of_ble_eq_true rfl) ?_
  rcases sh_ite e with ⟨c, e⟩ | ⟨c, e⟩
  · refine sh_Lk_lift (T := m.T) (I := m.I) (J := m.J) (s := m.s) (pc2 := 13) (lv2 := [(0, .ref 49), (1, .int x1)]) (st2 := [.int x1, .ref 53]) (I2 := m.I) (J2 := m.J) (fun hT v kk => ?_) ?_
    · refine sh_j0 (c := .eq) (off := (12)) (pc2 := 8) false rfl (sh_Zeqf c) rfl ?_
      refine sh_w (i := (.aload_n 0)) (len := 1) (pc2 := 9) (lv2 := [(0, .ref 49), (1, .int x1)]) (st2 := [.ref 49]) (h2 := (sh_rep m.T m.I m.J)) rfl rfl rfl ?_
      refine sh_gR1 (len := 3) (x := .ref 53) (pc2 := 12) rfl rfl (sh_s48 hT.st) rfl rfl ?_
      refine sh_w (i := (.iload_n 1)) (len := 1) (pc2 := 13) (lv2 := [(0, .ref 49), (1, .int x1)]) (st2 := [.int x1, .ref 53]) (h2 := (sh_rep m.T m.I m.J)) rfl rfl rfl ?_
      exact kk
    obtain ⟨c, e⟩ := sh_gd e
    refine sh_Lk_lift (T := m.T) (I := m.I) (J := m.J) (s := m.s) (pc2 := 18) (lv2 := [(0, .ref 49), (1, .int x1)]) (st2 := [.int (m.I 52 (Int32.toNatClampNeg x1))]) (I2 := m.I) (J2 := m.J) (fun hT v kk => ?_) ?_
    · refine sh_ia1 (x := m.I 52 (Int32.toNatClampNeg x1)) (pc2 := 14) rfl (sh_s52 hT.st) (sh_okb1 c) (sh_okb2 c) rfl rfl ?_
      refine sh_w (i := (.goto 4)) (len := 3) (pc2 := 18) (lv2 := [(0, .ref 49), (1, .int x1)]) (st2 := [.int (m.I 52 (Int32.toNatClampNeg x1))]) (h2 := (sh_rep m.T m.I m.J)) rfl rfl rfl ?_
      exact kk
    obtain rfl := Option.some.inj e
    obtain ⟨rfl, rfl⟩ := tg
    exact sh_Lk_ret (i := .ireturn) rfl rfl rfl (Nat.le_of_ble_eq_true rfl) (Nat.le_of_ble_eq_true rfl)
  · refine sh_Lk_lift (T := m.T) (I := m.I) (J := m.J) (s := m.s) (pc2 := 18) (lv2 := [(0, .ref 49), (1, .int x1)]) (st2 := [.int 0]) (I2 := m.I) (J2 := m.J) (fun hT v kk => ?_) ?_
    · refine sh_j0 (c := .eq) (off := (12)) (pc2 := 17) true rfl (sh_Zeqt c) rfl ?_
      refine sh_w (i := (.iconst 0)) (len := 1) (pc2 := 18) (lv2 := [(0, .ref 49), (1, .int x1)]) (st2 := [.int 0]) (h2 := (sh_rep m.T m.I m.J)) rfl rfl rfl ?_
      exact kk
    obtain rfl := Option.some.inj e
    obtain ⟨rfl, rfl⟩ := tg
    exact sh_Lk_ret (i := .ireturn) rfl rfl rfl (Nat.le_of_ble_eq_true rfl) (Nat.le_of_ble_eq_true rfl)
theorem sl_111 {x1 : Int32} {m m2 : sh_X} {o : Outcome} {z : Int64} (e : sf_111 x1 m = some z) (tg : (sh_tJc m o m2) z) : sh_Lk 111 0 [(0, .ref 49), (1, .int x1)] [] m o m2 9 221 := by
  unfold sf_111 at e
  refine sh_Lk_lift (T := m.T) (I := m.I) (J := m.J) (s := m.s) (pc2 := 2) (lv2 := [(0, .ref 49), (1, .int x1)]) (st2 := [.int x1, .ref 49]) (I2 := m.I) (J2 := m.J) (fun hT v kk => ?_) ?_
  · refine sh_w (i := (.aload_n 0)) (len := 1) (pc2 := 1) (lv2 := [(0, .ref 49), (1, .int x1)]) (st2 := [.ref 49]) (h2 := (sh_rep m.T m.I m.J)) rfl rfl rfl ?_
    refine sh_w (i := (.iload_n 1)) (len := 1) (pc2 := 2) (lv2 := [(0, .ref 49), (1, .int x1)]) (st2 := [.int x1, .ref 49]) (h2 := (sh_rep m.T m.I m.J)) rfl rfl rfl ?_
    exact kk
  obtain ⟨r1, e1, e⟩ := sh_bc_e e
  refine sh_Lk_cV (r := (some (.int (sh_b2 r1)))) (st2 := [.int (sh_b2 r1)]) (pc2 := 5) (k2 := 109) (a := 48) (as := [.ref 49, .int x1]) (rest := []) rfl rfl rfl (fun hT => (sh_s48 hT.st)) rfl rfl ⟨Nat.le_of_ble_eq_true rfl, Nat.le_of_ble_eq_true rfl⟩ (sl_109 e1 ⟨rfl, rfl⟩) rfl rfl (Nat.le_of_ble_eq_true rfl) (Nat.le_of_ble_eq_true rfl) ?_
  rcases sh_ite e with ⟨c, e⟩ | ⟨c, e⟩
  · refine sh_Lk_lift (T := m.T) (I := m.I) (J := m.J) (s := m.s) (pc2 := 13) (lv2 := [(0, .ref 49), (1, .int x1)]) (st2 := [.int x1, .ref 52]) (I2 := m.I) (J2 := m.J) (fun hT v kk => ?_) ?_
    · refine sh_j0 (c := .eq) (off := (12)) (pc2 := 8) false rfl (sh_Zeqf c) rfl ?_
      refine sh_w (i := (.aload_n 0)) (len := 1) (pc2 := 9) (lv2 := [(0, .ref 49), (1, .int x1)]) (st2 := [.ref 49]) (h2 := (sh_rep m.T m.I m.J)) rfl rfl rfl ?_
      refine sh_gR1 (len := 3) (x := .ref 52) (pc2 := 12) rfl rfl (sh_s48 hT.st) rfl rfl ?_
      refine sh_w (i := (.iload_n 1)) (len := 1) (pc2 := 13) (lv2 := [(0, .ref 49), (1, .int x1)]) (st2 := [.int x1, .ref 52]) (h2 := (sh_rep m.T m.I m.J)) rfl rfl rfl ?_
      exact kk
    obtain ⟨c, e⟩ := sh_gd e
    refine sh_Lk_lift (T := m.T) (I := m.I) (J := m.J) (s := m.s) (pc2 := 18) (lv2 := [(0, .ref 49), (1, .int x1)]) (st2 := [.long (m.J 51 (Int32.toNatClampNeg x1))]) (I2 := m.I) (J2 := m.J) (fun hT v kk => ?_) ?_
    · refine sh_la1 (x := m.J 51 (Int32.toNatClampNeg x1)) (pc2 := 14) rfl (sh_s51 hT.st) (sh_okb1 c) (sh_okb2 c) rfl rfl ?_
      refine sh_w (i := (.goto 4)) (len := 3) (pc2 := 18) (lv2 := [(0, .ref 49), (1, .int x1)]) (st2 := [.long (m.J 51 (Int32.toNatClampNeg x1))]) (h2 := (sh_rep m.T m.I m.J)) rfl rfl rfl ?_
      exact kk
    obtain rfl := Option.some.inj e
    obtain ⟨rfl, rfl⟩ := tg
    exact sh_Lk_ret (i := .lreturn) rfl rfl rfl (Nat.le_of_ble_eq_true rfl) (Nat.le_of_ble_eq_true rfl)
  · refine sh_Lk_lift (T := m.T) (I := m.I) (J := m.J) (s := m.s) (pc2 := 18) (lv2 := [(0, .ref 49), (1, .int x1)]) (st2 := [.long 0]) (I2 := m.I) (J2 := m.J) (fun hT v kk => ?_) ?_
    · refine sh_j0 (c := .eq) (off := (12)) (pc2 := 17) true rfl (sh_Zeqt c) rfl ?_
      refine sh_w (i := (.lconst 0)) (len := 1) (pc2 := 18) (lv2 := [(0, .ref 49), (1, .int x1)]) (st2 := [.long 0]) (h2 := (sh_rep m.T m.I m.J)) rfl rfl rfl ?_
      exact kk
    obtain rfl := Option.some.inj e
    obtain ⟨rfl, rfl⟩ := tg
    exact sh_Lk_ret (i := .lreturn) rfl rfl rfl (Nat.le_of_ble_eq_true rfl) (Nat.le_of_ble_eq_true rfl)
theorem sl_113 {x0 : Int32} {m m2 : sh_X} {o : Outcome} {z : Bool} (e : sf_113 x0 = z) (tg : (sh_tZc m o m2) z) : sh_Lk 113 0 [(0, .int x0)] [] m o m2 8 200 := by
  unfold sf_113 at e
  refine sh_Lk_lift (T := m.T) (I := m.I) (J := m.J) (s := m.s) (pc2 := 1) (lv2 := [(0, .int x0)]) (st2 := [.int x0]) (I2 := m.I) (J2 := m.J) (fun hT v kk => ?_) ?_
  · refine sh_w (i := (.iload_n 0)) (len := 1) (pc2 := 1) (lv2 := [(0, .int x0)]) (st2 := [.int x0]) (h2 := (sh_rep m.T m.I m.J)) rfl rfl rfl ?_
    exact kk
  rcases sh_ite e with ⟨c, e⟩ | ⟨c, e⟩
  · refine sh_Lk_lift (T := m.T) (I := m.I) (J := m.J) (s := m.s) (pc2 := 23) (lv2 := [(0, .int x0)]) (st2 := [.int 0]) (I2 := m.I) (J2 := m.J) (fun hT v kk => ?_) ?_
    · refine sh_j0 (c := .eq) (off := (21)) (pc2 := 22) true rfl (sh_Beqt c) rfl ?_
      refine sh_w (i := (.iconst 0)) (len := 1) (pc2 := 23) (lv2 := [(0, .int x0)]) (st2 := [.int 0]) (h2 := (sh_rep m.T m.I m.J)) rfl rfl rfl ?_
      exact kk
    obtain rfl := e
    obtain ⟨rfl, rfl⟩ := tg
    exact sh_Lk_ret (i := .ireturn) rfl rfl rfl (Nat.le_of_ble_eq_true rfl) (Nat.le_of_ble_eq_true rfl)
  · refine sh_Lk_lift (T := m.T) (I := m.I) (J := m.J) (s := m.s) (pc2 := 8) (lv2 := [(0, .int x0)]) (st2 := [.int 257, .int x0]) (I2 := m.I) (J2 := m.J) (fun hT v kk => ?_) ?_
    · refine sh_j0 (c := .eq) (off := (21)) (pc2 := 4) false rfl (sh_Beqf c) rfl ?_
      refine sh_w (i := (.iload_n 0)) (len := 1) (pc2 := 5) (lv2 := [(0, .int x0)]) (st2 := [.int x0]) (h2 := (sh_rep m.T m.I m.J)) rfl rfl rfl ?_
      refine sh_w (i := (.sipush 257)) (len := 3) (pc2 := 8) (lv2 := [(0, .int x0)]) (st2 := [.int 257, .int x0]) (h2 := (sh_rep m.T m.I m.J)) rfl rfl rfl ?_
      exact kk
    rcases sh_ite e with ⟨c, e⟩ | ⟨c, e⟩
    · refine sh_Lk_lift (T := m.T) (I := m.I) (J := m.J) (s := m.s) (pc2 := 23) (lv2 := [(0, .int x0)]) (st2 := [.int 0]) (I2 := m.I) (J2 := m.J) (fun hT v kk => ?_) ?_
      · refine sh_jc (c := .eq) (off := (14)) (pc2 := 22) true rfl (sh_Beqt c) rfl ?_
        refine sh_w (i := (.iconst 0)) (len := 1) (pc2 := 23) (lv2 := [(0, .int x0)]) (st2 := [.int 0]) (h2 := (sh_rep m.T m.I m.J)) rfl rfl rfl ?_
        exact kk
      obtain rfl := e
      obtain ⟨rfl, rfl⟩ := tg
      exact sh_Lk_ret (i := .ireturn) rfl rfl rfl (Nat.le_of_ble_eq_true rfl) (Nat.le_of_ble_eq_true rfl)
    · refine sh_Lk_lift (T := m.T) (I := m.I) (J := m.J) (s := m.s) (pc2 := 15) (lv2 := [(0, .int x0)]) (st2 := [.int 512, .int x0]) (I2 := m.I) (J2 := m.J) (fun hT v kk => ?_) ?_
      · refine sh_jc (c := .eq) (off := (14)) (pc2 := 11) false rfl (sh_Beqf c) rfl ?_
        refine sh_w (i := (.iload_n 0)) (len := 1) (pc2 := 12) (lv2 := [(0, .int x0)]) (st2 := [.int x0]) (h2 := (sh_rep m.T m.I m.J)) rfl rfl rfl ?_
        refine sh_w (i := (.sipush 512)) (len := 3) (pc2 := 15) (lv2 := [(0, .int x0)]) (st2 := [.int 512, .int x0]) (h2 := (sh_rep m.T m.I m.J)) rfl rfl rfl ?_
        exact kk
      rcases sh_ite e with ⟨c, e⟩ | ⟨c, e⟩
      · refine sh_Lk_lift (T := m.T) (I := m.I) (J := m.J) (s := m.s) (pc2 := 23) (lv2 := [(0, .int x0)]) (st2 := [.int 1]) (I2 := m.I) (J2 := m.J) (fun hT v kk => ?_) ?_
        · refine sh_jc (c := .ge) (off := (7)) (pc2 := 18) false rfl (sh_Bgef c) rfl ?_
          refine sh_w (i := (.iconst 1)) (len := 1) (pc2 := 19) (lv2 := [(0, .int x0)]) (st2 := [.int 1]) (h2 := (sh_rep m.T m.I m.J)) rfl rfl rfl ?_
          refine sh_w (i := (.goto 4)) (len := 3) (pc2 := 23) (lv2 := [(0, .int x0)]) (st2 := [.int 1]) (h2 := (sh_rep m.T m.I m.J)) rfl rfl rfl ?_
          exact kk
        obtain rfl := e
        obtain ⟨rfl, rfl⟩ := tg
        exact sh_Lk_ret (i := .ireturn) rfl rfl rfl (Nat.le_of_ble_eq_true rfl) (Nat.le_of_ble_eq_true rfl)
      · refine sh_Lk_lift (T := m.T) (I := m.I) (J := m.J) (s := m.s) (pc2 := 23) (lv2 := [(0, .int x0)]) (st2 := [.int 0]) (I2 := m.I) (J2 := m.J) (fun hT v kk => ?_) ?_
        · refine sh_jc (c := .ge) (off := (7)) (pc2 := 22) true rfl (sh_Bget c) rfl ?_
          refine sh_w (i := (.iconst 0)) (len := 1) (pc2 := 23) (lv2 := [(0, .int x0)]) (st2 := [.int 0]) (h2 := (sh_rep m.T m.I m.J)) rfl rfl rfl ?_
          exact kk
        obtain rfl := e
        obtain ⟨rfl, rfl⟩ := tg
        exact sh_Lk_ret (i := .ireturn) rfl rfl rfl (Nat.le_of_ble_eq_true rfl) (Nat.le_of_ble_eq_true rfl)
theorem sl_114 {x0 : Int32} {m m2 : sh_X} {o : Outcome} {z : Bool} (e : sf_114 x0 = z) (tg : (sh_tZc m o m2) z) : sh_Lk 114 0 [(0, .int x0)] [] m o m2 8 200 := by
  unfold sf_114 at e
  refine sh_Lk_lift (T := m.T) (I := m.I) (J := m.J) (s := m.s) (pc2 := 5) (lv2 := [(0, .int x0)]) (st2 := [.int (x0 &&& 128)]) (I2 := m.I) (J2 := m.J) (fun hT v kk => ?_) ?_
  · refine sh_w (i := (.iload_n 0)) (len := 1) (pc2 := 1) (lv2 := [(0, .int x0)]) (st2 := [.int x0]) (h2 := (sh_rep m.T m.I m.J)) rfl rfl rfl ?_
    refine sh_w (i := (.sipush 128)) (len := 3) (pc2 := 4) (lv2 := [(0, .int x0)]) (st2 := [.int 128, .int x0]) (h2 := (sh_rep m.T m.I m.J)) rfl rfl rfl ?_
    refine sh_w (i := .iand) (len := 1) (pc2 := 5) (lv2 := [(0, .int x0)]) (st2 := [.int (x0 &&& 128)]) (h2 := (sh_rep m.T m.I m.J)) rfl rfl rfl ?_
    exact kk
  rcases sh_ite e with ⟨c, e⟩ | ⟨c, e⟩
  · refine sh_Lk_lift (T := m.T) (I := m.I) (J := m.J) (s := m.s) (pc2 := 13) (lv2 := [(0, .int x0)]) (st2 := [.int 0]) (I2 := m.I) (J2 := m.J) (fun hT v kk => ?_) ?_
    · refine sh_j0 (c := .eq) (off := (7)) (pc2 := 12) true rfl (sh_Beqt c) rfl ?_
      refine sh_w (i := (.iconst 0)) (len := 1) (pc2 := 13) (lv2 := [(0, .int x0)]) (st2 := [.int 0]) (h2 := (sh_rep m.T m.I m.J)) rfl rfl rfl ?_
      exact kk
    obtain rfl := e
    obtain ⟨rfl, rfl⟩ := tg
    exact sh_Lk_ret (i := .ireturn) rfl rfl rfl (Nat.le_of_ble_eq_true rfl) (Nat.le_of_ble_eq_true rfl)
  · refine sh_Lk_lift (T := m.T) (I := m.I) (J := m.J) (s := m.s) (pc2 := 13) (lv2 := [(0, .int x0)]) (st2 := [.int 1]) (I2 := m.I) (J2 := m.J) (fun hT v kk => ?_) ?_
    · refine sh_j0 (c := .eq) (off := (7)) (pc2 := 8) false rfl (sh_Beqf c) rfl ?_
      refine sh_w (i := (.iconst 1)) (len := 1) (pc2 := 9) (lv2 := [(0, .int x0)]) (st2 := [.int 1]) (h2 := (sh_rep m.T m.I m.J)) rfl rfl rfl ?_
      refine sh_w (i := (.goto 4)) (len := 3) (pc2 := 13) (lv2 := [(0, .int x0)]) (st2 := [.int 1]) (h2 := (sh_rep m.T m.I m.J)) rfl rfl rfl ?_
      exact kk
    obtain rfl := e
    obtain ⟨rfl, rfl⟩ := tg
    exact sh_Lk_ret (i := .ireturn) rfl rfl rfl (Nat.le_of_ble_eq_true rfl) (Nat.le_of_ble_eq_true rfl)
theorem sl_112_58 {m m2 : sh_X} {o : Outcome} {z : Bool} (e : sf_112_58 = z) (tg : (sh_tZc m o m2) z) : sh_Lk 112 58 [] [] m o m2 9 220 := by
  unfold sf_112_58 at e
  refine sh_Lk_lift (T := m.T) (I := m.I) (J := m.J) (s := m.s) (pc2 := 63) (lv2 := []) (st2 := [.int 1]) (I2 := m.I) (J2 := m.J) (fun hT v kk => ?_) ?_
  · refine sh_w (i := (.iconst 1)) (len := 1) (pc2 := 59) (lv2 := []) (st2 := [.int 1]) (h2 := (sh_rep m.T m.I m.J)) rfl rfl rfl ?_
    refine sh_w (i := (.goto 4)) (len := 3) (pc2 := 63) (lv2 := []) (st2 := [.int 1]) (h2 := (sh_rep m.T m.I m.J)) rfl rfl rfl ?_
    exact kk
  obtain rfl := e
  obtain ⟨rfl, rfl⟩ := tg
  exact sh_Lk_ret (i := .ireturn) rfl rfl rfl (Nat.le_of_ble_eq_true rfl) (Nat.le_of_ble_eq_true rfl)
theorem sl_112_78 {m m2 : sh_X} {o : Outcome} {z : Bool} (e : sf_112_78 = z) (tg : (sh_tZc m o m2) z) : sh_Lk 112 78 [] [] m o m2 9 220 := by
  unfold sf_112_78 at e
  refine sh_Lk_lift (T := m.T) (I := m.I) (J := m.J) (s := m.s) (pc2 := 83) (lv2 := []) (st2 := [.int 1]) (I2 := m.I) (J2 := m.J) (fun hT v kk => ?_) ?_
  · refine sh_w (i := (.iconst 1)) (len := 1) (pc2 := 79) (lv2 := []) (st2 := [.int 1]) (h2 := (sh_rep m.T m.I m.J)) rfl rfl rfl ?_
    refine sh_w (i := (.goto 4)) (len := 3) (pc2 := 83) (lv2 := []) (st2 := [.int 1]) (h2 := (sh_rep m.T m.I m.J)) rfl rfl rfl ?_
    exact kk
  obtain rfl := e
  obtain ⟨rfl, rfl⟩ := tg
  exact sh_Lk_ret (i := .ireturn) rfl rfl rfl (Nat.le_of_ble_eq_true rfl) (Nat.le_of_ble_eq_true rfl)
theorem sl_112_29 {x0 : Int32} {x1 : Int64} {y0 : Int32} {m m2 : sh_X} {o : Outcome} {z : Bool} (e : sf_112_29 x0 x1 y0 = z) (tg : (sh_tZc m o m2) z) : sh_Lk 112 29 [(0, .int x0), (1, .long x1)] [.int y0] m o m2 9 220 := by
  unfold sf_112_29 at e
  refine sh_Lk_lift (T := m.T) (I := m.I) (J := m.J) (s := m.s) (pc2 := 33) (lv2 := [(3, .int y0), (0, .int x0), (1, .long x1)]) (st2 := [.int (lg_cmp x1 0)]) (I2 := m.I) (J2 := m.J) (fun hT v kk => ?_) ?_
  · refine sh_w (i := (.istore_n 3)) (len := 1) (pc2 := 30) (lv2 := [(3, .int y0), (0, .int x0), (1, .long x1)]) (st2 := []) (h2 := (sh_rep m.T m.I m.J)) rfl rfl rfl ?_
    refine sh_w (i := (.lload_n 1)) (len := 1) (pc2 := 31) (lv2 := [(3, .int y0), (0, .int x0), (1, .long x1)]) (st2 := [.long x1]) (h2 := (sh_rep m.T m.I m.J)) rfl rfl rfl ?_
    refine sh_w (i := (.lconst 0)) (len := 1) (pc2 := 32) (lv2 := [(3, .int y0), (0, .int x0), (1, .long x1)]) (st2 := [.long 0, .long x1]) (h2 := (sh_rep m.T m.I m.J)) rfl rfl rfl ?_
    refine sh_w (i := .lcmp) (len := 1) (pc2 := 33) (lv2 := [(3, .int y0), (0, .int x0), (1, .long x1)]) (st2 := [.int (lg_cmp x1 0)]) (h2 := (sh_rep m.T m.I m.J)) rfl rfl rfl ?_
    exact kk
  rcases sh_ite e with ⟨c, e⟩ | ⟨c, e⟩
  · refine sh_Lk_lift (T := m.T) (I := m.I) (J := m.J) (s := m.s) (pc2 := 37) (lv2 := [(3, .int y0), (0, .int x0), (1, .long x1)]) (st2 := [.int x0]) (I2 := m.I) (J2 := m.J) (fun hT v kk => ?_) ?_
    · refine sh_j0 (c := .ge) (off := (31)) (pc2 := 36) false rfl (sh_Cgef c) rfl ?_
      refine sh_w (i := (.iload_n 0)) (len := 1) (pc2 := 37) (lv2 := [(3, .int y0), (0, .int x0), (1, .long x1)]) (st2 := [.int x0]) (h2 := (sh_rep m.T m.I m.J)) rfl rfl rfl ?_
      exact kk
    refine sh_Lk_cS (r := (some (.int (sh_b2 (sf_114 x0))))) (st2 := [.int (sh_b2 (sf_114 x0))]) (pc2 := 40) (k2 := 114) (as := [.int x0]) (rest := []) rfl rfl (by decide) (Nat.le_of_ble_eq_true rfl) rfl rfl ⟨Nat.le_of_ble_eq_true rfl, Nat.le_of_ble_eq_true rfl⟩ (sl_114 (m := m) rfl ⟨rfl, rfl⟩) rfl rfl (Nat.le_of_ble_eq_true rfl) (Nat.le_of_ble_eq_true rfl) ?_
    rcases sh_ite e with ⟨c, e⟩ | ⟨c, e⟩
    · refine sh_Lk_lift (T := m.T) (I := m.I) (J := m.J) (s := m.s) (pc2 := 46) (lv2 := [(3, .int y0), (0, .int x0), (1, .long x1)]) (st2 := [.int 63, .int y0]) (I2 := m.I) (J2 := m.J) (fun hT v kk => ?_) ?_
      · refine sh_j0 (c := .eq) (off := (22)) (pc2 := 43) false rfl (sh_Zeqf c) rfl ?_
        refine sh_w (i := (.iload_n 3)) (len := 1) (pc2 := 44) (lv2 := [(3, .int y0), (0, .int x0), (1, .long x1)]) (st2 := [.int y0]) (h2 := (sh_rep m.T m.I m.J)) rfl rfl rfl ?_
        refine sh_w (i := (.bipush 63)) (len := 2) (pc2 := 46) (lv2 := [(3, .int y0), (0, .int x0), (1, .long x1)]) (st2 := [.int 63, .int y0]) (h2 := (sh_rep m.T m.I m.J)) rfl rfl rfl ?_
        exact kk
      rcases sh_ite e with ⟨c, e⟩ | ⟨c, e⟩
      · refine sh_Lk_lift (T := m.T) (I := m.I) (J := m.J) (s := m.s) (pc2 := 55) (lv2 := [(3, .int y0), (0, .int x0), (1, .long x1)]) (st2 := [.int (lg_cmp x1 (-((1 : Int64) <<< (Int32.toInt64 y0 &&& 63))))]) (I2 := m.I) (J2 := m.J) (fun hT v kk => ?_) ?_
        · refine sh_jc (c := .ge) (off := (12)) (pc2 := 49) false rfl (sh_Bgef c) rfl ?_
          refine sh_w (i := (.lload_n 1)) (len := 1) (pc2 := 50) (lv2 := [(3, .int y0), (0, .int x0), (1, .long x1)]) (st2 := [.long x1]) (h2 := (sh_rep m.T m.I m.J)) rfl rfl rfl ?_
          refine sh_w (i := (.lconst 1)) (len := 1) (pc2 := 51) (lv2 := [(3, .int y0), (0, .int x0), (1, .long x1)]) (st2 := [.long 1, .long x1]) (h2 := (sh_rep m.T m.I m.J)) rfl rfl rfl ?_
          refine sh_w (i := (.iload_n 3)) (len := 1) (pc2 := 52) (lv2 := [(3, .int y0), (0, .int x0), (1, .long x1)]) (st2 := [.int y0, .long 1, .long x1]) (h2 := (sh_rep m.T m.I m.J)) rfl rfl rfl ?_
          refine sh_w (i := .lshl) (len := 1) (pc2 := 53) (lv2 := [(3, .int y0), (0, .int x0), (1, .long x1)]) (st2 := [.long ((1 : Int64) <<< (Int32.toInt64 y0 &&& 63)), .long x1]) (h2 := (sh_rep m.T m.I m.J)) rfl rfl rfl ?_
          refine sh_w (i := .lneg) (len := 1) (pc2 := 54) (lv2 := [(3, .int y0), (0, .int x0), (1, .long x1)]) (st2 := [.long (-((1 : Int64) <<< (Int32.toInt64 y0 &&& 63))), .long x1]) (h2 := (sh_rep m.T m.I m.J)) rfl rfl rfl ?_
          refine sh_w (i := .lcmp) (len := 1) (pc2 := 55) (lv2 := [(3, .int y0), (0, .int x0), (1, .long x1)]) (st2 := [.int (lg_cmp x1 (-((1 : Int64) <<< (Int32.toInt64 y0 &&& 63))))]) (h2 := (sh_rep m.T m.I m.J)) rfl rfl rfl ?_
          exact kk
        rcases sh_ite e with ⟨c, e⟩ | ⟨c, e⟩
        · refine sh_Lk_lift (T := m.T) (I := m.I) (J := m.J) (s := m.s) (pc2 := 63) (lv2 := [(3, .int y0), (0, .int x0), (1, .long x1)]) (st2 := [.int 0]) (I2 := m.I) (J2 := m.J) (fun hT v kk => ?_) ?_
          · refine sh_j0 (c := .lt) (off := (7)) (pc2 := 62) true rfl (sh_Cltt c) rfl ?_
            refine sh_w (i := (.iconst 0)) (len := 1) (pc2 := 63) (lv2 := [(3, .int y0), (0, .int x0), (1, .long x1)]) (st2 := [.int 0]) (h2 := (sh_rep m.T m.I m.J)) rfl rfl rfl ?_
            exact kk
          obtain rfl := e
          obtain ⟨rfl, rfl⟩ := tg
          exact sh_Lk_ret (i := .ireturn) rfl rfl rfl (Nat.le_of_ble_eq_true rfl) (Nat.le_of_ble_eq_true rfl)
        · refine sh_Lk_lift (T := m.T) (I := m.I) (J := m.J) (s := m.s) (pc2 := 58) (lv2 := [(3, .int y0), (0, .int x0), (1, .long x1)]) (st2 := []) (I2 := m.I) (J2 := m.J) (fun hT v kk => ?_) ?_
          · refine sh_j0 (c := .lt) (off := (7)) (pc2 := 58) false rfl (sh_Cltf c) rfl ?_
            exact kk
          exact sh_Lk_sub (sh_sub_n) (sl_112_58 e tg)
      · refine sh_Lk_lift (T := m.T) (I := m.I) (J := m.J) (s := m.s) (pc2 := 58) (lv2 := [(3, .int y0), (0, .int x0), (1, .long x1)]) (st2 := []) (I2 := m.I) (J2 := m.J) (fun hT v kk => ?_) ?_
        · refine sh_jc (c := .ge) (off := (12)) (pc2 := 58) true rfl (sh_Bget c) rfl ?_
          exact kk
        exact sh_Lk_sub (sh_sub_n) (sl_112_58 e tg)
    · refine sh_Lk_lift (T := m.T) (I := m.I) (J := m.J) (s := m.s) (pc2 := 63) (lv2 := [(3, .int y0), (0, .int x0), (1, .long x1)]) (st2 := [.int 0]) (I2 := m.I) (J2 := m.J) (fun hT v kk => ?_) ?_
      · refine sh_j0 (c := .eq) (off := (22)) (pc2 := 62) true rfl (sh_Zeqt c) rfl ?_
        refine sh_w (i := (.iconst 0)) (len := 1) (pc2 := 63) (lv2 := [(3, .int y0), (0, .int x0), (1, .long x1)]) (st2 := [.int 0]) (h2 := (sh_rep m.T m.I m.J)) rfl rfl rfl ?_
        exact kk
      obtain rfl := e
      obtain ⟨rfl, rfl⟩ := tg
      exact sh_Lk_ret (i := .ireturn) rfl rfl rfl (Nat.le_of_ble_eq_true rfl) (Nat.le_of_ble_eq_true rfl)
  · refine sh_Lk_lift (T := m.T) (I := m.I) (J := m.J) (s := m.s) (pc2 := 67) (lv2 := [(3, .int y0), (0, .int x0), (1, .long x1)]) (st2 := [.int 63, .int y0]) (I2 := m.I) (J2 := m.J) (fun hT v kk => ?_) ?_
    · refine sh_j0 (c := .ge) (off := (31)) (pc2 := 64) true rfl (sh_Cget c) rfl ?_
      refine sh_w (i := (.iload_n 3)) (len := 1) (pc2 := 65) (lv2 := [(3, .int y0), (0, .int x0), (1, .long x1)]) (st2 := [.int y0]) (h2 := (sh_rep m.T m.I m.J)) rfl rfl rfl ?_
      refine sh_w (i := (.bipush 63)) (len := 2) (pc2 := 67) (lv2 := [(3, .int y0), (0, .int x0), (1, .long x1)]) (st2 := [.int 63, .int y0]) (h2 := (sh_rep m.T m.I m.J)) rfl rfl rfl ?_
      exact kk
    rcases sh_ite e with ⟨c, e⟩ | ⟨c, e⟩
    · refine sh_Lk_lift (T := m.T) (I := m.I) (J := m.J) (s := m.s) (pc2 := 75) (lv2 := [(3, .int y0), (0, .int x0), (1, .long x1)]) (st2 := [.int (lg_cmp x1 ((1 : Int64) <<< (Int32.toInt64 y0 &&& 63)))]) (I2 := m.I) (J2 := m.J) (fun hT v kk => ?_) ?_
      · refine sh_jc (c := .ge) (off := (11)) (pc2 := 70) false rfl (sh_Bgef c) rfl ?_
        refine sh_w (i := (.lload_n 1)) (len := 1) (pc2 := 71) (lv2 := [(3, .int y0), (0, .int x0), (1, .long x1)]) (st2 := [.long x1]) (h2 := (sh_rep m.T m.I m.J)) rfl rfl rfl ?_
        refine sh_w (i := (.lconst 1)) (len := 1) (pc2 := 72) (lv2 := [(3, .int y0), (0, .int x0), (1, .long x1)]) (st2 := [.long 1, .long x1]) (h2 := (sh_rep m.T m.I m.J)) rfl rfl rfl ?_
        refine sh_w (i := (.iload_n 3)) (len := 1) (pc2 := 73) (lv2 := [(3, .int y0), (0, .int x0), (1, .long x1)]) (st2 := [.int y0, .long 1, .long x1]) (h2 := (sh_rep m.T m.I m.J)) rfl rfl rfl ?_
        refine sh_w (i := .lshl) (len := 1) (pc2 := 74) (lv2 := [(3, .int y0), (0, .int x0), (1, .long x1)]) (st2 := [.long ((1 : Int64) <<< (Int32.toInt64 y0 &&& 63)), .long x1]) (h2 := (sh_rep m.T m.I m.J)) rfl rfl rfl ?_
        refine sh_w (i := .lcmp) (len := 1) (pc2 := 75) (lv2 := [(3, .int y0), (0, .int x0), (1, .long x1)]) (st2 := [.int (lg_cmp x1 ((1 : Int64) <<< (Int32.toInt64 y0 &&& 63)))]) (h2 := (sh_rep m.T m.I m.J)) rfl rfl rfl ?_
        exact kk
      rcases sh_ite e with ⟨c, e⟩ | ⟨c, e⟩
      · refine sh_Lk_lift (T := m.T) (I := m.I) (J := m.J) (s := m.s) (pc2 := 78) (lv2 := [(3, .int y0), (0, .int x0), (1, .long x1)]) (st2 := []) (I2 := m.I) (J2 := m.J) (fun hT v kk => ?_) ?_
        · refine sh_j0 (c := .ge) (off := (7)) (pc2 := 78) false rfl (sh_Cgef c) rfl ?_
          exact kk
        exact sh_Lk_sub (sh_sub_n) (sl_112_78 e tg)
      · refine sh_Lk_lift (T := m.T) (I := m.I) (J := m.J) (s := m.s) (pc2 := 83) (lv2 := [(3, .int y0), (0, .int x0), (1, .long x1)]) (st2 := [.int 0]) (I2 := m.I) (J2 := m.J) (fun hT v kk => ?_) ?_
        · refine sh_j0 (c := .ge) (off := (7)) (pc2 := 82) true rfl (sh_Cget c) rfl ?_
          refine sh_w (i := (.iconst 0)) (len := 1) (pc2 := 83) (lv2 := [(3, .int y0), (0, .int x0), (1, .long x1)]) (st2 := [.int 0]) (h2 := (sh_rep m.T m.I m.J)) rfl rfl rfl ?_
          exact kk
        obtain rfl := e
        obtain ⟨rfl, rfl⟩ := tg
        exact sh_Lk_ret (i := .ireturn) rfl rfl rfl (Nat.le_of_ble_eq_true rfl) (Nat.le_of_ble_eq_true rfl)
    · refine sh_Lk_lift (T := m.T) (I := m.I) (J := m.J) (s := m.s) (pc2 := 78) (lv2 := [(3, .int y0), (0, .int x0), (1, .long x1)]) (st2 := []) (I2 := m.I) (J2 := m.J) (fun hT v kk => ?_) ?_
      · refine sh_jc (c := .ge) (off := (11)) (pc2 := 78) true rfl (sh_Bget c) rfl ?_
        exact kk
      exact sh_Lk_sub (sh_sub_n) (sl_112_78 e tg)
theorem sl_112 {x0 : Int32} {x1 : Int64} {m m2 : sh_X} {o : Outcome} {z : Bool} (e : sf_112 x0 x1 = z) (tg : (sh_tZc m o m2) z) : sh_Lk 112 0 [(0, .int x0), (1, .long x1)] [] m o m2 9 220 := by
  unfold sf_112 at e
  refine sh_Lk_lift (T := m.T) (I := m.I) (J := m.J) (s := m.s) (pc2 := 1) (lv2 := [(0, .int x0), (1, .long x1)]) (st2 := [.int x0]) (I2 := m.I) (J2 := m.J) (fun hT v kk => ?_) ?_
  · refine sh_w (i := (.iload_n 0)) (len := 1) (pc2 := 1) (lv2 := [(0, .int x0), (1, .long x1)]) (st2 := [.int x0]) (h2 := (sh_rep m.T m.I m.J)) rfl rfl rfl ?_
    exact kk
  refine sh_Lk_cS (r := (some (.int (sh_b2 (sf_113 x0))))) (st2 := [.int (sh_b2 (sf_113 x0))]) (pc2 := 4) (k2 := 113) (as := [.int x0]) (rest := []) rfl rfl (by decide) (Nat.le_of_ble_eq_true rfl) rfl rfl ⟨Nat.le_of_ble_eq_true rfl, Nat.le_of_ble_eq_true rfl⟩ (sl_113 (m := m) rfl ⟨rfl, rfl⟩) rfl rfl (Nat.le_of_ble_eq_true rfl) (Nat.le_of_ble_eq_true rfl) ?_
  rcases sh_ite e with ⟨c, e⟩ | ⟨c, e⟩
  · refine sh_Lk_lift (T := m.T) (I := m.I) (J := m.J) (s := m.s) (pc2 := 10) (lv2 := [(0, .int x0), (1, .long x1)]) (st2 := [.int x0]) (I2 := m.I) (J2 := m.J) (fun hT v kk => ?_) ?_
    · refine sh_j0 (c := .ne) (off := (5)) (pc2 := 9) true rfl (sh_Znet c) rfl ?_
      refine sh_w (i := (.iload_n 0)) (len := 1) (pc2 := 10) (lv2 := [(0, .int x0), (1, .long x1)]) (st2 := [.int x0]) (h2 := (sh_rep m.T m.I m.J)) rfl rfl rfl ?_
      exact kk
    refine sh_Lk_cS (r := (some (.int (sh_b2 (sf_114 x0))))) (st2 := [.int (sh_b2 (sf_114 x0))]) (pc2 := 13) (k2 := 114) (as := [.int x0]) (rest := []) rfl rfl (by decide) (Nat.le_of_ble_eq_true rfl) rfl rfl ⟨Nat.le_of_ble_eq_true rfl, Nat.le_of_ble_eq_true rfl⟩ (sl_114 (m := m) rfl ⟨rfl, rfl⟩) rfl rfl (Nat.le_of_ble_eq_true rfl) (Nat.le_of_ble_eq_true rfl) ?_
    rcases sh_ite e with ⟨c, e⟩ | ⟨c, e⟩
    · refine sh_Lk_lift (T := m.T) (I := m.I) (J := m.J) (s := m.s) (pc2 := 17) (lv2 := [(0, .int x0), (1, .long x1)]) (st2 := [.int x0]) (I2 := m.I) (J2 := m.J) (fun hT v kk => ?_) ?_
      · refine sh_j0 (c := .eq) (off := (12)) (pc2 := 16) false rfl (sh_Zeqf c) rfl ?_
        refine sh_w (i := (.iload_n 0)) (len := 1) (pc2 := 17) (lv2 := [(0, .int x0), (1, .long x1)]) (st2 := [.int x0]) (h2 := (sh_rep m.T m.I m.J)) rfl rfl rfl ?_
        exact kk
      refine sh_Lk_cS (r := (some (.int (sf_94 x0)))) (st2 := [.int (sf_94 x0)]) (pc2 := 20) (k2 := 94) (as := [.int x0]) (rest := []) rfl rfl (by decide) (Nat.le_of_ble_eq_true rfl) rfl rfl ⟨Nat.le_of_ble_eq_true rfl, Nat.le_of_ble_eq_true rfl⟩ (sl_94 (m := m) rfl ⟨rfl, rfl⟩) rfl rfl (Nat.le_of_ble_eq_true rfl) (Nat.le_of_ble_eq_true rfl) ?_
      refine sh_Lk_lift (T := m.T) (I := m.I) (J := m.J) (s := m.s) (pc2 := 29) (lv2 := [(0, .int x0), (1, .long x1)]) (st2 := [.int ((sf_94 x0) - 1)]) (I2 := m.I) (J2 := m.J) (fun hT v kk => ?_) ?_
      · refine sh_w (i := (.iconst 1)) (len := 1) (pc2 := 21) (lv2 := [(0, .int x0), (1, .long x1)]) (st2 := [.int 1, .int (sf_94 x0)]) (h2 := (sh_rep m.T m.I m.J)) rfl rfl rfl ?_
        refine sh_w (i := .isub) (len := 1) (pc2 := 22) (lv2 := [(0, .int x0), (1, .long x1)]) (st2 := [.int ((sf_94 x0) - 1)]) (h2 := (sh_rep m.T m.I m.J)) rfl rfl rfl ?_
        refine sh_w (i := (.goto 7)) (len := 3) (pc2 := 29) (lv2 := [(0, .int x0), (1, .long x1)]) (st2 := [.int ((sf_94 x0) - 1)]) (h2 := (sh_rep m.T m.I m.J)) rfl rfl rfl ?_
        exact kk
      exact sh_Lk_sub (sh_sub_c rfl (sh_sub_c rfl (sh_sub_n))) (sl_112_29 e tg)
    · refine sh_Lk_lift (T := m.T) (I := m.I) (J := m.J) (s := m.s) (pc2 := 26) (lv2 := [(0, .int x0), (1, .long x1)]) (st2 := [.int x0]) (I2 := m.I) (J2 := m.J) (fun hT v kk => ?_) ?_
      · refine sh_j0 (c := .eq) (off := (12)) (pc2 := 25) true rfl (sh_Zeqt c) rfl ?_
        refine sh_w (i := (.iload_n 0)) (len := 1) (pc2 := 26) (lv2 := [(0, .int x0), (1, .long x1)]) (st2 := [.int x0]) (h2 := (sh_rep m.T m.I m.J)) rfl rfl rfl ?_
        exact kk
      refine sh_Lk_cS (r := (some (.int (sf_94 x0)))) (st2 := [.int (sf_94 x0)]) (pc2 := 29) (k2 := 94) (as := [.int x0]) (rest := []) rfl rfl (by decide) (Nat.le_of_ble_eq_true rfl) rfl rfl ⟨Nat.le_of_ble_eq_true rfl, Nat.le_of_ble_eq_true rfl⟩ (sl_94 (m := m) rfl ⟨rfl, rfl⟩) rfl rfl (Nat.le_of_ble_eq_true rfl) (Nat.le_of_ble_eq_true rfl) ?_
      exact sh_Lk_sub (sh_sub_c rfl (sh_sub_c rfl (sh_sub_n))) (sl_112_29 e tg)
  · refine sh_Lk_lift (T := m.T) (I := m.I) (J := m.J) (s := m.s) (pc2 := 8) (lv2 := [(0, .int x0), (1, .long x1)]) (st2 := [.int 0]) (I2 := m.I) (J2 := m.J) (fun hT v kk => ?_) ?_
    · refine sh_j0 (c := .ne) (off := (5)) (pc2 := 7) false rfl (sh_Znef c) rfl ?_
      refine sh_w (i := (.iconst 0)) (len := 1) (pc2 := 8) (lv2 := [(0, .int x0), (1, .long x1)]) (st2 := [.int 0]) (h2 := (sh_rep m.T m.I m.J)) rfl rfl rfl ?_
      exact kk
    obtain rfl := e
    obtain ⟨rfl, rfl⟩ := tg
    exact sh_Lk_ret (i := .ireturn) rfl rfl rfl (Nat.le_of_ble_eq_true rfl) (Nat.le_of_ble_eq_true rfl)
theorem sl_115_10s {x1 : Int64} {x3 : Int32} {x4 : Int32} {x5 : Int32} {m m2 : sh_X} {o : Outcome} {z : ((Int32 × sh_X) ⊕ (Int32 × sh_X))} (e : sf_115_10s x1 x3 x4 x5 m = some z) (tg : (sh_el (fun q => sh_Lk 115 10 [(0, .ref 45), (1, .long x1), (3, .int x3), (4, .int x4), (5, .int q.1)] [] q.2 o m2 9 222) (sh_tI o m2)) z) : sh_Lk 115 10 [(0, .ref 45), (1, .long x1), (3, .int x3), (4, .int x4), (5, .int x5)] [] m o m2 9 222 := by
  unfold sf_115_10s at e
  refine sh_Lk_lift (T := m.T) (I := m.I) (J := m.J) (s := m.s) (pc2 := 13) (lv2 := [(0, .ref 45), (1, .long x1), (3, .int x3), (4, .int x4), (5, .int x5)]) (st2 := [.int x3, .int x5]) (I2 := m.I) (J2 := m.J) (fun hT v kk => ?_) ?_
  · refine sh_w (i := (.iload 5)) (len := 2) (pc2 := 12) (lv2 := [(0, .ref 45), (1, .long x1), (3, .int x3), (4, .int x4), (5, .int x5)]) (st2 := [.int x5]) (h2 := (sh_rep m.T m.I m.J)) rfl rfl rfl ?_
    refine sh_w (i := (.iload_n 3)) (len := 1) (pc2 := 13) (lv2 := [(0, .ref 45), (1, .long x1), (3, .int x3), (4, .int x4), (5, .int x5)]) (st2 := [.int x3, .int x5]) (h2 := (sh_rep m.T m.I m.J)) rfl rfl rfl ?_
    exact kk
  rcases sh_ite e with ⟨c, e⟩ | ⟨c, e⟩
  · refine sh_Lk_lift (T := m.T) (I := m.I) (J := m.J) (s := m.s) (pc2 := 27) (lv2 := [(0, .ref 45), (1, .long x1), (3, .int x3), (4, .int x4), (5, .int x5)]) (st2 := [.int 63, .int x5, .long x1, .int (x4 + x5), .ref 45]) (I2 := m.I) (J2 := m.J) (fun hT v kk => ?_) ?_
    · refine sh_jc (c := .ge) (off := (30)) (pc2 := 16) false rfl (sh_Bgef c) rfl ?_
      refine sh_w (i := (.aload_n 0)) (len := 1) (pc2 := 17) (lv2 := [(0, .ref 45), (1, .long x1), (3, .int x3), (4, .int x4), (5, .int x5)]) (st2 := [.ref 45]) (h2 := (sh_rep m.T m.I m.J)) rfl rfl rfl ?_
      refine sh_w (i := (.iload 4)) (len := 2) (pc2 := 19) (lv2 := [(0, .ref 45), (1, .long x1), (3, .int x3), (4, .int x4), (5, .int x5)]) (st2 := [.int x4, .ref 45]) (h2 := (sh_rep m.T m.I m.J)) rfl rfl rfl ?_
      refine sh_w (i := (.iload 5)) (len := 2) (pc2 := 21) (lv2 := [(0, .ref 45), (1, .long x1), (3, .int x3), (4, .int x4), (5, .int x5)]) (st2 := [.int x5, .int x4, .ref 45]) (h2 := (sh_rep m.T m.I m.J)) rfl rfl rfl ?_
      refine sh_w (i := .iadd) (len := 1) (pc2 := 22) (lv2 := [(0, .ref 45), (1, .long x1), (3, .int x3), (4, .int x4), (5, .int x5)]) (st2 := [.int (x4 + x5), .ref 45]) (h2 := (sh_rep m.T m.I m.J)) rfl rfl rfl ?_
      refine sh_w (i := (.lload_n 1)) (len := 1) (pc2 := 23) (lv2 := [(0, .ref 45), (1, .long x1), (3, .int x3), (4, .int x4), (5, .int x5)]) (st2 := [.long x1, .int (x4 + x5), .ref 45]) (h2 := (sh_rep m.T m.I m.J)) rfl rfl rfl ?_
      refine sh_w (i := (.iload 5)) (len := 2) (pc2 := 25) (lv2 := [(0, .ref 45), (1, .long x1), (3, .int x3), (4, .int x4), (5, .int x5)]) (st2 := [.int x5, .long x1, .int (x4 + x5), .ref 45]) (h2 := (sh_rep m.T m.I m.J)) rfl rfl rfl ?_
      refine sh_w (i := (.bipush 63)) (len := 2) (pc2 := 27) (lv2 := [(0, .ref 45), (1, .long x1), (3, .int x3), (4, .int x4), (5, .int x5)]) (st2 := [.int 63, .int x5, .long x1, .int (x4 + x5), .ref 45]) (h2 := (sh_rep m.T m.I m.J)) rfl rfl rfl ?_
      exact kk
    refine sh_Lk_cS (r := (some (.int (sf_21 x5 63)))) (st2 := [.int (sf_21 x5 63), .long x1, .int (x4 + x5), .ref 45]) (pc2 := 30) (k2 := 21) (as := [.int x5, .int 63]) (rest := [.long x1, .int (x4 + x5), .ref 45]) rfl rfl (by decide) (Nat.le_of_ble_eq_true rfl) rfl rfl ⟨Nat.le_of_ble_eq_true rfl, Nat.le_of_ble_eq_true rfl⟩ (sl_21 (m := m) rfl ⟨rfl, rfl⟩) rfl rfl (Nat.le_of_ble_eq_true rfl) (Nat.le_of_ble_eq_true rfl) ?_
    refine sh_Lk_lift (T := m.T) (I := m.I) (J := m.J) (s := m.s) (pc2 := 34) (lv2 := [(0, .ref 45), (1, .long x1), (3, .int x3), (4, .int x4), (5, .int x5)]) (st2 := [.int (Int64.toInt32 ((x1 >>> (Int32.toInt64 (sf_21 x5 63) &&& 63)) &&& (1 : Int64))), .int (x4 + x5), .ref 45]) (I2 := m.I) (J2 := m.J) (fun hT v kk => ?_) ?_
    · refine sh_w (i := .lshr) (len := 1) (pc2 := 31) (lv2 := [(0, .ref 45), (1, .long x1), (3, .int x3), (4, .int x4), (5, .int x5)]) (st2 := [.long (x1 >>> (Int32.toInt64 (sf_21 x5 63) &&& 63)), .int (x4 + x5), .ref 45]) (h2 := (sh_rep m.T m.I m.J)) rfl rfl rfl ?_
      refine sh_w (i := (.lconst 1)) (len := 1) (pc2 := 32) (lv2 := [(0, .ref 45), (1, .long x1), (3, .int x3), (4, .int x4), (5, .int x5)]) (st2 := [.long 1, .long (x1 >>> (Int32.toInt64 (sf_21 x5 63) &&& 63)), .int (x4 + x5), .ref 45]) (h2 := (sh_rep m.T m.I m.J)) rfl rfl rfl ?_
      refine sh_w (i := .land) (len := 1) (pc2 := 33) (lv2 := [(0, .ref 45), (1, .long x1), (3, .int x3), (4, .int x4), (5, .int x5)]) (st2 := [.long ((x1 >>> (Int32.toInt64 (sf_21 x5 63) &&& 63)) &&& (1 : Int64)), .int (x4 + x5), .ref 45]) (h2 := (sh_rep m.T m.I m.J)) rfl rfl rfl ?_
      refine sh_w (i := .l2i) (len := 1) (pc2 := 34) (lv2 := [(0, .ref 45), (1, .long x1), (3, .int x3), (4, .int x4), (5, .int x5)]) (st2 := [.int (Int64.toInt32 ((x1 >>> (Int32.toInt64 (sf_21 x5 63) &&& 63)) &&& (1 : Int64))), .int (x4 + x5), .ref 45]) (h2 := (sh_rep m.T m.I m.J)) rfl rfl rfl ?_
      exact kk
    obtain ⟨r2, m12, e2, e⟩ := sh_bn_e e
    refine sh_Lk_cV (r := none) (st2 := []) (pc2 := 37) (k2 := 100) (a := 44) (as := [.ref 45, .int (x4 + x5), .int (Int64.toInt32 ((x1 >>> (Int32.toInt64 (sf_21 x5 63) &&& 63)) &&& (1 : Int64)))]) (rest := []) rfl rfl rfl (fun hT => (sh_s44 hT.st)) rfl rfl ⟨Nat.le_of_ble_eq_true rfl, Nat.le_of_ble_eq_true rfl⟩ (sl_100 e2 ⟨rfl, rfl⟩) rfl rfl (Nat.le_of_ble_eq_true rfl) (Nat.le_of_ble_eq_true rfl) ?_
    refine sh_Lk_lift (T := m12.T) (I := m12.I) (J := m12.J) (s := m12.s) (pc2 := 10) (lv2 := [(5, .int (x5 + 1)), (0, .ref 45), (1, .long x1), (3, .int x3), (4, .int x4)]) (st2 := []) (I2 := m12.I) (J2 := m12.J) (fun hT v kk => ?_) ?_
    · refine sh_w (i := (.iinc 5 1)) (len := 3) (pc2 := 40) (lv2 := [(5, .int (x5 + 1)), (0, .ref 45), (1, .long x1), (3, .int x3), (4, .int x4)]) (st2 := []) (h2 := (sh_rep m12.T m12.I m12.J)) rfl rfl rfl ?_
      refine sh_w (i := (.goto (-30))) (len := 3) (pc2 := 10) (lv2 := [(5, .int (x5 + 1)), (0, .ref 45), (1, .long x1), (3, .int x3), (4, .int x4)]) (st2 := []) (h2 := (sh_rep m12.T m12.I m12.J)) rfl rfl rfl ?_
      exact kk
    obtain rfl := Option.some.inj e
    exact sh_Lk_sub (sh_sub_c rfl (sh_sub_c rfl (sh_sub_c rfl (sh_sub_c rfl (sh_sub_c rfl (sh_sub_n)))))) tg
  · refine sh_Lk_lift (T := m.T) (I := m.I) (J := m.J) (s := m.s) (pc2 := 45) (lv2 := [(0, .ref 45), (1, .long x1), (3, .int x3), (4, .int x4), (5, .int x5)]) (st2 := [.int x4]) (I2 := m.I) (J2 := m.J) (fun hT v kk => ?_) ?_
    · refine sh_jc (c := .ge) (off := (30)) (pc2 := 43) true rfl (sh_Bget c) rfl ?_
      refine sh_w (i := (.iload 4)) (len := 2) (pc2 := 45) (lv2 := [(0, .ref 45), (1, .long x1), (3, .int x3), (4, .int x4), (5, .int x5)]) (st2 := [.int x4]) (h2 := (sh_rep m.T m.I m.J)) rfl rfl rfl ?_
      exact kk
    obtain rfl := Option.some.inj e
    obtain ⟨rfl, rfl⟩ := tg
    exact sh_Lk_ret (i := .ireturn) rfl rfl rfl (Nat.le_of_ble_eq_true rfl) (Nat.le_of_ble_eq_true rfl)
theorem sl_115_10 {x1 : Int64} {x3 : Int32} {x4 : Int32} {x5 : Int32} {m m2 : sh_X} {o : Outcome} {z : (Int32 × sh_X)} (e : sf_115_10 x1 x3 x4 x5 m = some z) (tg : (sh_tI o m2) z) : sh_Lk 115 10 [(0, .ref 45), (1, .long x1), (3, .int x3), (4, .int x4), (5, .int x5)] [] m o m2 9 222 := by
  unfold sf_115_10 at e
  exact sh_while_lk (P := fun q => sh_Lk 115 10 [(0, .ref 45), (1, .long x1), (3, .int x3), (4, .int x4), (5, .int q.1)] [] q.2 o m2 9 222) (Q := (sh_tI o m2)) (fun q z e tg => sl_115_10s (x1 := x1) (x3 := x3) (x4 := x4) (x5 := q.1) (m := q.2) e tg) (s := (x5, m)) e tg
theorem sl_115 {x1 : Int64} {x3 : Int32} {m m2 : sh_X} {o : Outcome} {z : (Int32 × sh_X)} (e : sf_115 x1 x3 m = some z) (tg : (sh_tI o m2) z) : sh_Lk 115 0 [(0, .ref 45), (1, .long x1), (3, .int x3)] [] m o m2 9 222 := by
  unfold sf_115 at e
  refine sh_Lk_lift (T := m.T) (I := m.I) (J := m.J) (s := m.s) (pc2 := 2) (lv2 := [(0, .ref 45), (1, .long x1), (3, .int x3)]) (st2 := [.int x3, .ref 45]) (I2 := m.I) (J2 := m.J) (fun hT v kk => ?_) ?_
  · refine sh_w (i := (.aload_n 0)) (len := 1) (pc2 := 1) (lv2 := [(0, .ref 45), (1, .long x1), (3, .int x3)]) (st2 := [.ref 45]) (h2 := (sh_rep m.T m.I m.J)) rfl rfl rfl ?_
    refine sh_w (i := (.iload_n 3)) (len := 1) (pc2 := 2) (lv2 := [(0, .ref 45), (1, .long x1), (3, .int x3)]) (st2 := [.int x3, .ref 45]) (h2 := (sh_rep m.T m.I m.J)) rfl rfl rfl ?_
    exact kk
  obtain ⟨r1, m11, e1, e⟩ := sh_bn_e e
  refine sh_Lk_cV (r := (some (.int r1))) (st2 := [.int r1]) (pc2 := 5) (k2 := 98) (a := 44) (as := [.ref 45, .int x3]) (rest := []) rfl rfl rfl (fun hT => (sh_s44 hT.st)) rfl rfl ⟨Nat.le_of_ble_eq_true rfl, Nat.le_of_ble_eq_true rfl⟩ (sl_98 e1 ⟨rfl, rfl⟩) rfl rfl (Nat.le_of_ble_eq_true rfl) (Nat.le_of_ble_eq_true rfl) ?_
  refine sh_Lk_lift (T := m11.T) (I := m11.I) (J := m11.J) (s := m11.s) (pc2 := 10) (lv2 := [(5, .int 0), (4, .int r1), (0, .ref 45), (1, .long x1), (3, .int x3)]) (st2 := []) (I2 := m11.I) (J2 := m11.J) (fun hT v kk => ?_) ?_
  · refine sh_w (i := (.istore 4)) (len := 2) (pc2 := 7) (lv2 := [(4, .int r1), (0, .ref 45), (1, .long x1), (3, .int x3)]) (st2 := []) (h2 := (sh_rep m11.T m11.I m11.J)) rfl rfl rfl ?_
    refine sh_w (i := (.iconst 0)) (len := 1) (pc2 := 8) (lv2 := [(4, .int r1), (0, .ref 45), (1, .long x1), (3, .int x3)]) (st2 := [.int 0]) (h2 := (sh_rep m11.T m11.I m11.J)) rfl rfl rfl ?_
    refine sh_w (i := (.istore 5)) (len := 2) (pc2 := 10) (lv2 := [(5, .int 0), (4, .int r1), (0, .ref 45), (1, .long x1), (3, .int x3)]) (st2 := []) (h2 := (sh_rep m11.T m11.I m11.J)) rfl rfl rfl ?_
    exact kk
  exact sh_Lk_sub (sh_sub_c rfl (sh_sub_c rfl (sh_sub_c rfl (sh_sub_c rfl (sh_sub_c rfl (sh_sub_n)))))) (sl_115_10 e tg)
theorem sl_116 {x1 : Int32} {x2 : Int32} {x3 : Int32} {m m2 : sh_X} {o : Outcome} {z : (Unit × sh_X)} (e : sf_116 x1 x2 x3 m = some z) (tg : (sh_tV o m2) z) : sh_Lk 116 0 [(0, .ref 49), (1, .int x1), (2, .int x2), (3, .int x3)] [] m o m2 9 221 := by
  unfold sf_116 at e
  refine sh_Lk_lift (T := m.T) (I := m.I) (J := m.J) (s := m.s) (pc2 := 2) (lv2 := [(0, .ref 49), (1, .int x1), (2, .int x2), (3, .int x3)]) (st2 := [.int x1, .ref 49]) (I2 := m.I) (J2 := m.J) (fun hT v kk => ?_) ?_
  · refine sh_w (i := (.aload_n 0)) (len := 1) (pc2 := 1) (lv2 := [(0, .ref 49), (1, .int x1), (2, .int x2), (3, .int x3)]) (st2 := [.ref 49]) (h2 := (sh_rep m.T m.I m.J)) rfl rfl rfl ?_
    refine sh_w (i := (.iload_n 1)) (len := 1) (pc2 := 2) (lv2 := [(0, .ref 49), (1, .int x1), (2, .int x2), (3, .int x3)]) (st2 := [.int x1, .ref 49]) (h2 := (sh_rep m.T m.I m.J)) rfl rfl rfl ?_
    exact kk
  obtain ⟨r1, e1, e⟩ := sh_bc_e e
  refine sh_Lk_cV (r := (some (.int (sh_b2 r1)))) (st2 := [.int (sh_b2 r1)]) (pc2 := 5) (k2 := 109) (a := 48) (as := [.ref 49, .int x1]) (rest := []) rfl rfl rfl (fun hT => (sh_s48 hT.st)) rfl rfl ⟨Nat.le_of_ble_eq_true rfl, Nat.le_of_ble_eq_true rfl⟩ (sl_109 e1 ⟨rfl, rfl⟩) rfl rfl (Nat.le_of_ble_eq_true rfl) (Nat.le_of_ble_eq_true rfl) ?_
  rcases sh_ite e with ⟨c, e⟩ | ⟨c, e⟩
  · refine sh_Lk_lift (T := m.T) (I := m.I) (J := m.J) (s := m.s) (pc2 := 14) (lv2 := [(0, .ref 49), (1, .int x1), (2, .int x2), (3, .int x3)]) (st2 := [.int x2, .int x1, .ref 50]) (I2 := m.I) (J2 := m.J) (fun hT v kk => ?_) ?_
    · refine sh_j0 (c := .eq) (off := (17)) (pc2 := 8) false rfl (sh_Zeqf c) rfl ?_
      refine sh_w (i := (.aload_n 0)) (len := 1) (pc2 := 9) (lv2 := [(0, .ref 49), (1, .int x1), (2, .int x2), (3, .int x3)]) (st2 := [.ref 49]) (h2 := (sh_rep m.T m.I m.J)) rfl rfl rfl ?_
      refine sh_gR1 (len := 3) (x := .ref 50) (pc2 := 12) rfl rfl (sh_s48 hT.st) rfl rfl ?_
      refine sh_w (i := (.iload_n 1)) (len := 1) (pc2 := 13) (lv2 := [(0, .ref 49), (1, .int x1), (2, .int x2), (3, .int x3)]) (st2 := [.int x1, .ref 50]) (h2 := (sh_rep m.T m.I m.J)) rfl rfl rfl ?_
      refine sh_w (i := (.iload_n 2)) (len := 1) (pc2 := 14) (lv2 := [(0, .ref 49), (1, .int x1), (2, .int x2), (3, .int x3)]) (st2 := [.int x2, .int x1, .ref 50]) (h2 := (sh_rep m.T m.I m.J)) rfl rfl rfl ?_
      exact kk
    obtain ⟨c, e⟩ := sh_gd e
    refine sh_Lk_lift (T := m.T) (I := m.I) (J := m.J) (s := m.s) (pc2 := 21) (lv2 := [(0, .ref 49), (1, .int x1), (2, .int x2), (3, .int x3)]) (st2 := [.int x3, .int x1, .ref 51]) (I2 := sh_u2 m.I 49 (Int32.toNatClampNeg x1) x2) (J2 := m.J) (fun hT v kk => ?_) ?_
    · refine sh_is1 (x := x2) (i := x1) (pc2 := 15) rfl (sh_s49 hT.st) (sh_okb1 c) (sh_okb2 c) rfl ?_
      refine sh_w (i := (.aload_n 0)) (len := 1) (pc2 := 16) (lv2 := [(0, .ref 49), (1, .int x1), (2, .int x2), (3, .int x3)]) (st2 := [.ref 49]) (h2 := (sh_rep m.T (sh_u2 m.I 49 (Int32.toNatClampNeg x1) x2) m.J)) rfl rfl rfl ?_
      refine sh_gR1 (len := 3) (x := .ref 51) (pc2 := 19) rfl rfl (sh_s48 hT.st) rfl rfl ?_
      refine sh_w (i := (.iload_n 1)) (len := 1) (pc2 := 20) (lv2 := [(0, .ref 49), (1, .int x1), (2, .int x2), (3, .int x3)]) (st2 := [.int x1, .ref 51]) (h2 := (sh_rep m.T (sh_u2 m.I 49 (Int32.toNatClampNeg x1) x2) m.J)) rfl rfl rfl ?_
      refine sh_w (i := (.iload_n 3)) (len := 1) (pc2 := 21) (lv2 := [(0, .ref 49), (1, .int x1), (2, .int x2), (3, .int x3)]) (st2 := [.int x3, .int x1, .ref 51]) (h2 := (sh_rep m.T (sh_u2 m.I 49 (Int32.toNatClampNeg x1) x2) m.J)) rfl rfl rfl ?_
      exact kk
    obtain ⟨c, e⟩ := sh_gd e
    refine sh_Lk_lift (T := m.T) (I := sh_u2 m.I 49 (Int32.toNatClampNeg x1) x2) (J := m.J) (s := m.s) (pc2 := 22) (lv2 := [(0, .ref 49), (1, .int x1), (2, .int x2), (3, .int x3)]) (st2 := []) (I2 := sh_u2 (sh_u2 m.I 49 (Int32.toNatClampNeg x1) x2) 50 (Int32.toNatClampNeg x1) x3) (J2 := m.J) (fun hT v kk => ?_) ?_
    · refine sh_is1 (x := x3) (i := x1) (pc2 := 22) rfl (sh_s50 hT.st) (sh_okb1 c) (sh_okb2 c) rfl ?_
      exact kk
    obtain rfl := Option.some.inj e
    obtain ⟨rfl, rfl⟩ := tg
    exact sh_Lk_ret (i := .return_) rfl rfl rfl (Nat.le_of_ble_eq_true rfl) (Nat.le_of_ble_eq_true rfl)
  · refine sh_Lk_lift (T := m.T) (I := m.I) (J := m.J) (s := m.s) (pc2 := 22) (lv2 := [(0, .ref 49), (1, .int x1), (2, .int x2), (3, .int x3)]) (st2 := []) (I2 := m.I) (J2 := m.J) (fun hT v kk => ?_) ?_
    · refine sh_j0 (c := .eq) (off := (17)) (pc2 := 22) true rfl (sh_Zeqt c) rfl ?_
      exact kk
    obtain rfl := Option.some.inj e
    obtain ⟨rfl, rfl⟩ := tg
    exact sh_Lk_ret (i := .return_) rfl rfl rfl (Nat.le_of_ble_eq_true rfl) (Nat.le_of_ble_eq_true rfl)
theorem sl_107_49 {x1 : Int32} {x2 : Int32} {x3 : Int32} {x4 : Int64} {m m2 : sh_X} {o : Outcome} {z : (Option Unit × sh_X)} (e : sf_107_49 x1 x2 x3 x4 m = some z) (tg : (sh_tVt o m2) z) : sh_Lk 107 49 [(0, .ref 42), (1, .int x1), (2, .int x2), (3, .int x3), (4, .long x4)] [] m o m2 10 247 := by
  unfold sf_107_49 at e
  refine sh_Lk_lift (T := m.T) (I := m.I) (J := m.J) (s := m.s) (pc2 := 51) (lv2 := [(0, .ref 42), (1, .int x1), (2, .int x2), (3, .int x3), (4, .long x4)]) (st2 := [.int x2, .ref 42]) (I2 := m.I) (J2 := m.J) (fun hT v kk => ?_) ?_
  · refine sh_w (i := (.aload_n 0)) (len := 1) (pc2 := 50) (lv2 := [(0, .ref 42), (1, .int x1), (2, .int x2), (3, .int x3), (4, .long x4)]) (st2 := [.ref 42]) (h2 := (sh_rep m.T m.I m.J)) rfl rfl rfl ?_
    refine sh_w (i := (.iload_n 2)) (len := 1) (pc2 := 51) (lv2 := [(0, .ref 42), (1, .int x1), (2, .int x2), (3, .int x3), (4, .long x4)]) (st2 := [.int x2, .ref 42]) (h2 := (sh_rep m.T m.I m.J)) rfl rfl rfl ?_
    exact kk
  refine sh_Lk_cS (r := (some (.int (sf_94 x2)))) (st2 := [.int (sf_94 x2), .ref 42]) (pc2 := 54) (k2 := 94) (as := [.int x2]) (rest := [.ref 42]) rfl rfl (by decide) (Nat.le_of_ble_eq_true rfl) rfl rfl ⟨Nat.le_of_ble_eq_true rfl, Nat.le_of_ble_eq_true rfl⟩ (sl_94 (m := m) rfl ⟨rfl, rfl⟩) rfl rfl (Nat.le_of_ble_eq_true rfl) (Nat.le_of_ble_eq_true rfl) ?_
  refine sh_Lk_lift (T := m.T) (I := m.I) (J := m.J) (s := m.s) (pc2 := 55) (lv2 := [(0, .ref 42), (1, .int x1), (2, .int x2), (3, .int x3), (4, .long x4)]) (st2 := [.int x3, .int (sf_94 x2), .ref 42]) (I2 := m.I) (J2 := m.J) (fun hT v kk => ?_) ?_
  · refine sh_w (i := (.iload_n 3)) (len := 1) (pc2 := 55) (lv2 := [(0, .ref 42), (1, .int x1), (2, .int x2), (3, .int x3), (4, .long x4)]) (st2 := [.int x3, .int (sf_94 x2), .ref 42]) (h2 := (sh_rep m.T m.I m.J)) rfl rfl rfl ?_
    exact kk
  rcases sh_bt_e e with ⟨m12, e2, rfl⟩ | ⟨r2, m12, e2, e⟩
  · obtain ⟨rfl, rfl⟩ := tg
    exact sh_Lk_tV (k2 := 90) (a := 41) (as := [.ref 42, .int (sf_94 x2), .int x3]) (rest := []) rfl rfl rfl (fun hT => (sh_s41 hT.st)) rfl rfl ⟨Nat.le_of_ble_eq_true rfl, Nat.le_of_ble_eq_true rfl⟩ (sl_90 e2 ⟨rfl, rfl⟩) rfl (Nat.le_of_ble_eq_true rfl) (Nat.le_of_ble_eq_true rfl) (Nat.le_of_ble_eq_true rfl) (Nat.le_of_ble_eq_true rfl) rfl
  refine sh_Lk_cV (r := none) (st2 := []) (pc2 := 58) (k2 := 90) (a := 41) (as := [.ref 42, .int (sf_94 x2), .int x3]) (rest := []) rfl rfl rfl (fun hT => (sh_s41 hT.st)) rfl rfl ⟨Nat.le_of_ble_eq_true rfl, Nat.le_of_ble_eq_true rfl⟩ (sl_90 e2 ⟨rfl, rfl⟩) rfl rfl (Nat.le_of_ble_eq_true rfl) (Nat.le_of_ble_eq_true rfl) ?_
  refine sh_Lk_lift (T := m12.T) (I := m12.I) (J := m12.J) (s := m12.s) (pc2 := 71) (lv2 := [(0, .ref 42), (1, .int x1), (2, .int x2), (3, .int x3), (4, .long x4)]) (st2 := [.int x2, .long x4, .ref 45, .int x2, .int x1, .ref 49]) (I2 := m12.I) (J2 := m12.J) (fun hT v kk => ?_) ?_
  · refine sh_w (i := (.aload_n 0)) (len := 1) (pc2 := 59) (lv2 := [(0, .ref 42), (1, .int x1), (2, .int x2), (3, .int x3), (4, .long x4)]) (st2 := [.ref 42]) (h2 := (sh_rep m12.T m12.I m12.J)) rfl rfl rfl ?_
    refine sh_gR1 (len := 3) (x := .ref 49) (pc2 := 62) rfl rfl (sh_s41 hT.st) rfl rfl ?_
    refine sh_w (i := (.iload_n 1)) (len := 1) (pc2 := 63) (lv2 := [(0, .ref 42), (1, .int x1), (2, .int x2), (3, .int x3), (4, .long x4)]) (st2 := [.int x1, .ref 49]) (h2 := (sh_rep m12.T m12.I m12.J)) rfl rfl rfl ?_
    refine sh_w (i := (.iload_n 2)) (len := 1) (pc2 := 64) (lv2 := [(0, .ref 42), (1, .int x1), (2, .int x2), (3, .int x3), (4, .long x4)]) (st2 := [.int x2, .int x1, .ref 49]) (h2 := (sh_rep m12.T m12.I m12.J)) rfl rfl rfl ?_
    refine sh_w (i := (.aload_n 0)) (len := 1) (pc2 := 65) (lv2 := [(0, .ref 42), (1, .int x1), (2, .int x2), (3, .int x3), (4, .long x4)]) (st2 := [.ref 42, .int x2, .int x1, .ref 49]) (h2 := (sh_rep m12.T m12.I m12.J)) rfl rfl rfl ?_
    refine sh_gR1 (len := 3) (x := .ref 45) (pc2 := 68) rfl rfl (sh_s41 hT.st) rfl rfl ?_
    refine sh_w (i := (.lload 4)) (len := 2) (pc2 := 70) (lv2 := [(0, .ref 42), (1, .int x1), (2, .int x2), (3, .int x3), (4, .long x4)]) (st2 := [.long x4, .ref 45, .int x2, .int x1, .ref 49]) (h2 := (sh_rep m12.T m12.I m12.J)) rfl rfl rfl ?_
    refine sh_w (i := (.iload_n 2)) (len := 1) (pc2 := 71) (lv2 := [(0, .ref 42), (1, .int x1), (2, .int x2), (3, .int x3), (4, .long x4)]) (st2 := [.int x2, .long x4, .ref 45, .int x2, .int x1, .ref 49]) (h2 := (sh_rep m12.T m12.I m12.J)) rfl rfl rfl ?_
    exact kk
  refine sh_Lk_cS (r := (some (.int (sf_94 x2)))) (st2 := [.int (sf_94 x2), .long x4, .ref 45, .int x2, .int x1, .ref 49]) (pc2 := 74) (k2 := 94) (as := [.int x2]) (rest := [.long x4, .ref 45, .int x2, .int x1, .ref 49]) rfl rfl (by decide) (Nat.le_of_ble_eq_true rfl) rfl rfl ⟨Nat.le_of_ble_eq_true rfl, Nat.le_of_ble_eq_true rfl⟩ (sl_94 (m := m12) rfl ⟨rfl, rfl⟩) rfl rfl (Nat.le_of_ble_eq_true rfl) (Nat.le_of_ble_eq_true rfl) ?_
  obtain ⟨r4, m14, e4, e⟩ := sh_bn_e e
  refine sh_Lk_cV (r := (some (.int r4))) (st2 := [.int r4, .int x2, .int x1, .ref 49]) (pc2 := 77) (k2 := 115) (a := 44) (as := [.ref 45, .long x4, .int (sf_94 x2)]) (rest := [.int x2, .int x1, .ref 49]) rfl rfl rfl (fun hT => (sh_s44 hT.st)) rfl rfl ⟨Nat.le_of_ble_eq_true rfl, Nat.le_of_ble_eq_true rfl⟩ (sl_115 e4 ⟨rfl, rfl⟩) rfl rfl (Nat.le_of_ble_eq_true rfl) (Nat.le_of_ble_eq_true rfl) ?_
  obtain ⟨r5, m15, e5, e⟩ := sh_bn_e e
  refine sh_Lk_cV (r := none) (st2 := []) (pc2 := 80) (k2 := 116) (a := 48) (as := [.ref 49, .int x1, .int x2, .int r4]) (rest := []) rfl rfl rfl (fun hT => (sh_s48 hT.st)) rfl rfl ⟨Nat.le_of_ble_eq_true rfl, Nat.le_of_ble_eq_true rfl⟩ (sl_116 e5 ⟨rfl, rfl⟩) rfl rfl (Nat.le_of_ble_eq_true rfl) (Nat.le_of_ble_eq_true rfl) ?_
  obtain rfl := Option.some.inj e
  obtain ⟨rfl, rfl⟩ := tg
  exact sh_Lk_ret (i := .return_) rfl rfl rfl (Nat.le_of_ble_eq_true rfl) (Nat.le_of_ble_eq_true rfl)
theorem sl_107 {x1 : Int32} {x2 : Int32} {m m2 : sh_X} {o : Outcome} {z : (Option Unit × sh_X)} (e : sf_107 x1 x2 m = some z) (tg : (sh_tVt o m2) z) : sh_Lk 107 0 [(0, .ref 42), (1, .int x1), (2, .int x2)] [] m o m2 10 247 := by
  unfold sf_107 at e
  refine sh_Lk_lift (T := m.T) (I := m.I) (J := m.J) (s := m.s) (pc2 := 5) (lv2 := [(0, .ref 42), (1, .int x1), (2, .int x2)]) (st2 := [.int x1, .ref 49]) (I2 := m.I) (J2 := m.J) (fun hT v kk => ?_) ?_
  · refine sh_w (i := (.aload_n 0)) (len := 1) (pc2 := 1) (lv2 := [(0, .ref 42), (1, .int x1), (2, .int x2)]) (st2 := [.ref 42]) (h2 := (sh_rep m.T m.I m.J)) rfl rfl rfl ?_
    refine sh_gR1 (len := 3) (x := .ref 49) (pc2 := 4) rfl rfl (sh_s41 hT.st) rfl rfl ?_
    refine sh_w (i := (.iload_n 1)) (len := 1) (pc2 := 5) (lv2 := [(0, .ref 42), (1, .int x1), (2, .int x2)]) (st2 := [.int x1, .ref 49]) (h2 := (sh_rep m.T m.I m.J)) rfl rfl rfl ?_
    exact kk
  obtain ⟨r1, e1, e⟩ := sh_bc_e e
  refine sh_Lk_cV (r := (some (.int r1))) (st2 := [.int r1]) (pc2 := 8) (k2 := 108) (a := 48) (as := [.ref 49, .int x1]) (rest := []) rfl rfl rfl (fun hT => (sh_s48 hT.st)) rfl rfl ⟨Nat.le_of_ble_eq_true rfl, Nat.le_of_ble_eq_true rfl⟩ (sl_108 e1 ⟨rfl, rfl⟩) rfl rfl (Nat.le_of_ble_eq_true rfl) (Nat.le_of_ble_eq_true rfl) ?_
  rcases sh_ite e with ⟨c, e⟩ | ⟨c, e⟩
  · refine sh_Lk_lift (T := m.T) (I := m.I) (J := m.J) (s := m.s) (pc2 := 17) (lv2 := [(0, .ref 42), (1, .int x1), (2, .int x2)]) (st2 := [.int x1, .ref 49]) (I2 := m.I) (J2 := m.J) (fun hT v kk => ?_) ?_
    · refine sh_j0 (c := .eq) (off := (4)) (pc2 := 12) true rfl (sh_Beqt c) rfl ?_
      refine sh_w (i := (.aload_n 0)) (len := 1) (pc2 := 13) (lv2 := [(0, .ref 42), (1, .int x1), (2, .int x2)]) (st2 := [.ref 42]) (h2 := (sh_rep m.T m.I m.J)) rfl rfl rfl ?_
      refine sh_gR1 (len := 3) (x := .ref 49) (pc2 := 16) rfl rfl (sh_s41 hT.st) rfl rfl ?_
      refine sh_w (i := (.iload_n 1)) (len := 1) (pc2 := 17) (lv2 := [(0, .ref 42), (1, .int x1), (2, .int x2)]) (st2 := [.int x1, .ref 49]) (h2 := (sh_rep m.T m.I m.J)) rfl rfl rfl ?_
      exact kk
    obtain ⟨r2, e2, e⟩ := sh_bc_e e
    refine sh_Lk_cV (r := (some (.int r2))) (st2 := [.int r2]) (pc2 := 20) (k2 := 110) (a := 48) (as := [.ref 49, .int x1]) (rest := []) rfl rfl rfl (fun hT => (sh_s48 hT.st)) rfl rfl ⟨Nat.le_of_ble_eq_true rfl, Nat.le_of_ble_eq_true rfl⟩ (sl_110 e2 ⟨rfl, rfl⟩) rfl rfl (Nat.le_of_ble_eq_true rfl) (Nat.le_of_ble_eq_true rfl) ?_
    refine sh_Lk_lift (T := m.T) (I := m.I) (J := m.J) (s := m.s) (pc2 := 26) (lv2 := [(3, .int r2), (0, .ref 42), (1, .int x1), (2, .int x2)]) (st2 := [.int x1, .ref 49]) (I2 := m.I) (J2 := m.J) (fun hT v kk => ?_) ?_
    · refine sh_w (i := (.istore_n 3)) (len := 1) (pc2 := 21) (lv2 := [(3, .int r2), (0, .ref 42), (1, .int x1), (2, .int x2)]) (st2 := []) (h2 := (sh_rep m.T m.I m.J)) rfl rfl rfl ?_
      refine sh_w (i := (.aload_n 0)) (len := 1) (pc2 := 22) (lv2 := [(3, .int r2), (0, .ref 42), (1, .int x1), (2, .int x2)]) (st2 := [.ref 42]) (h2 := (sh_rep m.T m.I m.J)) rfl rfl rfl ?_
      refine sh_gR1 (len := 3) (x := .ref 49) (pc2 := 25) rfl rfl (sh_s41 hT.st) rfl rfl ?_
      refine sh_w (i := (.iload_n 1)) (len := 1) (pc2 := 26) (lv2 := [(3, .int r2), (0, .ref 42), (1, .int x1), (2, .int x2)]) (st2 := [.int x1, .ref 49]) (h2 := (sh_rep m.T m.I m.J)) rfl rfl rfl ?_
      exact kk
    obtain ⟨r3, e3, e⟩ := sh_bc_e e
    refine sh_Lk_cV (r := (some (.long r3))) (st2 := [.long r3]) (pc2 := 29) (k2 := 111) (a := 48) (as := [.ref 49, .int x1]) (rest := []) rfl rfl rfl (fun hT => (sh_s48 hT.st)) rfl rfl ⟨Nat.le_of_ble_eq_true rfl, Nat.le_of_ble_eq_true rfl⟩ (sl_111 e3 ⟨rfl, rfl⟩) rfl rfl (Nat.le_of_ble_eq_true rfl) (Nat.le_of_ble_eq_true rfl) ?_
    refine sh_Lk_lift (T := m.T) (I := m.I) (J := m.J) (s := m.s) (pc2 := 34) (lv2 := [(4, .long r3), (3, .int r2), (0, .ref 42), (1, .int x1), (2, .int x2)]) (st2 := [.long r3, .int x2]) (I2 := m.I) (J2 := m.J) (fun hT v kk => ?_) ?_
    · refine sh_w (i := (.lstore 4)) (len := 2) (pc2 := 31) (lv2 := [(4, .long r3), (3, .int r2), (0, .ref 42), (1, .int x1), (2, .int x2)]) (st2 := []) (h2 := (sh_rep m.T m.I m.J)) rfl rfl rfl ?_
      refine sh_w (i := (.iload_n 2)) (len := 1) (pc2 := 32) (lv2 := [(4, .long r3), (3, .int r2), (0, .ref 42), (1, .int x1), (2, .int x2)]) (st2 := [.int x2]) (h2 := (sh_rep m.T m.I m.J)) rfl rfl rfl ?_
      refine sh_w (i := (.lload 4)) (len := 2) (pc2 := 34) (lv2 := [(4, .long r3), (3, .int r2), (0, .ref 42), (1, .int x1), (2, .int x2)]) (st2 := [.long r3, .int x2]) (h2 := (sh_rep m.T m.I m.J)) rfl rfl rfl ?_
      exact kk
    refine sh_Lk_cS (r := (some (.int (sh_b2 (sf_112 x2 r3))))) (st2 := [.int (sh_b2 (sf_112 x2 r3))]) (pc2 := 37) (k2 := 112) (as := [.int x2, .long r3]) (rest := []) rfl rfl (by decide) (Nat.le_of_ble_eq_true rfl) rfl rfl ⟨Nat.le_of_ble_eq_true rfl, Nat.le_of_ble_eq_true rfl⟩ (sl_112 (m := m) rfl ⟨rfl, rfl⟩) rfl rfl (Nat.le_of_ble_eq_true rfl) (Nat.le_of_ble_eq_true rfl) ?_
    rcases sh_ite e with ⟨c, e⟩ | ⟨c, e⟩
    · refine sh_Lk_lift (T := m.T) (I := m.I) (J := m.J) (s := m.s) (pc2 := 49) (lv2 := [(4, .long r3), (3, .int r2), (0, .ref 42), (1, .int x1), (2, .int x2)]) (st2 := []) (I2 := m.I) (J2 := m.J) (fun hT v kk => ?_) ?_
      · refine sh_j0 (c := .ne) (off := (12)) (pc2 := 49) true rfl (sh_Znet c) rfl ?_
        exact kk
      exact sh_Lk_sub (sh_sub_c rfl (sh_sub_c rfl (sh_sub_c rfl (sh_sub_c rfl (sh_sub_c rfl (sh_sub_n)))))) (sl_107_49 e tg)
    · refine sh_Lk_lift (T := m.T) (I := m.I) (J := m.J) (s := m.s) (pc2 := 46) (lv2 := [(4, .long r3), (3, .int r2), (0, .ref 42), (1, .int x1), (2, .int x2)]) (st2 := [.int r2, .int 5, .ref 3]) (I2 := m.I) (J2 := m.J) (fun hT v kk => ?_) ?_
      · refine sh_j0 (c := .ne) (off := (12)) (pc2 := 40) false rfl (sh_Znef c) rfl ?_
        refine sh_w (i := (.aload_n 0)) (len := 1) (pc2 := 41) (lv2 := [(4, .long r3), (3, .int r2), (0, .ref 42), (1, .int x1), (2, .int x2)]) (st2 := [.ref 42]) (h2 := (sh_rep m.T m.I m.J)) rfl rfl rfl ?_
        refine sh_gR1 (len := 3) (x := .ref 3) (pc2 := 44) rfl rfl (sh_s41 hT.st) rfl rfl ?_
        refine sh_w (i := (.iconst 5)) (len := 1) (pc2 := 45) (lv2 := [(4, .long r3), (3, .int r2), (0, .ref 42), (1, .int x1), (2, .int x2)]) (st2 := [.int 5, .ref 3]) (h2 := (sh_rep m.T m.I m.J)) rfl rfl rfl ?_
        refine sh_w (i := (.iload_n 3)) (len := 1) (pc2 := 46) (lv2 := [(4, .long r3), (3, .int r2), (0, .ref 42), (1, .int x1), (2, .int x2)]) (st2 := [.int r2, .int 5, .ref 3]) (h2 := (sh_rep m.T m.I m.J)) rfl rfl rfl ?_
        exact kk
      rcases sh_bt_e e with ⟨m15, e5, rfl⟩ | ⟨r5, m15, e5, e⟩
      · obtain ⟨rfl, rfl⟩ := tg
        exact sh_Lk_tV (k2 := 50) (a := 2) (as := [.ref 3, .int 5, .int r2]) (rest := []) rfl rfl rfl (fun hT => hT.t2) rfl rfl ⟨Nat.le_of_ble_eq_true rfl, Nat.le_of_ble_eq_true rfl⟩ (sl_50 e5 ⟨rfl, rfl⟩) rfl (Nat.le_of_ble_eq_true rfl) (Nat.le_of_ble_eq_true rfl) (Nat.le_of_ble_eq_true rfl) (Nat.le_of_ble_eq_true rfl) rfl
      refine sh_Lk_cV (r := none) (st2 := []) (pc2 := 49) (k2 := 50) (a := 2) (as := [.ref 3, .int 5, .int r2]) (rest := []) rfl rfl rfl (fun hT => hT.t2) rfl rfl ⟨Nat.le_of_ble_eq_true rfl, Nat.le_of_ble_eq_true rfl⟩ (sl_50 e5 ⟨rfl, rfl⟩) rfl rfl (Nat.le_of_ble_eq_true rfl) (Nat.le_of_ble_eq_true rfl) ?_
      exact sh_Lk_sub (sh_sub_c rfl (sh_sub_c rfl (sh_sub_c rfl (sh_sub_c rfl (sh_sub_c rfl (sh_sub_n)))))) (sl_107_49 e tg)
  · refine sh_Lk_lift (T := m.T) (I := m.I) (J := m.J) (s := m.s) (pc2 := 11) (lv2 := [(0, .ref 42), (1, .int x1), (2, .int x2)]) (st2 := []) (I2 := m.I) (J2 := m.J) (fun hT v kk => ?_) ?_
    · refine sh_j0 (c := .eq) (off := (4)) (pc2 := 11) false rfl (sh_Beqf c) rfl ?_
      exact kk
    obtain rfl := Option.some.inj e
    obtain ⟨rfl, rfl⟩ := tg
    exact sh_Lk_ret (i := .return_) rfl rfl rfl (Nat.le_of_ble_eq_true rfl) (Nat.le_of_ble_eq_true rfl)
theorem sl_117 {x1 : Int32} {m m2 : sh_X} {o : Outcome} {z : Int32} (e : sf_117 x1 m = some z) (tg : (sh_tIc m o m2) z) : sh_Lk 117 0 [(0, .ref 49), (1, .int x1)] [] m o m2 9 221 := by
  unfold sf_117 at e
  refine sh_Lk_lift (T := m.T) (I := m.I) (J := m.J) (s := m.s) (pc2 := 2) (lv2 := [(0, .ref 49), (1, .int x1)]) (st2 := [.int x1, .ref 49]) (I2 := m.I) (J2 := m.J) (fun hT v kk => ?_) ?_
  · refine sh_w (i := (.aload_n 0)) (len := 1) (pc2 := 1) (lv2 := [(0, .ref 49), (1, .int x1)]) (st2 := [.ref 49]) (h2 := (sh_rep m.T m.I m.J)) rfl rfl rfl ?_
    refine sh_w (i := (.iload_n 1)) (len := 1) (pc2 := 2) (lv2 := [(0, .ref 49), (1, .int x1)]) (st2 := [.int x1, .ref 49]) (h2 := (sh_rep m.T m.I m.J)) rfl rfl rfl ?_
    exact kk
  obtain ⟨r1, e1, e⟩ := sh_bc_e e
  refine sh_Lk_cV (r := (some (.int (sh_b2 r1)))) (st2 := [.int (sh_b2 r1)]) (pc2 := 5) (k2 := 109) (a := 48) (as := [.ref 49, .int x1]) (rest := []) rfl rfl rfl (fun hT => (sh_s48 hT.st)) rfl rfl ⟨Nat.le_of_ble_eq_true rfl, Nat.le_of_ble_eq_true rfl⟩ (sl_109 e1 ⟨rfl, rfl⟩) rfl rfl (Nat.le_of_ble_eq_true rfl) (Nat.le_of_ble_eq_true rfl) ?_
  rcases sh_ite e with ⟨c, e⟩ | ⟨c, e⟩
  · refine sh_Lk_lift (T := m.T) (I := m.I) (J := m.J) (s := m.s) (pc2 := 13) (lv2 := [(0, .ref 49), (1, .int x1)]) (st2 := [.int x1, .ref 51]) (I2 := m.I) (J2 := m.J) (fun hT v kk => ?_) ?_
    · refine sh_j0 (c := .eq) (off := (12)) (pc2 := 8) false rfl (sh_Zeqf c) rfl ?_
      refine sh_w (i := (.aload_n 0)) (len := 1) (pc2 := 9) (lv2 := [(0, .ref 49), (1, .int x1)]) (st2 := [.ref 49]) (h2 := (sh_rep m.T m.I m.J)) rfl rfl rfl ?_
      refine sh_gR1 (len := 3) (x := .ref 51) (pc2 := 12) rfl rfl (sh_s48 hT.st) rfl rfl ?_
      refine sh_w (i := (.iload_n 1)) (len := 1) (pc2 := 13) (lv2 := [(0, .ref 49), (1, .int x1)]) (st2 := [.int x1, .ref 51]) (h2 := (sh_rep m.T m.I m.J)) rfl rfl rfl ?_
      exact kk
    obtain ⟨c, e⟩ := sh_gd e
    refine sh_Lk_lift (T := m.T) (I := m.I) (J := m.J) (s := m.s) (pc2 := 18) (lv2 := [(0, .ref 49), (1, .int x1)]) (st2 := [.int (m.I 50 (Int32.toNatClampNeg x1))]) (I2 := m.I) (J2 := m.J) (fun hT v kk => ?_) ?_
    · refine sh_ia1 (x := m.I 50 (Int32.toNatClampNeg x1)) (pc2 := 14) rfl (sh_s50 hT.st) (sh_okb1 c) (sh_okb2 c) rfl rfl ?_
      refine sh_w (i := (.goto 4)) (len := 3) (pc2 := 18) (lv2 := [(0, .ref 49), (1, .int x1)]) (st2 := [.int (m.I 50 (Int32.toNatClampNeg x1))]) (h2 := (sh_rep m.T m.I m.J)) rfl rfl rfl ?_
      exact kk
    obtain rfl := Option.some.inj e
    obtain ⟨rfl, rfl⟩ := tg
    exact sh_Lk_ret (i := .ireturn) rfl rfl rfl (Nat.le_of_ble_eq_true rfl) (Nat.le_of_ble_eq_true rfl)
  · refine sh_Lk_lift (T := m.T) (I := m.I) (J := m.J) (s := m.s) (pc2 := 18) (lv2 := [(0, .ref 49), (1, .int x1)]) (st2 := [.int 0]) (I2 := m.I) (J2 := m.J) (fun hT v kk => ?_) ?_
    · refine sh_j0 (c := .eq) (off := (12)) (pc2 := 17) true rfl (sh_Zeqt c) rfl ?_
      refine sh_w (i := (.iconst 0)) (len := 1) (pc2 := 18) (lv2 := [(0, .ref 49), (1, .int x1)]) (st2 := [.int 0]) (h2 := (sh_rep m.T m.I m.J)) rfl rfl rfl ?_
      exact kk
    obtain rfl := Option.some.inj e
    obtain ⟨rfl, rfl⟩ := tg
    exact sh_Lk_ret (i := .ireturn) rfl rfl rfl (Nat.le_of_ble_eq_true rfl) (Nat.le_of_ble_eq_true rfl)
theorem sl_118 {x1 : Int32} {m m2 : sh_X} {o : Outcome} {z : (Unit × sh_X)} (e : sf_118 x1 m = some z) (tg : (sh_tV o m2) z) : sh_Lk 118 0 [(0, .ref 49), (1, .int x1)] [] m o m2 9 221 := by
  unfold sf_118 at e
  refine sh_Lk_lift (T := m.T) (I := m.I) (J := m.J) (s := m.s) (pc2 := 8) (lv2 := [(0, .ref 49), (1, .int x1)]) (st2 := [.int ((m.I 48 4) - x1), .int 0, .ref 49]) (I2 := m.I) (J2 := m.J) (fun hT v kk => ?_) ?_
  · refine sh_w (i := (.aload_n 0)) (len := 1) (pc2 := 1) (lv2 := [(0, .ref 49), (1, .int x1)]) (st2 := [.ref 49]) (h2 := (sh_rep m.T m.I m.J)) rfl rfl rfl ?_
    refine sh_w (i := (.iconst 0)) (len := 1) (pc2 := 2) (lv2 := [(0, .ref 49), (1, .int x1)]) (st2 := [.int 0, .ref 49]) (h2 := (sh_rep m.T m.I m.J)) rfl rfl rfl ?_
    refine sh_w (i := (.aload_n 0)) (len := 1) (pc2 := 3) (lv2 := [(0, .ref 49), (1, .int x1)]) (st2 := [.ref 49, .int 0, .ref 49]) (h2 := (sh_rep m.T m.I m.J)) rfl rfl rfl ?_
    refine sh_gI1 (len := 3) (x := m.I 48 4) (pc2 := 6) rfl rfl (sh_s48 hT.st) rfl rfl rfl ?_
    refine sh_w (i := (.iload_n 1)) (len := 1) (pc2 := 7) (lv2 := [(0, .ref 49), (1, .int x1)]) (st2 := [.int x1, .int (m.I 48 4), .int 0, .ref 49]) (h2 := (sh_rep m.T m.I m.J)) rfl rfl rfl ?_
    refine sh_w (i := .isub) (len := 1) (pc2 := 8) (lv2 := [(0, .ref 49), (1, .int x1)]) (st2 := [.int ((m.I 48 4) - x1), .int 0, .ref 49]) (h2 := (sh_rep m.T m.I m.J)) rfl rfl rfl ?_
    exact kk
  refine sh_Lk_cS (r := (some (.int (sf_42 0 ((m.I 48 4) - x1))))) (st2 := [.int (sf_42 0 ((m.I 48 4) - x1)), .ref 49]) (pc2 := 11) (k2 := 42) (as := [.int 0, .int ((m.I 48 4) - x1)]) (rest := [.ref 49]) rfl rfl (by decide) (Nat.le_of_ble_eq_true rfl) rfl rfl ⟨Nat.le_of_ble_eq_true rfl, Nat.le_of_ble_eq_true rfl⟩ (sl_42 (m := m) rfl ⟨rfl, rfl⟩) rfl rfl (Nat.le_of_ble_eq_true rfl) (Nat.le_of_ble_eq_true rfl) ?_
  refine sh_Lk_lift (T := m.T) (I := m.I) (J := m.J) (s := m.s) (pc2 := 14) (lv2 := [(0, .ref 49), (1, .int x1)]) (st2 := []) (I2 := sh_u2 m.I 48 4 (sf_42 0 ((m.I 48 4) - x1))) (J2 := m.J) (fun hT v kk => ?_) ?_
  · refine sh_pI1 (x := sf_42 0 ((m.I 48 4) - x1)) (pc2 := 14) rfl rfl (sh_s48 hT.st) rfl rfl rfl rfl ?_
    exact kk
  obtain rfl := Option.some.inj e
  obtain ⟨rfl, rfl⟩ := tg
  exact sh_Lk_ret (i := .return_) rfl rfl rfl (Nat.le_of_ble_eq_true rfl) (Nat.le_of_ble_eq_true rfl)
theorem sl_106_46 {x1 : Int32} {x2 : Int32} {m m2 : sh_X} {o : Outcome} {z : (Option Unit × sh_X)} (e : sf_106_46 x1 x2 m = some z) (tg : (sh_tVt o m2) z) : sh_Lk 106 46 [(0, .ref 42), (1, .int x1), (2, .int x2)] [] m o m2 11 272 := by
  unfold sf_106_46 at e
  refine sh_Lk_lift (T := m.T) (I := m.I) (J := m.J) (s := m.s) (pc2 := 55) (lv2 := [(0, .ref 42), (1, .int x1), (2, .int x2)]) (st2 := [.int x1, .ref 3, .ref 54]) (I2 := m.I) (J2 := m.J) (fun hT v kk => ?_) ?_
  · refine sh_w (i := (.aload_n 0)) (len := 1) (pc2 := 47) (lv2 := [(0, .ref 42), (1, .int x1), (2, .int x2)]) (st2 := [.ref 42]) (h2 := (sh_rep m.T m.I m.J)) rfl rfl rfl ?_
    refine sh_gR1 (len := 3) (x := .ref 54) (pc2 := 50) rfl rfl (sh_s41 hT.st) rfl rfl ?_
    refine sh_w (i := (.aload_n 0)) (len := 1) (pc2 := 51) (lv2 := [(0, .ref 42), (1, .int x1), (2, .int x2)]) (st2 := [.ref 42, .ref 54]) (h2 := (sh_rep m.T m.I m.J)) rfl rfl rfl ?_
    refine sh_gR1 (len := 3) (x := .ref 3) (pc2 := 54) rfl rfl (sh_s41 hT.st) rfl rfl ?_
    refine sh_w (i := (.iload_n 1)) (len := 1) (pc2 := 55) (lv2 := [(0, .ref 42), (1, .int x1), (2, .int x2)]) (st2 := [.int x1, .ref 3, .ref 54]) (h2 := (sh_rep m.T m.I m.J)) rfl rfl rfl ?_
    exact kk
  obtain ⟨r1, e1, e⟩ := sh_bc_e e
  refine sh_Lk_cV (r := (some (.int r1))) (st2 := [.int r1, .ref 54]) (pc2 := 58) (k2 := 83) (a := 2) (as := [.ref 3, .int x1]) (rest := [.ref 54]) rfl rfl rfl (fun hT => hT.t2) rfl rfl ⟨Nat.le_of_ble_eq_true rfl, Nat.le_of_ble_eq_true rfl⟩ (sl_83 e1 ⟨rfl, rfl⟩) rfl rfl (Nat.le_of_ble_eq_true rfl) (Nat.le_of_ble_eq_true rfl) ?_
  refine sh_Lk_lift (T := m.T) (I := m.I) (J := m.J) (s := m.s) (pc2 := 63) (lv2 := [(0, .ref 42), (1, .int x1), (2, .int x2)]) (st2 := [.int x2, .ref 49, .int r1, .ref 54]) (I2 := m.I) (J2 := m.J) (fun hT v kk => ?_) ?_
  · refine sh_w (i := (.aload_n 0)) (len := 1) (pc2 := 59) (lv2 := [(0, .ref 42), (1, .int x1), (2, .int x2)]) (st2 := [.ref 42, .int r1, .ref 54]) (h2 := (sh_rep m.T m.I m.J)) rfl rfl rfl ?_
    refine sh_gR1 (len := 3) (x := .ref 49) (pc2 := 62) rfl rfl (sh_s41 hT.st) rfl rfl ?_
    refine sh_w (i := (.iload_n 2)) (len := 1) (pc2 := 63) (lv2 := [(0, .ref 42), (1, .int x1), (2, .int x2)]) (st2 := [.int x2, .ref 49, .int r1, .ref 54]) (h2 := (sh_rep m.T m.I m.J)) rfl rfl rfl ?_
    exact kk
  obtain ⟨r2, e2, e⟩ := sh_bc_e e
  refine sh_Lk_cV (r := (some (.int r2))) (st2 := [.int r2, .int r1, .ref 54]) (pc2 := 66) (k2 := 108) (a := 48) (as := [.ref 49, .int x2]) (rest := [.int r1, .ref 54]) rfl rfl rfl (fun hT => (sh_s48 hT.st)) rfl rfl ⟨Nat.le_of_ble_eq_true rfl, Nat.le_of_ble_eq_true rfl⟩ (sl_108 e2 ⟨rfl, rfl⟩) rfl rfl (Nat.le_of_ble_eq_true rfl) (Nat.le_of_ble_eq_true rfl) ?_
  refine sh_Lk_lift (T := m.T) (I := m.I) (J := m.J) (s := m.s) (pc2 := 71) (lv2 := [(0, .ref 42), (1, .int x1), (2, .int x2)]) (st2 := [.int x2, .ref 49, .int r2, .int r1, .ref 54]) (I2 := m.I) (J2 := m.J) (fun hT v kk => ?_) ?_
  · refine sh_w (i := (.aload_n 0)) (len := 1) (pc2 := 67) (lv2 := [(0, .ref 42), (1, .int x1), (2, .int x2)]) (st2 := [.ref 42, .int r2, .int r1, .ref 54]) (h2 := (sh_rep m.T m.I m.J)) rfl rfl rfl ?_
    refine sh_gR1 (len := 3) (x := .ref 49) (pc2 := 70) rfl rfl (sh_s41 hT.st) rfl rfl ?_
    refine sh_w (i := (.iload_n 2)) (len := 1) (pc2 := 71) (lv2 := [(0, .ref 42), (1, .int x1), (2, .int x2)]) (st2 := [.int x2, .ref 49, .int r2, .int r1, .ref 54]) (h2 := (sh_rep m.T m.I m.J)) rfl rfl rfl ?_
    exact kk
  obtain ⟨r3, e3, e⟩ := sh_bc_e e
  refine sh_Lk_cV (r := (some (.int r3))) (st2 := [.int r3, .int r2, .int r1, .ref 54]) (pc2 := 74) (k2 := 117) (a := 48) (as := [.ref 49, .int x2]) (rest := [.int r2, .int r1, .ref 54]) rfl rfl rfl (fun hT => (sh_s48 hT.st)) rfl rfl ⟨Nat.le_of_ble_eq_true rfl, Nat.le_of_ble_eq_true rfl⟩ (sl_117 e3 ⟨rfl, rfl⟩) rfl rfl (Nat.le_of_ble_eq_true rfl) (Nat.le_of_ble_eq_true rfl) ?_
  refine sh_Lk_lift (T := m.T) (I := m.I) (J := m.J) (s := m.s) (pc2 := 75) (lv2 := [(0, .ref 42), (1, .int x1), (2, .int x2)]) (st2 := [.long 0, .int r3, .int r2, .int r1, .ref 54]) (I2 := m.I) (J2 := m.J) (fun hT v kk => ?_) ?_
  · refine sh_w (i := (.lconst 0)) (len := 1) (pc2 := 75) (lv2 := [(0, .ref 42), (1, .int x1), (2, .int x2)]) (st2 := [.long 0, .int r3, .int r2, .int r1, .ref 54]) (h2 := (sh_rep m.T m.I m.J)) rfl rfl rfl ?_
    exact kk
  obtain ⟨r4, m14, e4, e⟩ := sh_bn_e e
  refine sh_Lk_cV (r := none) (st2 := []) (pc2 := 78) (k2 := 105) (a := 53) (as := [.ref 54, .int r1, .int r2, .int r3, .long 0]) (rest := []) rfl rfl rfl (fun hT => (sh_s53 hT.st)) rfl rfl ⟨Nat.le_of_ble_eq_true rfl, Nat.le_of_ble_eq_true rfl⟩ (sl_105 e4 ⟨rfl, rfl⟩) rfl rfl (Nat.le_of_ble_eq_true rfl) (Nat.le_of_ble_eq_true rfl) ?_
  refine sh_Lk_lift (T := m14.T) (I := m14.I) (J := m14.J) (s := m14.s) (pc2 := 83) (lv2 := [(0, .ref 42), (1, .int x1), (2, .int x2)]) (st2 := [.int 1, .ref 49]) (I2 := m14.I) (J2 := m14.J) (fun hT v kk => ?_) ?_
  · refine sh_w (i := (.aload_n 0)) (len := 1) (pc2 := 79) (lv2 := [(0, .ref 42), (1, .int x1), (2, .int x2)]) (st2 := [.ref 42]) (h2 := (sh_rep m14.T m14.I m14.J)) rfl rfl rfl ?_
    refine sh_gR1 (len := 3) (x := .ref 49) (pc2 := 82) rfl rfl (sh_s41 hT.st) rfl rfl ?_
    refine sh_w (i := (.iconst 1)) (len := 1) (pc2 := 83) (lv2 := [(0, .ref 42), (1, .int x1), (2, .int x2)]) (st2 := [.int 1, .ref 49]) (h2 := (sh_rep m14.T m14.I m14.J)) rfl rfl rfl ?_
    exact kk
  obtain ⟨r5, m15, e5, e⟩ := sh_bn_e e
  refine sh_Lk_cV (r := none) (st2 := []) (pc2 := 86) (k2 := 118) (a := 48) (as := [.ref 49, .int 1]) (rest := []) rfl rfl rfl (fun hT => (sh_s48 hT.st)) rfl rfl ⟨Nat.le_of_ble_eq_true rfl, Nat.le_of_ble_eq_true rfl⟩ (sl_118 e5 ⟨rfl, rfl⟩) rfl rfl (Nat.le_of_ble_eq_true rfl) (Nat.le_of_ble_eq_true rfl) ?_
  obtain rfl := Option.some.inj e
  obtain ⟨rfl, rfl⟩ := tg
  exact sh_Lk_ret (i := .return_) rfl rfl rfl (Nat.le_of_ble_eq_true rfl) (Nat.le_of_ble_eq_true rfl)
theorem sl_106 {x1 : Int32} {m m2 : sh_X} {o : Outcome} {z : (Option Unit × sh_X)} (e : sf_106 x1 m = some z) (tg : (sh_tVt o m2) z) : sh_Lk 106 0 [(0, .ref 42), (1, .int x1)] [] m o m2 11 272 := by
  unfold sf_106 at e
  refine sh_Lk_lift (T := m.T) (I := m.I) (J := m.J) (s := m.s) (pc2 := 15) (lv2 := [(2, .int ((m.I 48 4) - 1)), (0, .ref 42), (1, .int x1)]) (st2 := [.int 160, .int ((m.I 48 4) - 1), .ref 42]) (I2 := m.I) (J2 := m.J) (fun hT v kk => ?_) ?_
  · refine sh_w (i := (.aload_n 0)) (len := 1) (pc2 := 1) (lv2 := [(0, .ref 42), (1, .int x1)]) (st2 := [.ref 42]) (h2 := (sh_rep m.T m.I m.J)) rfl rfl rfl ?_
    refine sh_gR1 (len := 3) (x := .ref 49) (pc2 := 4) rfl rfl (sh_s41 hT.st) rfl rfl ?_
    refine sh_gI1 (len := 3) (x := m.I 48 4) (pc2 := 7) rfl rfl (sh_s48 hT.st) rfl rfl rfl ?_
    refine sh_w (i := (.iconst 1)) (len := 1) (pc2 := 8) (lv2 := [(0, .ref 42), (1, .int x1)]) (st2 := [.int 1, .int (m.I 48 4)]) (h2 := (sh_rep m.T m.I m.J)) rfl rfl rfl ?_
    refine sh_w (i := .isub) (len := 1) (pc2 := 9) (lv2 := [(0, .ref 42), (1, .int x1)]) (st2 := [.int ((m.I 48 4) - 1)]) (h2 := (sh_rep m.T m.I m.J)) rfl rfl rfl ?_
    refine sh_w (i := (.istore_n 2)) (len := 1) (pc2 := 10) (lv2 := [(2, .int ((m.I 48 4) - 1)), (0, .ref 42), (1, .int x1)]) (st2 := []) (h2 := (sh_rep m.T m.I m.J)) rfl rfl rfl ?_
    refine sh_w (i := (.aload_n 0)) (len := 1) (pc2 := 11) (lv2 := [(2, .int ((m.I 48 4) - 1)), (0, .ref 42), (1, .int x1)]) (st2 := [.ref 42]) (h2 := (sh_rep m.T m.I m.J)) rfl rfl rfl ?_
    refine sh_w (i := (.iload_n 2)) (len := 1) (pc2 := 12) (lv2 := [(2, .int ((m.I 48 4) - 1)), (0, .ref 42), (1, .int x1)]) (st2 := [.int ((m.I 48 4) - 1), .ref 42]) (h2 := (sh_rep m.T m.I m.J)) rfl rfl rfl ?_
    refine sh_w (i := (.sipush 160)) (len := 3) (pc2 := 15) (lv2 := [(2, .int ((m.I 48 4) - 1)), (0, .ref 42), (1, .int x1)]) (st2 := [.int 160, .int ((m.I 48 4) - 1), .ref 42]) (h2 := (sh_rep m.T m.I m.J)) rfl rfl rfl ?_
    exact kk
  rcases sh_bt_e e with ⟨m11, e1, rfl⟩ | ⟨r1, m11, e1, e⟩
  · obtain ⟨rfl, rfl⟩ := tg
    exact sh_Lk_tV (k2 := 107) (a := 41) (as := [.ref 42, .int ((m.I 48 4) - 1), .int 160]) (rest := []) rfl rfl rfl (fun hT => (sh_s41 hT.st)) rfl rfl ⟨Nat.le_of_ble_eq_true rfl, Nat.le_of_ble_eq_true rfl⟩ (sl_107 e1 ⟨rfl, rfl⟩) rfl (Nat.le_of_ble_eq_true rfl) (Nat.le_of_ble_eq_true rfl) (Nat.le_of_ble_eq_true rfl) (Nat.le_of_ble_eq_true rfl) rfl
  refine sh_Lk_cV (r := none) (st2 := []) (pc2 := 18) (k2 := 107) (a := 41) (as := [.ref 42, .int ((m.I 48 4) - 1), .int 160]) (rest := []) rfl rfl rfl (fun hT => (sh_s41 hT.st)) rfl rfl ⟨Nat.le_of_ble_eq_true rfl, Nat.le_of_ble_eq_true rfl⟩ (sl_107 e1 ⟨rfl, rfl⟩) rfl rfl (Nat.le_of_ble_eq_true rfl) (Nat.le_of_ble_eq_true rfl) ?_
  refine sh_Lk_lift (T := m11.T) (I := m11.I) (J := m11.J) (s := m11.s) (pc2 := 27) (lv2 := [(2, .int ((m.I 48 4) - 1)), (0, .ref 42), (1, .int x1)]) (st2 := [.int x1, .ref 3, .ref 54]) (I2 := m11.I) (J2 := m11.J) (fun hT v kk => ?_) ?_
  · refine sh_w (i := (.aload_n 0)) (len := 1) (pc2 := 19) (lv2 := [(2, .int ((m.I 48 4) - 1)), (0, .ref 42), (1, .int x1)]) (st2 := [.ref 42]) (h2 := (sh_rep m11.T m11.I m11.J)) rfl rfl rfl ?_
    refine sh_gR1 (len := 3) (x := .ref 54) (pc2 := 22) rfl rfl (sh_s41 hT.st) rfl rfl ?_
    refine sh_w (i := (.aload_n 0)) (len := 1) (pc2 := 23) (lv2 := [(2, .int ((m.I 48 4) - 1)), (0, .ref 42), (1, .int x1)]) (st2 := [.ref 42, .ref 54]) (h2 := (sh_rep m11.T m11.I m11.J)) rfl rfl rfl ?_
    refine sh_gR1 (len := 3) (x := .ref 3) (pc2 := 26) rfl rfl (sh_s41 hT.st) rfl rfl ?_
    refine sh_w (i := (.iload_n 1)) (len := 1) (pc2 := 27) (lv2 := [(2, .int ((m.I 48 4) - 1)), (0, .ref 42), (1, .int x1)]) (st2 := [.int x1, .ref 3, .ref 54]) (h2 := (sh_rep m11.T m11.I m11.J)) rfl rfl rfl ?_
    exact kk
  obtain ⟨r2, e2, e⟩ := sh_bc_e e
  refine sh_Lk_cV (r := (some (.int r2))) (st2 := [.int r2, .ref 54]) (pc2 := 30) (k2 := 83) (a := 2) (as := [.ref 3, .int x1]) (rest := [.ref 54]) rfl rfl rfl (fun hT => hT.t2) rfl rfl ⟨Nat.le_of_ble_eq_true rfl, Nat.le_of_ble_eq_true rfl⟩ (sl_83 e2 ⟨rfl, rfl⟩) rfl rfl (Nat.le_of_ble_eq_true rfl) (Nat.le_of_ble_eq_true rfl) ?_
  obtain ⟨r3, e3, e⟩ := sh_bc_e e
  refine sh_Lk_cV (r := (some (.int r3))) (st2 := [.int r3]) (pc2 := 33) (k2 := 92) (a := 53) (as := [.ref 54, .int r2]) (rest := []) rfl rfl rfl (fun hT => (sh_s53 hT.st)) rfl rfl ⟨Nat.le_of_ble_eq_true rfl, Nat.le_of_ble_eq_true rfl⟩ (sl_92 e3 ⟨rfl, rfl⟩) rfl rfl (Nat.le_of_ble_eq_true rfl) (Nat.le_of_ble_eq_true rfl) ?_
  refine sh_Lk_lift (T := m11.T) (I := m11.I) (J := m11.J) (s := m11.s) (pc2 := 34) (lv2 := [(2, .int ((m.I 48 4) - 1)), (0, .ref 42), (1, .int x1)]) (st2 := [.int (-1), .int r3]) (I2 := m11.I) (J2 := m11.J) (fun hT v kk => ?_) ?_
  · refine sh_w (i := (.iconst (-1))) (len := 1) (pc2 := 34) (lv2 := [(2, .int ((m.I 48 4) - 1)), (0, .ref 42), (1, .int x1)]) (st2 := [.int (-1), .int r3]) (h2 := (sh_rep m11.T m11.I m11.J)) rfl rfl rfl ?_
    exact kk
  rcases sh_ite e with ⟨c, e⟩ | ⟨c, e⟩
  · refine sh_Lk_lift (T := m11.T) (I := m11.I) (J := m11.J) (s := m11.s) (pc2 := 46) (lv2 := [(2, .int ((m.I 48 4) - 1)), (0, .ref 42), (1, .int x1)]) (st2 := []) (I2 := m11.I) (J2 := m11.J) (fun hT v kk => ?_) ?_
    · refine sh_jc (c := .eq) (off := (12)) (pc2 := 46) true rfl (sh_Beqt c) rfl ?_
      exact kk
    exact sh_Lk_sub (sh_sub_c rfl (sh_sub_c rfl (sh_sub_c rfl (sh_sub_n)))) (sl_106_46 e tg)
  · refine sh_Lk_lift (T := m11.T) (I := m11.I) (J := m11.J) (s := m11.s) (pc2 := 43) (lv2 := [(2, .int ((m.I 48 4) - 1)), (0, .ref 42), (1, .int x1)]) (st2 := [.int x1, .int 3, .ref 3]) (I2 := m11.I) (J2 := m11.J) (fun hT v kk => ?_) ?_
    · refine sh_jc (c := .eq) (off := (12)) (pc2 := 37) false rfl (sh_Beqf c) rfl ?_
      refine sh_w (i := (.aload_n 0)) (len := 1) (pc2 := 38) (lv2 := [(2, .int ((m.I 48 4) - 1)), (0, .ref 42), (1, .int x1)]) (st2 := [.ref 42]) (h2 := (sh_rep m11.T m11.I m11.J)) rfl rfl rfl ?_
      refine sh_gR1 (len := 3) (x := .ref 3) (pc2 := 41) rfl rfl (sh_s41 hT.st) rfl rfl ?_
      refine sh_w (i := (.iconst 3)) (len := 1) (pc2 := 42) (lv2 := [(2, .int ((m.I 48 4) - 1)), (0, .ref 42), (1, .int x1)]) (st2 := [.int 3, .ref 3]) (h2 := (sh_rep m11.T m11.I m11.J)) rfl rfl rfl ?_
      refine sh_w (i := (.iload_n 1)) (len := 1) (pc2 := 43) (lv2 := [(2, .int ((m.I 48 4) - 1)), (0, .ref 42), (1, .int x1)]) (st2 := [.int x1, .int 3, .ref 3]) (h2 := (sh_rep m11.T m11.I m11.J)) rfl rfl rfl ?_
      exact kk
    rcases sh_bt_e e with ⟨m14, e4, rfl⟩ | ⟨r4, m14, e4, e⟩
    · obtain ⟨rfl, rfl⟩ := tg
      exact sh_Lk_tV (k2 := 50) (a := 2) (as := [.ref 3, .int 3, .int x1]) (rest := []) rfl rfl rfl (fun hT => hT.t2) rfl rfl ⟨Nat.le_of_ble_eq_true rfl, Nat.le_of_ble_eq_true rfl⟩ (sl_50 e4 ⟨rfl, rfl⟩) rfl (Nat.le_of_ble_eq_true rfl) (Nat.le_of_ble_eq_true rfl) (Nat.le_of_ble_eq_true rfl) (Nat.le_of_ble_eq_true rfl) rfl
    refine sh_Lk_cV (r := none) (st2 := []) (pc2 := 46) (k2 := 50) (a := 2) (as := [.ref 3, .int 3, .int x1]) (rest := []) rfl rfl rfl (fun hT => hT.t2) rfl rfl ⟨Nat.le_of_ble_eq_true rfl, Nat.le_of_ble_eq_true rfl⟩ (sl_50 e4 ⟨rfl, rfl⟩) rfl rfl (Nat.le_of_ble_eq_true rfl) (Nat.le_of_ble_eq_true rfl) ?_
    exact sh_Lk_sub (sh_sub_c rfl (sh_sub_c rfl (sh_sub_c rfl (sh_sub_n)))) (sl_106_46 e tg)
theorem sl_121 {x1 : Int32} {m m2 : sh_X} {o : Outcome} {z : Bool} (e : sf_121 x1 m = some z) (tg : (sh_tZc m o m2) z) : sh_Lk 121 0 [(0, .ref 54), (1, .int x1)] [] m o m2 8 200 := by
  unfold sf_121 at e
  refine sh_Lk_lift (T := m.T) (I := m.I) (J := m.J) (s := m.s) (pc2 := 1) (lv2 := [(0, .ref 54), (1, .int x1)]) (st2 := [.int x1]) (I2 := m.I) (J2 := m.J) (fun hT v kk => ?_) ?_
  · refine sh_w (i := (.iload_n 1)) (len := 1) (pc2 := 1) (lv2 := [(0, .ref 54), (1, .int x1)]) (st2 := [.int x1]) (h2 := (sh_rep m.T m.I m.J)) rfl rfl rfl ?_
    exact kk
  rcases sh_ite e with ⟨c, e⟩ | ⟨c, e⟩
  · refine sh_Lk_lift (T := m.T) (I := m.I) (J := m.J) (s := m.s) (pc2 := 17) (lv2 := [(0, .ref 54), (1, .int x1)]) (st2 := [.int 0]) (I2 := m.I) (J2 := m.J) (fun hT v kk => ?_) ?_
    · refine sh_j0 (c := .lt) (off := (15)) (pc2 := 16) true rfl (sh_Bltt c) rfl ?_
      refine sh_w (i := (.iconst 0)) (len := 1) (pc2 := 17) (lv2 := [(0, .ref 54), (1, .int x1)]) (st2 := [.int 0]) (h2 := (sh_rep m.T m.I m.J)) rfl rfl rfl ?_
      exact kk
    obtain rfl := Option.some.inj e
    obtain ⟨rfl, rfl⟩ := tg
    exact sh_Lk_ret (i := .ireturn) rfl rfl rfl (Nat.le_of_ble_eq_true rfl) (Nat.le_of_ble_eq_true rfl)
  · refine sh_Lk_lift (T := m.T) (I := m.I) (J := m.J) (s := m.s) (pc2 := 9) (lv2 := [(0, .ref 54), (1, .int x1)]) (st2 := [.int (m.I 53 4), .int x1]) (I2 := m.I) (J2 := m.J) (fun hT v kk => ?_) ?_
    · refine sh_j0 (c := .lt) (off := (15)) (pc2 := 4) false rfl (sh_Bltf c) rfl ?_
      refine sh_w (i := (.iload_n 1)) (len := 1) (pc2 := 5) (lv2 := [(0, .ref 54), (1, .int x1)]) (st2 := [.int x1]) (h2 := (sh_rep m.T m.I m.J)) rfl rfl rfl ?_
      refine sh_w (i := (.aload_n 0)) (len := 1) (pc2 := 6) (lv2 := [(0, .ref 54), (1, .int x1)]) (st2 := [.ref 54, .int x1]) (h2 := (sh_rep m.T m.I m.J)) rfl rfl rfl ?_
      refine sh_gI1 (len := 3) (x := m.I 53 4) (pc2 := 9) rfl rfl (sh_s53 hT.st) rfl rfl rfl ?_
      exact kk
    rcases sh_ite e with ⟨c, e⟩ | ⟨c, e⟩
    · refine sh_Lk_lift (T := m.T) (I := m.I) (J := m.J) (s := m.s) (pc2 := 17) (lv2 := [(0, .ref 54), (1, .int x1)]) (st2 := [.int 1]) (I2 := m.I) (J2 := m.J) (fun hT v kk => ?_) ?_
      · refine sh_jc (c := .ge) (off := (7)) (pc2 := 12) false rfl (sh_Bgef c) rfl ?_
        refine sh_w (i := (.iconst 1)) (len := 1) (pc2 := 13) (lv2 := [(0, .ref 54), (1, .int x1)]) (st2 := [.int 1]) (h2 := (sh_rep m.T m.I m.J)) rfl rfl rfl ?_
        refine sh_w (i := (.goto 4)) (len := 3) (pc2 := 17) (lv2 := [(0, .ref 54), (1, .int x1)]) (st2 := [.int 1]) (h2 := (sh_rep m.T m.I m.J)) rfl rfl rfl ?_
        exact kk
      obtain rfl := Option.some.inj e
      obtain ⟨rfl, rfl⟩ := tg
      exact sh_Lk_ret (i := .ireturn) rfl rfl rfl (Nat.le_of_ble_eq_true rfl) (Nat.le_of_ble_eq_true rfl)
    · refine sh_Lk_lift (T := m.T) (I := m.I) (J := m.J) (s := m.s) (pc2 := 17) (lv2 := [(0, .ref 54), (1, .int x1)]) (st2 := [.int 0]) (I2 := m.I) (J2 := m.J) (fun hT v kk => ?_) ?_
      · refine sh_jc (c := .ge) (off := (7)) (pc2 := 16) true rfl (sh_Bget c) rfl ?_
        refine sh_w (i := (.iconst 0)) (len := 1) (pc2 := 17) (lv2 := [(0, .ref 54), (1, .int x1)]) (st2 := [.int 0]) (h2 := (sh_rep m.T m.I m.J)) rfl rfl rfl ?_
        exact kk
      obtain rfl := Option.some.inj e
      obtain ⟨rfl, rfl⟩ := tg
      exact sh_Lk_ret (i := .ireturn) rfl rfl rfl (Nat.le_of_ble_eq_true rfl) (Nat.le_of_ble_eq_true rfl)
theorem sl_120 {x1 : Int32} {m m2 : sh_X} {o : Outcome} {z : Int32} (e : sf_120 x1 m = some z) (tg : (sh_tIc m o m2) z) : sh_Lk 120 0 [(0, .ref 54), (1, .int x1)] [] m o m2 9 221 := by
  unfold sf_120 at e
  refine sh_Lk_lift (T := m.T) (I := m.I) (J := m.J) (s := m.s) (pc2 := 2) (lv2 := [(0, .ref 54), (1, .int x1)]) (st2 := [.int x1, .ref 54]) (I2 := m.I) (J2 := m.J) (fun hT v kk => ?_) ?_
  · refine sh_w (i := (.aload_n 0)) (len := 1) (pc2 := 1) (lv2 := [(0, .ref 54), (1, .int x1)]) (st2 := [.ref 54]) (h2 := (sh_rep m.T m.I m.J)) rfl rfl rfl ?_
    refine sh_w (i := (.iload_n 1)) (len := 1) (pc2 := 2) (lv2 := [(0, .ref 54), (1, .int x1)]) (st2 := [.int x1, .ref 54]) (h2 := (sh_rep m.T m.I m.J)) rfl rfl rfl ?_
    exact kk
  obtain ⟨r1, e1, e⟩ := sh_bc_e e
  refine sh_Lk_cV (r := (some (.int (sh_b2 r1)))) (st2 := [.int (sh_b2 r1)]) (pc2 := 5) (k2 := 121) (a := 53) (as := [.ref 54, .int x1]) (rest := []) rfl rfl rfl (fun hT => (sh_s53 hT.st)) rfl rfl ⟨Nat.le_of_ble_eq_true rfl, Nat.le_of_ble_eq_true rfl⟩ (sl_121 e1 ⟨rfl, rfl⟩) rfl rfl (Nat.le_of_ble_eq_true rfl) (Nat.le_of_ble_eq_true rfl) ?_
  rcases sh_ite e with ⟨c, e⟩ | ⟨c, e⟩
  · refine sh_Lk_lift (T := m.T) (I := m.I) (J := m.J) (s := m.s) (pc2 := 13) (lv2 := [(0, .ref 54), (1, .int x1)]) (st2 := [.int x1, .ref 56]) (I2 := m.I) (J2 := m.J) (fun hT v kk => ?_) ?_
    · refine sh_j0 (c := .eq) (off := (12)) (pc2 := 8) false rfl (sh_Zeqf c) rfl ?_
      refine sh_w (i := (.aload_n 0)) (len := 1) (pc2 := 9) (lv2 := [(0, .ref 54), (1, .int x1)]) (st2 := [.ref 54]) (h2 := (sh_rep m.T m.I m.J)) rfl rfl rfl ?_
      refine sh_gR1 (len := 3) (x := .ref 56) (pc2 := 12) rfl rfl (sh_s53 hT.st) rfl rfl ?_
      refine sh_w (i := (.iload_n 1)) (len := 1) (pc2 := 13) (lv2 := [(0, .ref 54), (1, .int x1)]) (st2 := [.int x1, .ref 56]) (h2 := (sh_rep m.T m.I m.J)) rfl rfl rfl ?_
      exact kk
    obtain ⟨c, e⟩ := sh_gd e
    refine sh_Lk_lift (T := m.T) (I := m.I) (J := m.J) (s := m.s) (pc2 := 18) (lv2 := [(0, .ref 54), (1, .int x1)]) (st2 := [.int (m.I 55 (Int32.toNatClampNeg x1))]) (I2 := m.I) (J2 := m.J) (fun hT v kk => ?_) ?_
    · refine sh_ia1 (x := m.I 55 (Int32.toNatClampNeg x1)) (pc2 := 14) rfl (sh_s55 hT.st) (sh_okb1 c) (sh_okb2 c) rfl rfl ?_
      refine sh_w (i := (.goto 4)) (len := 3) (pc2 := 18) (lv2 := [(0, .ref 54), (1, .int x1)]) (st2 := [.int (m.I 55 (Int32.toNatClampNeg x1))]) (h2 := (sh_rep m.T m.I m.J)) rfl rfl rfl ?_
      exact kk
    obtain rfl := Option.some.inj e
    obtain ⟨rfl, rfl⟩ := tg
    exact sh_Lk_ret (i := .ireturn) rfl rfl rfl (Nat.le_of_ble_eq_true rfl) (Nat.le_of_ble_eq_true rfl)
  · refine sh_Lk_lift (T := m.T) (I := m.I) (J := m.J) (s := m.s) (pc2 := 18) (lv2 := [(0, .ref 54), (1, .int x1)]) (st2 := [.int 0]) (I2 := m.I) (J2 := m.J) (fun hT v kk => ?_) ?_
    · refine sh_j0 (c := .eq) (off := (12)) (pc2 := 17) true rfl (sh_Zeqt c) rfl ?_
      refine sh_w (i := (.iconst 0)) (len := 1) (pc2 := 18) (lv2 := [(0, .ref 54), (1, .int x1)]) (st2 := [.int 0]) (h2 := (sh_rep m.T m.I m.J)) rfl rfl rfl ?_
      exact kk
    obtain rfl := Option.some.inj e
    obtain ⟨rfl, rfl⟩ := tg
    exact sh_Lk_ret (i := .ireturn) rfl rfl rfl (Nat.le_of_ble_eq_true rfl) (Nat.le_of_ble_eq_true rfl)
theorem sl_119_30 {x1 : Int32} {x2 : Int32} {m m2 : sh_X} {o : Outcome} {z : (Option Unit × sh_X)} (e : sf_119_30 x1 x2 m = some z) (tg : (sh_tVt o m2) z) : sh_Lk 119 30 [(0, .ref 42), (1, .int x1), (2, .int x2)] [] m o m2 10 242 := by
  unfold sf_119_30 at e
  refine sh_Lk_lift (T := m.T) (I := m.I) (J := m.J) (s := m.s) (pc2 := 35) (lv2 := [(0, .ref 42), (1, .int x1), (2, .int x2)]) (st2 := [.int x2, .ref 54]) (I2 := m.I) (J2 := m.J) (fun hT v kk => ?_) ?_
  · refine sh_w (i := (.aload_n 0)) (len := 1) (pc2 := 31) (lv2 := [(0, .ref 42), (1, .int x1), (2, .int x2)]) (st2 := [.ref 42]) (h2 := (sh_rep m.T m.I m.J)) rfl rfl rfl ?_
    refine sh_gR1 (len := 3) (x := .ref 54) (pc2 := 34) rfl rfl (sh_s41 hT.st) rfl rfl ?_
    refine sh_w (i := (.iload_n 2)) (len := 1) (pc2 := 35) (lv2 := [(0, .ref 42), (1, .int x1), (2, .int x2)]) (st2 := [.int x2, .ref 54]) (h2 := (sh_rep m.T m.I m.J)) rfl rfl rfl ?_
    exact kk
  obtain ⟨r1, e1, e⟩ := sh_bc_e e
  refine sh_Lk_cV (r := (some (.int r1))) (st2 := [.int r1]) (pc2 := 38) (k2 := 120) (a := 53) (as := [.ref 54, .int x2]) (rest := []) rfl rfl rfl (fun hT => (sh_s53 hT.st)) rfl rfl ⟨Nat.le_of_ble_eq_true rfl, Nat.le_of_ble_eq_true rfl⟩ (sl_120 e1 ⟨rfl, rfl⟩) rfl rfl (Nat.le_of_ble_eq_true rfl) (Nat.le_of_ble_eq_true rfl) ?_
  rcases sh_ite e with ⟨c, e⟩ | ⟨c, e⟩
  · refine sh_Lk_lift (T := m.T) (I := m.I) (J := m.J) (s := m.s) (pc2 := 47) (lv2 := [(0, .ref 42), (1, .int x1), (2, .int x2)]) (st2 := [.int x1, .int 4, .ref 3]) (I2 := m.I) (J2 := m.J) (fun hT v kk => ?_) ?_
    · refine sh_j0 (c := .ne) (off := (12)) (pc2 := 41) false rfl (sh_Bnef c) rfl ?_
      refine sh_w (i := (.aload_n 0)) (len := 1) (pc2 := 42) (lv2 := [(0, .ref 42), (1, .int x1), (2, .int x2)]) (st2 := [.ref 42]) (h2 := (sh_rep m.T m.I m.J)) rfl rfl rfl ?_
      refine sh_gR1 (len := 3) (x := .ref 3) (pc2 := 45) rfl rfl (sh_s41 hT.st) rfl rfl ?_
      refine sh_w (i := (.iconst 4)) (len := 1) (pc2 := 46) (lv2 := [(0, .ref 42), (1, .int x1), (2, .int x2)]) (st2 := [.int 4, .ref 3]) (h2 := (sh_rep m.T m.I m.J)) rfl rfl rfl ?_
      refine sh_w (i := (.iload_n 1)) (len := 1) (pc2 := 47) (lv2 := [(0, .ref 42), (1, .int x1), (2, .int x2)]) (st2 := [.int x1, .int 4, .ref 3]) (h2 := (sh_rep m.T m.I m.J)) rfl rfl rfl ?_
      exact kk
    rcases sh_bt_e e with ⟨m12, e2, rfl⟩ | ⟨r2, m12, e2, e⟩
    · obtain ⟨rfl, rfl⟩ := tg
      exact sh_Lk_tV (k2 := 50) (a := 2) (as := [.ref 3, .int 4, .int x1]) (rest := []) rfl rfl rfl (fun hT => hT.t2) rfl rfl ⟨Nat.le_of_ble_eq_true rfl, Nat.le_of_ble_eq_true rfl⟩ (sl_50 e2 ⟨rfl, rfl⟩) rfl (Nat.le_of_ble_eq_true rfl) (Nat.le_of_ble_eq_true rfl) (Nat.le_of_ble_eq_true rfl) (Nat.le_of_ble_eq_true rfl) rfl
    refine sh_Lk_cV (r := none) (st2 := []) (pc2 := 50) (k2 := 50) (a := 2) (as := [.ref 3, .int 4, .int x1]) (rest := []) rfl rfl rfl (fun hT => hT.t2) rfl rfl ⟨Nat.le_of_ble_eq_true rfl, Nat.le_of_ble_eq_true rfl⟩ (sl_50 e2 ⟨rfl, rfl⟩) rfl rfl (Nat.le_of_ble_eq_true rfl) (Nat.le_of_ble_eq_true rfl) ?_
    obtain rfl := Option.some.inj e
    obtain ⟨rfl, rfl⟩ := tg
    exact sh_Lk_ret (i := .return_) rfl rfl rfl (Nat.le_of_ble_eq_true rfl) (Nat.le_of_ble_eq_true rfl)
  · refine sh_Lk_lift (T := m.T) (I := m.I) (J := m.J) (s := m.s) (pc2 := 50) (lv2 := [(0, .ref 42), (1, .int x1), (2, .int x2)]) (st2 := []) (I2 := m.I) (J2 := m.J) (fun hT v kk => ?_) ?_
    · refine sh_j0 (c := .ne) (off := (12)) (pc2 := 50) true rfl (sh_Bnet c) rfl ?_
      exact kk
    obtain rfl := Option.some.inj e
    obtain ⟨rfl, rfl⟩ := tg
    exact sh_Lk_ret (i := .return_) rfl rfl rfl (Nat.le_of_ble_eq_true rfl) (Nat.le_of_ble_eq_true rfl)
theorem sl_119 {x1 : Int32} {m m2 : sh_X} {o : Outcome} {z : (Option Unit × sh_X)} (e : sf_119 x1 m = some z) (tg : (sh_tVt o m2) z) : sh_Lk 119 0 [(0, .ref 42), (1, .int x1)] [] m o m2 10 242 := by
  unfold sf_119 at e
  refine sh_Lk_lift (T := m.T) (I := m.I) (J := m.J) (s := m.s) (pc2 := 9) (lv2 := [(0, .ref 42), (1, .int x1)]) (st2 := [.int x1, .ref 3, .ref 54]) (I2 := m.I) (J2 := m.J) (fun hT v kk => ?_) ?_
  · refine sh_w (i := (.aload_n 0)) (len := 1) (pc2 := 1) (lv2 := [(0, .ref 42), (1, .int x1)]) (st2 := [.ref 42]) (h2 := (sh_rep m.T m.I m.J)) rfl rfl rfl ?_
    refine sh_gR1 (len := 3) (x := .ref 54) (pc2 := 4) rfl rfl (sh_s41 hT.st) rfl rfl ?_
    refine sh_w (i := (.aload_n 0)) (len := 1) (pc2 := 5) (lv2 := [(0, .ref 42), (1, .int x1)]) (st2 := [.ref 42, .ref 54]) (h2 := (sh_rep m.T m.I m.J)) rfl rfl rfl ?_
    refine sh_gR1 (len := 3) (x := .ref 3) (pc2 := 8) rfl rfl (sh_s41 hT.st) rfl rfl ?_
    refine sh_w (i := (.iload_n 1)) (len := 1) (pc2 := 9) (lv2 := [(0, .ref 42), (1, .int x1)]) (st2 := [.int x1, .ref 3, .ref 54]) (h2 := (sh_rep m.T m.I m.J)) rfl rfl rfl ?_
    exact kk
  obtain ⟨r1, e1, e⟩ := sh_bc_e e
  refine sh_Lk_cV (r := (some (.int r1))) (st2 := [.int r1, .ref 54]) (pc2 := 12) (k2 := 83) (a := 2) (as := [.ref 3, .int x1]) (rest := [.ref 54]) rfl rfl rfl (fun hT => hT.t2) rfl rfl ⟨Nat.le_of_ble_eq_true rfl, Nat.le_of_ble_eq_true rfl⟩ (sl_83 e1 ⟨rfl, rfl⟩) rfl rfl (Nat.le_of_ble_eq_true rfl) (Nat.le_of_ble_eq_true rfl) ?_
  obtain ⟨r2, e2, e⟩ := sh_bc_e e
  refine sh_Lk_cV (r := (some (.int r2))) (st2 := [.int r2]) (pc2 := 15) (k2 := 92) (a := 53) (as := [.ref 54, .int r1]) (rest := []) rfl rfl rfl (fun hT => (sh_s53 hT.st)) rfl rfl ⟨Nat.le_of_ble_eq_true rfl, Nat.le_of_ble_eq_true rfl⟩ (sl_92 e2 ⟨rfl, rfl⟩) rfl rfl (Nat.le_of_ble_eq_true rfl) (Nat.le_of_ble_eq_true rfl) ?_
  refine sh_Lk_lift (T := m.T) (I := m.I) (J := m.J) (s := m.s) (pc2 := 18) (lv2 := [(2, .int r2), (0, .ref 42), (1, .int x1)]) (st2 := [.int (-1), .int r2]) (I2 := m.I) (J2 := m.J) (fun hT v kk => ?_) ?_
  · refine sh_w (i := (.istore_n 2)) (len := 1) (pc2 := 16) (lv2 := [(2, .int r2), (0, .ref 42), (1, .int x1)]) (st2 := []) (h2 := (sh_rep m.T m.I m.J)) rfl rfl rfl ?_
    refine sh_w (i := (.iload_n 2)) (len := 1) (pc2 := 17) (lv2 := [(2, .int r2), (0, .ref 42), (1, .int x1)]) (st2 := [.int r2]) (h2 := (sh_rep m.T m.I m.J)) rfl rfl rfl ?_
    refine sh_w (i := (.iconst (-1))) (len := 1) (pc2 := 18) (lv2 := [(2, .int r2), (0, .ref 42), (1, .int x1)]) (st2 := [.int (-1), .int r2]) (h2 := (sh_rep m.T m.I m.J)) rfl rfl rfl ?_
    exact kk
  rcases sh_ite e with ⟨c, e⟩ | ⟨c, e⟩
  · refine sh_Lk_lift (T := m.T) (I := m.I) (J := m.J) (s := m.s) (pc2 := 27) (lv2 := [(2, .int r2), (0, .ref 42), (1, .int x1)]) (st2 := [.int x1, .int 3, .ref 3]) (I2 := m.I) (J2 := m.J) (fun hT v kk => ?_) ?_
    · refine sh_jc (c := .ne) (off := (12)) (pc2 := 21) false rfl (sh_Bnef c) rfl ?_
      refine sh_w (i := (.aload_n 0)) (len := 1) (pc2 := 22) (lv2 := [(2, .int r2), (0, .ref 42), (1, .int x1)]) (st2 := [.ref 42]) (h2 := (sh_rep m.T m.I m.J)) rfl rfl rfl ?_
      refine sh_gR1 (len := 3) (x := .ref 3) (pc2 := 25) rfl rfl (sh_s41 hT.st) rfl rfl ?_
      refine sh_w (i := (.iconst 3)) (len := 1) (pc2 := 26) (lv2 := [(2, .int r2), (0, .ref 42), (1, .int x1)]) (st2 := [.int 3, .ref 3]) (h2 := (sh_rep m.T m.I m.J)) rfl rfl rfl ?_
      refine sh_w (i := (.iload_n 1)) (len := 1) (pc2 := 27) (lv2 := [(2, .int r2), (0, .ref 42), (1, .int x1)]) (st2 := [.int x1, .int 3, .ref 3]) (h2 := (sh_rep m.T m.I m.J)) rfl rfl rfl ?_
      exact kk
    rcases sh_bt_e e with ⟨m13, e3, rfl⟩ | ⟨r3, m13, e3, e⟩
    · obtain ⟨rfl, rfl⟩ := tg
      exact sh_Lk_tV (k2 := 50) (a := 2) (as := [.ref 3, .int 3, .int x1]) (rest := []) rfl rfl rfl (fun hT => hT.t2) rfl rfl ⟨Nat.le_of_ble_eq_true rfl, Nat.le_of_ble_eq_true rfl⟩ (sl_50 e3 ⟨rfl, rfl⟩) rfl (Nat.le_of_ble_eq_true rfl) (Nat.le_of_ble_eq_true rfl) (Nat.le_of_ble_eq_true rfl) (Nat.le_of_ble_eq_true rfl) rfl
    refine sh_Lk_cV (r := none) (st2 := []) (pc2 := 30) (k2 := 50) (a := 2) (as := [.ref 3, .int 3, .int x1]) (rest := []) rfl rfl rfl (fun hT => hT.t2) rfl rfl ⟨Nat.le_of_ble_eq_true rfl, Nat.le_of_ble_eq_true rfl⟩ (sl_50 e3 ⟨rfl, rfl⟩) rfl rfl (Nat.le_of_ble_eq_true rfl) (Nat.le_of_ble_eq_true rfl) ?_
    exact sh_Lk_sub (sh_sub_c rfl (sh_sub_c rfl (sh_sub_c rfl (sh_sub_n)))) (sl_119_30 e tg)
  · refine sh_Lk_lift (T := m.T) (I := m.I) (J := m.J) (s := m.s) (pc2 := 30) (lv2 := [(2, .int r2), (0, .ref 42), (1, .int x1)]) (st2 := []) (I2 := m.I) (J2 := m.J) (fun hT v kk => ?_) ?_
    · refine sh_jc (c := .ne) (off := (12)) (pc2 := 30) true rfl (sh_Bnet c) rfl ?_
      exact kk
    exact sh_Lk_sub (sh_sub_c rfl (sh_sub_c rfl (sh_sub_c rfl (sh_sub_n)))) (sl_119_30 e tg)
theorem sl_123 {x0 : Int32} {m m2 : sh_X} {o : Outcome} {z : Bool} (e : sf_123 x0 = z) (tg : (sh_tZc m o m2) z) : sh_Lk 123 0 [(0, .int x0)] [] m o m2 8 200 := by
  unfold sf_123 at e
  refine sh_Lk_lift (T := m.T) (I := m.I) (J := m.J) (s := m.s) (pc2 := 4) (lv2 := [(0, .int x0)]) (st2 := [.int 512, .int x0]) (I2 := m.I) (J2 := m.J) (fun hT v kk => ?_) ?_
  · refine sh_w (i := (.iload_n 0)) (len := 1) (pc2 := 1) (lv2 := [(0, .int x0)]) (st2 := [.int x0]) (h2 := (sh_rep m.T m.I m.J)) rfl rfl rfl ?_
    refine sh_w (i := (.sipush 512)) (len := 3) (pc2 := 4) (lv2 := [(0, .int x0)]) (st2 := [.int 512, .int x0]) (h2 := (sh_rep m.T m.I m.J)) rfl rfl rfl ?_
    exact kk
  rcases sh_ite e with ⟨c, e⟩ | ⟨c, e⟩
  · refine sh_Lk_lift (T := m.T) (I := m.I) (J := m.J) (s := m.s) (pc2 := 12) (lv2 := [(0, .int x0)]) (st2 := [.int 0]) (I2 := m.I) (J2 := m.J) (fun hT v kk => ?_) ?_
    · refine sh_jc (c := .lt) (off := (7)) (pc2 := 11) true rfl (sh_Bltt c) rfl ?_
      refine sh_w (i := (.iconst 0)) (len := 1) (pc2 := 12) (lv2 := [(0, .int x0)]) (st2 := [.int 0]) (h2 := (sh_rep m.T m.I m.J)) rfl rfl rfl ?_
      exact kk
    obtain rfl := e
    obtain ⟨rfl, rfl⟩ := tg
    exact sh_Lk_ret (i := .ireturn) rfl rfl rfl (Nat.le_of_ble_eq_true rfl) (Nat.le_of_ble_eq_true rfl)
  · refine sh_Lk_lift (T := m.T) (I := m.I) (J := m.J) (s := m.s) (pc2 := 12) (lv2 := [(0, .int x0)]) (st2 := [.int 1]) (I2 := m.I) (J2 := m.J) (fun hT v kk => ?_) ?_
    · refine sh_jc (c := .lt) (off := (7)) (pc2 := 7) false rfl (sh_Bltf c) rfl ?_
      refine sh_w (i := (.iconst 1)) (len := 1) (pc2 := 8) (lv2 := [(0, .int x0)]) (st2 := [.int 1]) (h2 := (sh_rep m.T m.I m.J)) rfl rfl rfl ?_
      refine sh_w (i := (.goto 4)) (len := 3) (pc2 := 12) (lv2 := [(0, .int x0)]) (st2 := [.int 1]) (h2 := (sh_rep m.T m.I m.J)) rfl rfl rfl ?_
      exact kk
    obtain rfl := e
    obtain ⟨rfl, rfl⟩ := tg
    exact sh_Lk_ret (i := .ireturn) rfl rfl rfl (Nat.le_of_ble_eq_true rfl) (Nat.le_of_ble_eq_true rfl)
theorem sl_122 {x1 : Int32} {x2 : Int32} {m m2 : sh_X} {o : Outcome} {z : (Option Unit × sh_X)} (e : sf_122 x1 x2 m = some z) (tg : (sh_tVt o m2) z) : sh_Lk 122 0 [(0, .ref 42), (1, .int x1), (2, .int x2)] [] m o m2 10 242 := by
  unfold sf_122 at e
  refine sh_Lk_lift (T := m.T) (I := m.I) (J := m.J) (s := m.s) (pc2 := 13) (lv2 := [(0, .ref 42), (1, .int x1), (2, .int x2)]) (st2 := [.int x2, .ref 3, .ref 54, .ref 54]) (I2 := m.I) (J2 := m.J) (fun hT v kk => ?_) ?_
  · refine sh_w (i := (.aload_n 0)) (len := 1) (pc2 := 1) (lv2 := [(0, .ref 42), (1, .int x1), (2, .int x2)]) (st2 := [.ref 42]) (h2 := (sh_rep m.T m.I m.J)) rfl rfl rfl ?_
    refine sh_gR1 (len := 3) (x := .ref 54) (pc2 := 4) rfl rfl (sh_s41 hT.st) rfl rfl ?_
    refine sh_w (i := (.aload_n 0)) (len := 1) (pc2 := 5) (lv2 := [(0, .ref 42), (1, .int x1), (2, .int x2)]) (st2 := [.ref 42, .ref 54]) (h2 := (sh_rep m.T m.I m.J)) rfl rfl rfl ?_
    refine sh_gR1 (len := 3) (x := .ref 54) (pc2 := 8) rfl rfl (sh_s41 hT.st) rfl rfl ?_
    refine sh_w (i := (.aload_n 0)) (len := 1) (pc2 := 9) (lv2 := [(0, .ref 42), (1, .int x1), (2, .int x2)]) (st2 := [.ref 42, .ref 54, .ref 54]) (h2 := (sh_rep m.T m.I m.J)) rfl rfl rfl ?_
    refine sh_gR1 (len := 3) (x := .ref 3) (pc2 := 12) rfl rfl (sh_s41 hT.st) rfl rfl ?_
    refine sh_w (i := (.iload_n 2)) (len := 1) (pc2 := 13) (lv2 := [(0, .ref 42), (1, .int x1), (2, .int x2)]) (st2 := [.int x2, .ref 3, .ref 54, .ref 54]) (h2 := (sh_rep m.T m.I m.J)) rfl rfl rfl ?_
    exact kk
  obtain ⟨r1, e1, e⟩ := sh_bc_e e
  refine sh_Lk_cV (r := (some (.int r1))) (st2 := [.int r1, .ref 54, .ref 54]) (pc2 := 16) (k2 := 83) (a := 2) (as := [.ref 3, .int x2]) (rest := [.ref 54, .ref 54]) rfl rfl rfl (fun hT => hT.t2) rfl rfl ⟨Nat.le_of_ble_eq_true rfl, Nat.le_of_ble_eq_true rfl⟩ (sl_83 e1 ⟨rfl, rfl⟩) rfl rfl (Nat.le_of_ble_eq_true rfl) (Nat.le_of_ble_eq_true rfl) ?_
  obtain ⟨r2, e2, e⟩ := sh_bc_e e
  refine sh_Lk_cV (r := (some (.int r2))) (st2 := [.int r2, .ref 54]) (pc2 := 19) (k2 := 92) (a := 53) (as := [.ref 54, .int r1]) (rest := [.ref 54]) rfl rfl rfl (fun hT => (sh_s53 hT.st)) rfl rfl ⟨Nat.le_of_ble_eq_true rfl, Nat.le_of_ble_eq_true rfl⟩ (sl_92 e2 ⟨rfl, rfl⟩) rfl rfl (Nat.le_of_ble_eq_true rfl) (Nat.le_of_ble_eq_true rfl) ?_
  obtain ⟨r3, e3, e⟩ := sh_bc_e e
  refine sh_Lk_cV (r := (some (.int r3))) (st2 := [.int r3]) (pc2 := 22) (k2 := 120) (a := 53) (as := [.ref 54, .int r2]) (rest := []) rfl rfl rfl (fun hT => (sh_s53 hT.st)) rfl rfl ⟨Nat.le_of_ble_eq_true rfl, Nat.le_of_ble_eq_true rfl⟩ (sl_120 e3 ⟨rfl, rfl⟩) rfl rfl (Nat.le_of_ble_eq_true rfl) (Nat.le_of_ble_eq_true rfl) ?_
  refine sh_Lk_cS (r := (some (.int (sh_b2 (sf_123 r3))))) (st2 := [.int (sh_b2 (sf_123 r3))]) (pc2 := 25) (k2 := 123) (as := [.int r3]) (rest := []) rfl rfl (by decide) (Nat.le_of_ble_eq_true rfl) rfl rfl ⟨Nat.le_of_ble_eq_true rfl, Nat.le_of_ble_eq_true rfl⟩ (sl_123 (m := m) rfl ⟨rfl, rfl⟩) rfl rfl (Nat.le_of_ble_eq_true rfl) (Nat.le_of_ble_eq_true rfl) ?_
  rcases sh_ite e with ⟨c, e⟩ | ⟨c, e⟩
  · refine sh_Lk_lift (T := m.T) (I := m.I) (J := m.J) (s := m.s) (pc2 := 37) (lv2 := [(0, .ref 42), (1, .int x1), (2, .int x2)]) (st2 := []) (I2 := m.I) (J2 := m.J) (fun hT v kk => ?_) ?_
    · refine sh_j0 (c := .ne) (off := (12)) (pc2 := 37) true rfl (sh_Znet c) rfl ?_
      exact kk
    obtain rfl := Option.some.inj e
    obtain ⟨rfl, rfl⟩ := tg
    exact sh_Lk_ret (i := .return_) rfl rfl rfl (Nat.le_of_ble_eq_true rfl) (Nat.le_of_ble_eq_true rfl)
  · refine sh_Lk_lift (T := m.T) (I := m.I) (J := m.J) (s := m.s) (pc2 := 34) (lv2 := [(0, .ref 42), (1, .int x1), (2, .int x2)]) (st2 := [.int x1, .int 4, .ref 3]) (I2 := m.I) (J2 := m.J) (fun hT v kk => ?_) ?_
    · refine sh_j0 (c := .ne) (off := (12)) (pc2 := 28) false rfl (sh_Znef c) rfl ?_
      refine sh_w (i := (.aload_n 0)) (len := 1) (pc2 := 29) (lv2 := [(0, .ref 42), (1, .int x1), (2, .int x2)]) (st2 := [.ref 42]) (h2 := (sh_rep m.T m.I m.J)) rfl rfl rfl ?_
      refine sh_gR1 (len := 3) (x := .ref 3) (pc2 := 32) rfl rfl (sh_s41 hT.st) rfl rfl ?_
      refine sh_w (i := (.iconst 4)) (len := 1) (pc2 := 33) (lv2 := [(0, .ref 42), (1, .int x1), (2, .int x2)]) (st2 := [.int 4, .ref 3]) (h2 := (sh_rep m.T m.I m.J)) rfl rfl rfl ?_
      refine sh_w (i := (.iload_n 1)) (len := 1) (pc2 := 34) (lv2 := [(0, .ref 42), (1, .int x1), (2, .int x2)]) (st2 := [.int x1, .int 4, .ref 3]) (h2 := (sh_rep m.T m.I m.J)) rfl rfl rfl ?_
      exact kk
    rcases sh_bt_e e with ⟨m15, e5, rfl⟩ | ⟨r5, m15, e5, e⟩
    · obtain ⟨rfl, rfl⟩ := tg
      exact sh_Lk_tV (k2 := 50) (a := 2) (as := [.ref 3, .int 4, .int x1]) (rest := []) rfl rfl rfl (fun hT => hT.t2) rfl rfl ⟨Nat.le_of_ble_eq_true rfl, Nat.le_of_ble_eq_true rfl⟩ (sl_50 e5 ⟨rfl, rfl⟩) rfl (Nat.le_of_ble_eq_true rfl) (Nat.le_of_ble_eq_true rfl) (Nat.le_of_ble_eq_true rfl) (Nat.le_of_ble_eq_true rfl) rfl
    refine sh_Lk_cV (r := none) (st2 := []) (pc2 := 37) (k2 := 50) (a := 2) (as := [.ref 3, .int 4, .int x1]) (rest := []) rfl rfl rfl (fun hT => hT.t2) rfl rfl ⟨Nat.le_of_ble_eq_true rfl, Nat.le_of_ble_eq_true rfl⟩ (sl_50 e5 ⟨rfl, rfl⟩) rfl rfl (Nat.le_of_ble_eq_true rfl) (Nat.le_of_ble_eq_true rfl) ?_
    obtain rfl := Option.some.inj e
    obtain ⟨rfl, rfl⟩ := tg
    exact sh_Lk_ret (i := .return_) rfl rfl rfl (Nat.le_of_ble_eq_true rfl) (Nat.le_of_ble_eq_true rfl)
theorem sl_125 {x1 : Int32} {x2 : Int32} {m m2 : sh_X} {o : Outcome} {z : (Option Unit × sh_X)} (e : sf_125 x1 x2 m = some z) (tg : (sh_tVt o m2) z) : sh_Lk 125 0 [(0, .ref 42), (1, .int x1), (2, .int x2)] [] m o m2 11 272 := by
  unfold sf_125 at e
  refine sh_Lk_lift (T := m.T) (I := m.I) (J := m.J) (s := m.s) (pc2 := 11) (lv2 := [(0, .ref 42), (1, .int x1), (2, .int x2)]) (st2 := [.int x1, .int ((m.I 48 4) - 1), .ref 42]) (I2 := m.I) (J2 := m.J) (fun hT v kk => ?_) ?_
  · refine sh_w (i := (.aload_n 0)) (len := 1) (pc2 := 1) (lv2 := [(0, .ref 42), (1, .int x1), (2, .int x2)]) (st2 := [.ref 42]) (h2 := (sh_rep m.T m.I m.J)) rfl rfl rfl ?_
    refine sh_w (i := (.aload_n 0)) (len := 1) (pc2 := 2) (lv2 := [(0, .ref 42), (1, .int x1), (2, .int x2)]) (st2 := [.ref 42, .ref 42]) (h2 := (sh_rep m.T m.I m.J)) rfl rfl rfl ?_
    refine sh_gR1 (len := 3) (x := .ref 49) (pc2 := 5) rfl rfl (sh_s41 hT.st) rfl rfl ?_
    refine sh_gI1 (len := 3) (x := m.I 48 4) (pc2 := 8) rfl rfl (sh_s48 hT.st) rfl rfl rfl ?_
    refine sh_w (i := (.iconst 1)) (len := 1) (pc2 := 9) (lv2 := [(0, .ref 42), (1, .int x1), (2, .int x2)]) (st2 := [.int 1, .int (m.I 48 4), .ref 42]) (h2 := (sh_rep m.T m.I m.J)) rfl rfl rfl ?_
    refine sh_w (i := .isub) (len := 1) (pc2 := 10) (lv2 := [(0, .ref 42), (1, .int x1), (2, .int x2)]) (st2 := [.int ((m.I 48 4) - 1), .ref 42]) (h2 := (sh_rep m.T m.I m.J)) rfl rfl rfl ?_
    refine sh_w (i := (.iload_n 1)) (len := 1) (pc2 := 11) (lv2 := [(0, .ref 42), (1, .int x1), (2, .int x2)]) (st2 := [.int x1, .int ((m.I 48 4) - 1), .ref 42]) (h2 := (sh_rep m.T m.I m.J)) rfl rfl rfl ?_
    exact kk
  rcases sh_bt_e e with ⟨m11, e1, rfl⟩ | ⟨r1, m11, e1, e⟩
  · obtain ⟨rfl, rfl⟩ := tg
    exact sh_Lk_tV (k2 := 107) (a := 41) (as := [.ref 42, .int ((m.I 48 4) - 1), .int x1]) (rest := []) rfl rfl rfl (fun hT => (sh_s41 hT.st)) rfl rfl ⟨Nat.le_of_ble_eq_true rfl, Nat.le_of_ble_eq_true rfl⟩ (sl_107 e1 ⟨rfl, rfl⟩) rfl (Nat.le_of_ble_eq_true rfl) (Nat.le_of_ble_eq_true rfl) (Nat.le_of_ble_eq_true rfl) (Nat.le_of_ble_eq_true rfl) rfl
  refine sh_Lk_cV (r := none) (st2 := []) (pc2 := 14) (k2 := 107) (a := 41) (as := [.ref 42, .int ((m.I 48 4) - 1), .int x1]) (rest := []) rfl rfl rfl (fun hT => (sh_s41 hT.st)) rfl rfl ⟨Nat.le_of_ble_eq_true rfl, Nat.le_of_ble_eq_true rfl⟩ (sl_107 e1 ⟨rfl, rfl⟩) rfl rfl (Nat.le_of_ble_eq_true rfl) (Nat.le_of_ble_eq_true rfl) ?_
  refine sh_Lk_lift (T := m11.T) (I := m11.I) (J := m11.J) (s := m11.s) (pc2 := 27) (lv2 := [(0, .ref 42), (1, .int x1), (2, .int x2)]) (st2 := [.int ((m11.I 48 4) - 1), .ref 49]) (I2 := m11.I) (J2 := m11.J) (fun hT v kk => ?_) ?_
  · refine sh_w (i := (.aload_n 0)) (len := 1) (pc2 := 15) (lv2 := [(0, .ref 42), (1, .int x1), (2, .int x2)]) (st2 := [.ref 42]) (h2 := (sh_rep m11.T m11.I m11.J)) rfl rfl rfl ?_
    refine sh_gR1 (len := 3) (x := .ref 49) (pc2 := 18) rfl rfl (sh_s41 hT.st) rfl rfl ?_
    refine sh_w (i := (.aload_n 0)) (len := 1) (pc2 := 19) (lv2 := [(0, .ref 42), (1, .int x1), (2, .int x2)]) (st2 := [.ref 42, .ref 49]) (h2 := (sh_rep m11.T m11.I m11.J)) rfl rfl rfl ?_
    refine sh_gR1 (len := 3) (x := .ref 49) (pc2 := 22) rfl rfl (sh_s41 hT.st) rfl rfl ?_
    refine sh_gI1 (len := 3) (x := m11.I 48 4) (pc2 := 25) rfl rfl (sh_s48 hT.st) rfl rfl rfl ?_
    refine sh_w (i := (.iconst 1)) (len := 1) (pc2 := 26) (lv2 := [(0, .ref 42), (1, .int x1), (2, .int x2)]) (st2 := [.int 1, .int (m11.I 48 4), .ref 49]) (h2 := (sh_rep m11.T m11.I m11.J)) rfl rfl rfl ?_
    refine sh_w (i := .isub) (len := 1) (pc2 := 27) (lv2 := [(0, .ref 42), (1, .int x1), (2, .int x2)]) (st2 := [.int ((m11.I 48 4) - 1), .ref 49]) (h2 := (sh_rep m11.T m11.I m11.J)) rfl rfl rfl ?_
    exact kk
  obtain ⟨r2, e2, e⟩ := sh_bc_e e
  refine sh_Lk_cV (r := (some (.int r2))) (st2 := [.int r2]) (pc2 := 30) (k2 := 108) (a := 48) (as := [.ref 49, .int ((m11.I 48 4) - 1)]) (rest := []) rfl rfl rfl (fun hT => (sh_s48 hT.st)) rfl rfl ⟨Nat.le_of_ble_eq_true rfl, Nat.le_of_ble_eq_true rfl⟩ (sl_108 e2 ⟨rfl, rfl⟩) rfl rfl (Nat.le_of_ble_eq_true rfl) (Nat.le_of_ble_eq_true rfl) ?_
  refine sh_Lk_lift (T := m11.T) (I := m11.I) (J := m11.J) (s := m11.s) (pc2 := 31) (lv2 := [(0, .ref 42), (1, .int x1), (2, .int x2)]) (st2 := [.int x1, .int r2]) (I2 := m11.I) (J2 := m11.J) (fun hT v kk => ?_) ?_
  · refine sh_w (i := (.iload_n 1)) (len := 1) (pc2 := 31) (lv2 := [(0, .ref 42), (1, .int x1), (2, .int x2)]) (st2 := [.int x1, .int r2]) (h2 := (sh_rep m11.T m11.I m11.J)) rfl rfl rfl ?_
    exact kk
  rcases sh_ite e with ⟨c, e⟩ | ⟨c, e⟩
  · refine sh_Lk_lift (T := m11.T) (I := m11.I) (J := m11.J) (s := m11.s) (pc2 := 43) (lv2 := [(0, .ref 42), (1, .int x1), (2, .int x2)]) (st2 := []) (I2 := m11.I) (J2 := m11.J) (fun hT v kk => ?_) ?_
    · refine sh_jc (c := .eq) (off := (12)) (pc2 := 43) true rfl (sh_Beqt c) rfl ?_
      exact kk
    obtain rfl := Option.some.inj e
    obtain ⟨rfl, rfl⟩ := tg
    exact sh_Lk_ret (i := .return_) rfl rfl rfl (Nat.le_of_ble_eq_true rfl) (Nat.le_of_ble_eq_true rfl)
  · refine sh_Lk_lift (T := m11.T) (I := m11.I) (J := m11.J) (s := m11.s) (pc2 := 40) (lv2 := [(0, .ref 42), (1, .int x1), (2, .int x2)]) (st2 := [.int x2, .int 4, .ref 3]) (I2 := m11.I) (J2 := m11.J) (fun hT v kk => ?_) ?_
    · refine sh_jc (c := .eq) (off := (12)) (pc2 := 34) false rfl (sh_Beqf c) rfl ?_
      refine sh_w (i := (.aload_n 0)) (len := 1) (pc2 := 35) (lv2 := [(0, .ref 42), (1, .int x1), (2, .int x2)]) (st2 := [.ref 42]) (h2 := (sh_rep m11.T m11.I m11.J)) rfl rfl rfl ?_
      refine sh_gR1 (len := 3) (x := .ref 3) (pc2 := 38) rfl rfl (sh_s41 hT.st) rfl rfl ?_
      refine sh_w (i := (.iconst 4)) (len := 1) (pc2 := 39) (lv2 := [(0, .ref 42), (1, .int x1), (2, .int x2)]) (st2 := [.int 4, .ref 3]) (h2 := (sh_rep m11.T m11.I m11.J)) rfl rfl rfl ?_
      refine sh_w (i := (.iload_n 2)) (len := 1) (pc2 := 40) (lv2 := [(0, .ref 42), (1, .int x1), (2, .int x2)]) (st2 := [.int x2, .int 4, .ref 3]) (h2 := (sh_rep m11.T m11.I m11.J)) rfl rfl rfl ?_
      exact kk
    rcases sh_bt_e e with ⟨m13, e3, rfl⟩ | ⟨r3, m13, e3, e⟩
    · obtain ⟨rfl, rfl⟩ := tg
      exact sh_Lk_tV (k2 := 50) (a := 2) (as := [.ref 3, .int 4, .int x2]) (rest := []) rfl rfl rfl (fun hT => hT.t2) rfl rfl ⟨Nat.le_of_ble_eq_true rfl, Nat.le_of_ble_eq_true rfl⟩ (sl_50 e3 ⟨rfl, rfl⟩) rfl (Nat.le_of_ble_eq_true rfl) (Nat.le_of_ble_eq_true rfl) (Nat.le_of_ble_eq_true rfl) (Nat.le_of_ble_eq_true rfl) rfl
    refine sh_Lk_cV (r := none) (st2 := []) (pc2 := 43) (k2 := 50) (a := 2) (as := [.ref 3, .int 4, .int x2]) (rest := []) rfl rfl rfl (fun hT => hT.t2) rfl rfl ⟨Nat.le_of_ble_eq_true rfl, Nat.le_of_ble_eq_true rfl⟩ (sl_50 e3 ⟨rfl, rfl⟩) rfl rfl (Nat.le_of_ble_eq_true rfl) (Nat.le_of_ble_eq_true rfl) ?_
    obtain rfl := Option.some.inj e
    obtain ⟨rfl, rfl⟩ := tg
    exact sh_Lk_ret (i := .return_) rfl rfl rfl (Nat.le_of_ble_eq_true rfl) (Nat.le_of_ble_eq_true rfl)
theorem sl_127 {x1 : Int32} {m m2 : sh_X} {o : Outcome} {z : Int32} (e : sf_127 x1 m = some z) (tg : (sh_tIc m o m2) z) : sh_Lk 127 0 [(0, .ref 54), (1, .int x1)] [] m o m2 9 221 := by
  unfold sf_127 at e
  refine sh_Lk_lift (T := m.T) (I := m.I) (J := m.J) (s := m.s) (pc2 := 2) (lv2 := [(0, .ref 54), (1, .int x1)]) (st2 := [.int x1, .ref 54]) (I2 := m.I) (J2 := m.J) (fun hT v kk => ?_) ?_
  · refine sh_w (i := (.aload_n 0)) (len := 1) (pc2 := 1) (lv2 := [(0, .ref 54), (1, .int x1)]) (st2 := [.ref 54]) (h2 := (sh_rep m.T m.I m.J)) rfl rfl rfl ?_
    refine sh_w (i := (.iload_n 1)) (len := 1) (pc2 := 2) (lv2 := [(0, .ref 54), (1, .int x1)]) (st2 := [.int x1, .ref 54]) (h2 := (sh_rep m.T m.I m.J)) rfl rfl rfl ?_
    exact kk
  obtain ⟨r1, e1, e⟩ := sh_bc_e e
  refine sh_Lk_cV (r := (some (.int (sh_b2 r1)))) (st2 := [.int (sh_b2 r1)]) (pc2 := 5) (k2 := 121) (a := 53) (as := [.ref 54, .int x1]) (rest := []) rfl rfl rfl (fun hT => (sh_s53 hT.st)) rfl rfl ⟨Nat.le_of_ble_eq_true rfl, Nat.le_of_ble_eq_true rfl⟩ (sl_121 e1 ⟨rfl, rfl⟩) rfl rfl (Nat.le_of_ble_eq_true rfl) (Nat.le_of_ble_eq_true rfl) ?_
  rcases sh_ite e with ⟨c, e⟩ | ⟨c, e⟩
  · refine sh_Lk_lift (T := m.T) (I := m.I) (J := m.J) (s := m.s) (pc2 := 13) (lv2 := [(0, .ref 54), (1, .int x1)]) (st2 := [.int x1, .ref 57]) (I2 := m.I) (J2 := m.J) (fun hT v kk => ?_) ?_
    · refine sh_j0 (c := .eq) (off := (12)) (pc2 := 8) false rfl (sh_Zeqf c) rfl ?_
      refine sh_w (i := (.aload_n 0)) (len := 1) (pc2 := 9) (lv2 := [(0, .ref 54), (1, .int x1)]) (st2 := [.ref 54]) (h2 := (sh_rep m.T m.I m.J)) rfl rfl rfl ?_
      refine sh_gR1 (len := 3) (x := .ref 57) (pc2 := 12) rfl rfl (sh_s53 hT.st) rfl rfl ?_
      refine sh_w (i := (.iload_n 1)) (len := 1) (pc2 := 13) (lv2 := [(0, .ref 54), (1, .int x1)]) (st2 := [.int x1, .ref 57]) (h2 := (sh_rep m.T m.I m.J)) rfl rfl rfl ?_
      exact kk
    obtain ⟨c, e⟩ := sh_gd e
    refine sh_Lk_lift (T := m.T) (I := m.I) (J := m.J) (s := m.s) (pc2 := 18) (lv2 := [(0, .ref 54), (1, .int x1)]) (st2 := [.int (m.I 56 (Int32.toNatClampNeg x1))]) (I2 := m.I) (J2 := m.J) (fun hT v kk => ?_) ?_
    · refine sh_ia1 (x := m.I 56 (Int32.toNatClampNeg x1)) (pc2 := 14) rfl (sh_s56 hT.st) (sh_okb1 c) (sh_okb2 c) rfl rfl ?_
      refine sh_w (i := (.goto 4)) (len := 3) (pc2 := 18) (lv2 := [(0, .ref 54), (1, .int x1)]) (st2 := [.int (m.I 56 (Int32.toNatClampNeg x1))]) (h2 := (sh_rep m.T m.I m.J)) rfl rfl rfl ?_
      exact kk
    obtain rfl := Option.some.inj e
    obtain ⟨rfl, rfl⟩ := tg
    exact sh_Lk_ret (i := .ireturn) rfl rfl rfl (Nat.le_of_ble_eq_true rfl) (Nat.le_of_ble_eq_true rfl)
  · refine sh_Lk_lift (T := m.T) (I := m.I) (J := m.J) (s := m.s) (pc2 := 18) (lv2 := [(0, .ref 54), (1, .int x1)]) (st2 := [.int 0]) (I2 := m.I) (J2 := m.J) (fun hT v kk => ?_) ?_
    · refine sh_j0 (c := .eq) (off := (12)) (pc2 := 17) true rfl (sh_Zeqt c) rfl ?_
      refine sh_w (i := (.iconst 0)) (len := 1) (pc2 := 18) (lv2 := [(0, .ref 54), (1, .int x1)]) (st2 := [.int 0]) (h2 := (sh_rep m.T m.I m.J)) rfl rfl rfl ?_
      exact kk
    obtain rfl := Option.some.inj e
    obtain ⟨rfl, rfl⟩ := tg
    exact sh_Lk_ret (i := .ireturn) rfl rfl rfl (Nat.le_of_ble_eq_true rfl) (Nat.le_of_ble_eq_true rfl)
theorem sl_131 {x1 : Int32} {m m2 : sh_X} {o : Outcome} {z : Bool} (e : sf_131 x1 m = some z) (tg : (sh_tZc m o m2) z) : sh_Lk 131 0 [(0, .ref 10), (1, .int x1)] [] m o m2 8 200 := by
  unfold sf_131 at e
  refine sh_Lk_lift (T := m.T) (I := m.I) (J := m.J) (s := m.s) (pc2 := 2) (lv2 := [(0, .ref 10), (1, .int x1)]) (st2 := [.int 1, .int x1]) (I2 := m.I) (J2 := m.J) (fun hT v kk => ?_) ?_
  · refine sh_w (i := (.iload_n 1)) (len := 1) (pc2 := 1) (lv2 := [(0, .ref 10), (1, .int x1)]) (st2 := [.int x1]) (h2 := (sh_rep m.T m.I m.J)) rfl rfl rfl ?_
    refine sh_w (i := (.iconst 1)) (len := 1) (pc2 := 2) (lv2 := [(0, .ref 10), (1, .int x1)]) (st2 := [.int 1, .int x1]) (h2 := (sh_rep m.T m.I m.J)) rfl rfl rfl ?_
    exact kk
  rcases sh_ite e with ⟨c, e⟩ | ⟨c, e⟩
  · refine sh_Lk_lift (T := m.T) (I := m.I) (J := m.J) (s := m.s) (pc2 := 10) (lv2 := [(0, .ref 10), (1, .int x1)]) (st2 := [.int (m.I 9 3), .int x1]) (I2 := m.I) (J2 := m.J) (fun hT v kk => ?_) ?_
    · refine sh_jc (c := .le) (off := (35)) (pc2 := 5) false rfl (sh_Blef c) rfl ?_
      refine sh_w (i := (.iload_n 1)) (len := 1) (pc2 := 6) (lv2 := [(0, .ref 10), (1, .int x1)]) (st2 := [.int x1]) (h2 := (sh_rep m.T m.I m.J)) rfl rfl rfl ?_
      refine sh_w (i := (.aload_n 0)) (len := 1) (pc2 := 7) (lv2 := [(0, .ref 10), (1, .int x1)]) (st2 := [.ref 10, .int x1]) (h2 := (sh_rep m.T m.I m.J)) rfl rfl rfl ?_
      refine sh_gI1 (len := 3) (x := m.I 9 3) (pc2 := 10) rfl rfl hT.t9 rfl rfl rfl ?_
      exact kk
    rcases sh_ite e with ⟨c, e⟩ | ⟨c, e⟩
    · refine sh_Lk_lift (T := m.T) (I := m.I) (J := m.J) (s := m.s) (pc2 := 18) (lv2 := [(0, .ref 10), (1, .int x1)]) (st2 := [.int x1, .ref ((sh_rf m.T 9 0) + 1)]) (I2 := m.I) (J2 := m.J) (fun hT v kk => ?_) ?_
      · refine sh_jc (c := .ge) (off := (27)) (pc2 := 13) false rfl (sh_Bgef c) rfl ?_
        refine sh_w (i := (.aload_n 0)) (len := 1) (pc2 := 14) (lv2 := [(0, .ref 10), (1, .int x1)]) (st2 := [.ref 10]) (h2 := (sh_rep m.T m.I m.J)) rfl rfl rfl ?_
        refine sh_gR1 (len := 3) (x := .ref (sh_rf m.T 9 0 + 1)) (pc2 := 17) rfl rfl hT.t9 rfl rfl ?_
        refine sh_w (i := (.iload_n 1)) (len := 1) (pc2 := 18) (lv2 := [(0, .ref 10), (1, .int x1)]) (st2 := [.int x1, .ref ((sh_rf m.T 9 0) + 1)]) (h2 := (sh_rep m.T m.I m.J)) rfl rfl rfl ?_
        exact kk
      obtain ⟨c, e⟩ := sh_gd e
      refine sh_Lk_lift (T := m.T) (I := m.I) (J := m.J) (s := m.s) (pc2 := 20) (lv2 := [(0, .ref 10), (1, .int x1)]) (st2 := [.int 1, .int (m.I (sh_rf m.T 9 0) (Int32.toNatClampNeg x1))]) (I2 := m.I) (J2 := m.J) (fun hT v kk => ?_) ?_
      · refine sh_ba1 (x := m.I (sh_rf m.T 9 0) (Int32.toNatClampNeg x1)) (pc2 := 19) rfl hT.a9_0 (Or.inl rfl) (sh_okb1 c) (sh_okb2 c) rfl rfl ?_
        refine sh_w (i := (.iconst 1)) (len := 1) (pc2 := 20) (lv2 := [(0, .ref 10), (1, .int x1)]) (st2 := [.int 1, .int (m.I (sh_rf m.T 9 0) (Int32.toNatClampNeg x1))]) (h2 := (sh_rep m.T m.I m.J)) rfl rfl rfl ?_
        exact kk
      rcases sh_ite e with ⟨c, e⟩ | ⟨c, e⟩
      · refine sh_Lk_lift (T := m.T) (I := m.I) (J := m.J) (s := m.s) (pc2 := 28) (lv2 := [(0, .ref 10), (1, .int x1)]) (st2 := [.int x1, .ref ((sh_rf m.T 9 2) + 1)]) (I2 := m.I) (J2 := m.J) (fun hT v kk => ?_) ?_
        · refine sh_jc (c := .ne) (off := (17)) (pc2 := 23) false rfl (sh_Bnef c) rfl ?_
          refine sh_w (i := (.aload_n 0)) (len := 1) (pc2 := 24) (lv2 := [(0, .ref 10), (1, .int x1)]) (st2 := [.ref 10]) (h2 := (sh_rep m.T m.I m.J)) rfl rfl rfl ?_
          refine sh_gR1 (len := 3) (x := .ref (sh_rf m.T 9 2 + 1)) (pc2 := 27) rfl rfl hT.t9 rfl rfl ?_
          refine sh_w (i := (.iload_n 1)) (len := 1) (pc2 := 28) (lv2 := [(0, .ref 10), (1, .int x1)]) (st2 := [.int x1, .ref ((sh_rf m.T 9 2) + 1)]) (h2 := (sh_rep m.T m.I m.J)) rfl rfl rfl ?_
          exact kk
        obtain ⟨c, e⟩ := sh_gd e
        refine sh_Lk_lift (T := m.T) (I := m.I) (J := m.J) (s := m.s) (pc2 := 30) (lv2 := [(0, .ref 10), (1, .int x1)]) (st2 := [.int 1, .int (m.I (sh_rf m.T 9 2) (Int32.toNatClampNeg x1))]) (I2 := m.I) (J2 := m.J) (fun hT v kk => ?_) ?_
        · refine sh_ia1 (x := m.I (sh_rf m.T 9 2) (Int32.toNatClampNeg x1)) (pc2 := 29) rfl hT.a9_2 (sh_okb1 c) (sh_okb2 c) rfl rfl ?_
          refine sh_w (i := (.iconst 1)) (len := 1) (pc2 := 30) (lv2 := [(0, .ref 10), (1, .int x1)]) (st2 := [.int 1, .int (m.I (sh_rf m.T 9 2) (Int32.toNatClampNeg x1))]) (h2 := (sh_rep m.T m.I m.J)) rfl rfl rfl ?_
          exact kk
        rcases sh_ite e with ⟨c, e⟩ | ⟨c, e⟩
        · refine sh_Lk_lift (T := m.T) (I := m.I) (J := m.J) (s := m.s) (pc2 := 38) (lv2 := [(0, .ref 10), (1, .int x1)]) (st2 := [.int 1]) (I2 := m.I) (J2 := m.J) (fun hT v kk => ?_) ?_
          · refine sh_jc (c := .ne) (off := (7)) (pc2 := 33) false rfl (sh_Bnef c) rfl ?_
            refine sh_w (i := (.iconst 1)) (len := 1) (pc2 := 34) (lv2 := [(0, .ref 10), (1, .int x1)]) (st2 := [.int 1]) (h2 := (sh_rep m.T m.I m.J)) rfl rfl rfl ?_
            refine sh_w (i := (.goto 4)) (len := 3) (pc2 := 38) (lv2 := [(0, .ref 10), (1, .int x1)]) (st2 := [.int 1]) (h2 := (sh_rep m.T m.I m.J)) rfl rfl rfl ?_
            exact kk
          obtain rfl := Option.some.inj e
          obtain ⟨rfl, rfl⟩ := tg
          exact sh_Lk_ret (i := .ireturn) rfl rfl rfl (Nat.le_of_ble_eq_true rfl) (Nat.le_of_ble_eq_true rfl)
        · refine sh_Lk_lift (T := m.T) (I := m.I) (J := m.J) (s := m.s) (pc2 := 38) (lv2 := [(0, .ref 10), (1, .int x1)]) (st2 := [.int 0]) (I2 := m.I) (J2 := m.J) (fun hT v kk => ?_) ?_
          · refine sh_jc (c := .ne) (off := (7)) (pc2 := 37) true rfl (sh_Bnet c) rfl ?_
            refine sh_w (i := (.iconst 0)) (len := 1) (pc2 := 38) (lv2 := [(0, .ref 10), (1, .int x1)]) (st2 := [.int 0]) (h2 := (sh_rep m.T m.I m.J)) rfl rfl rfl ?_
            exact kk
          obtain rfl := Option.some.inj e
          obtain ⟨rfl, rfl⟩ := tg
          exact sh_Lk_ret (i := .ireturn) rfl rfl rfl (Nat.le_of_ble_eq_true rfl) (Nat.le_of_ble_eq_true rfl)
      · refine sh_Lk_lift (T := m.T) (I := m.I) (J := m.J) (s := m.s) (pc2 := 38) (lv2 := [(0, .ref 10), (1, .int x1)]) (st2 := [.int 0]) (I2 := m.I) (J2 := m.J) (fun hT v kk => ?_) ?_
        · refine sh_jc (c := .ne) (off := (17)) (pc2 := 37) true rfl (sh_Bnet c) rfl ?_
          refine sh_w (i := (.iconst 0)) (len := 1) (pc2 := 38) (lv2 := [(0, .ref 10), (1, .int x1)]) (st2 := [.int 0]) (h2 := (sh_rep m.T m.I m.J)) rfl rfl rfl ?_
          exact kk
        obtain rfl := Option.some.inj e
        obtain ⟨rfl, rfl⟩ := tg
        exact sh_Lk_ret (i := .ireturn) rfl rfl rfl (Nat.le_of_ble_eq_true rfl) (Nat.le_of_ble_eq_true rfl)
    · refine sh_Lk_lift (T := m.T) (I := m.I) (J := m.J) (s := m.s) (pc2 := 38) (lv2 := [(0, .ref 10), (1, .int x1)]) (st2 := [.int 0]) (I2 := m.I) (J2 := m.J) (fun hT v kk => ?_) ?_
      · refine sh_jc (c := .ge) (off := (27)) (pc2 := 37) true rfl (sh_Bget c) rfl ?_
        refine sh_w (i := (.iconst 0)) (len := 1) (pc2 := 38) (lv2 := [(0, .ref 10), (1, .int x1)]) (st2 := [.int 0]) (h2 := (sh_rep m.T m.I m.J)) rfl rfl rfl ?_
        exact kk
      obtain rfl := Option.some.inj e
      obtain ⟨rfl, rfl⟩ := tg
      exact sh_Lk_ret (i := .ireturn) rfl rfl rfl (Nat.le_of_ble_eq_true rfl) (Nat.le_of_ble_eq_true rfl)
  · refine sh_Lk_lift (T := m.T) (I := m.I) (J := m.J) (s := m.s) (pc2 := 38) (lv2 := [(0, .ref 10), (1, .int x1)]) (st2 := [.int 0]) (I2 := m.I) (J2 := m.J) (fun hT v kk => ?_) ?_
    · refine sh_jc (c := .le) (off := (35)) (pc2 := 37) true rfl (sh_Blet c) rfl ?_
      refine sh_w (i := (.iconst 0)) (len := 1) (pc2 := 38) (lv2 := [(0, .ref 10), (1, .int x1)]) (st2 := [.int 0]) (h2 := (sh_rep m.T m.I m.J)) rfl rfl rfl ?_
      exact kk
    obtain rfl := Option.some.inj e
    obtain ⟨rfl, rfl⟩ := tg
    exact sh_Lk_ret (i := .ireturn) rfl rfl rfl (Nat.le_of_ble_eq_true rfl) (Nat.le_of_ble_eq_true rfl)
theorem sl_130_15 {x1 : Int32} {x2 : Int32} {m m2 : sh_X} {o : Outcome} {z : (Int32 × sh_X)} (e : sf_130_15 x1 x2 m = some z) (tg : (sh_tI o m2) z) : sh_Lk 130 15 [(1, .int x1), (2, .int x2)] [] m o m2 11 266 := by
  unfold sf_130_15 at e
  refine sh_Lk_lift (T := m.T) (I := m.I) (J := m.J) (s := m.s) (pc2 := 18) (lv2 := [(1, .int x1), (2, .int x2)]) (st2 := [.int (x1 + x2)]) (I2 := m.I) (J2 := m.J) (fun hT v kk => ?_) ?_
  · refine sh_w (i := (.iload_n 1)) (len := 1) (pc2 := 16) (lv2 := [(1, .int x1), (2, .int x2)]) (st2 := [.int x1]) (h2 := (sh_rep m.T m.I m.J)) rfl rfl rfl ?_
    refine sh_w (i := (.iload_n 2)) (len := 1) (pc2 := 17) (lv2 := [(1, .int x1), (2, .int x2)]) (st2 := [.int x2, .int x1]) (h2 := (sh_rep m.T m.I m.J)) rfl rfl rfl ?_
    refine sh_w (i := .iadd) (len := 1) (pc2 := 18) (lv2 := [(1, .int x1), (2, .int x2)]) (st2 := [.int (x1 + x2)]) (h2 := (sh_rep m.T m.I m.J)) rfl rfl rfl ?_
    exact kk
  obtain rfl := Option.some.inj e
  obtain ⟨rfl, rfl⟩ := tg
  exact sh_Lk_ret (i := .ireturn) rfl rfl rfl (Nat.le_of_ble_eq_true rfl) (Nat.le_of_ble_eq_true rfl)
theorem sl_130_59 {x1 : Int32} {x2 : Int32} {m m2 : sh_X} {o : Outcome} {z : (Int32 × sh_X)} (e : sf_130_59 x1 x2 m = some z) (tg : (sh_tI o m2) z) : sh_Lk 130 59 [(0, .ref 10), (1, .int x1), (2, .int x2)] [] m o m2 11 266 := by
  unfold sf_130_59 at e
  refine sh_Lk_lift (T := m.T) (I := m.I) (J := m.J) (s := m.s) (pc2 := 61) (lv2 := [(0, .ref 10), (1, .int x1), (2, .int x2)]) (st2 := [.int 1, .int x1]) (I2 := m.I) (J2 := m.J) (fun hT v kk => ?_) ?_
  · refine sh_w (i := (.iload_n 1)) (len := 1) (pc2 := 60) (lv2 := [(0, .ref 10), (1, .int x1), (2, .int x2)]) (st2 := [.int x1]) (h2 := (sh_rep m.T m.I m.J)) rfl rfl rfl ?_
    refine sh_w (i := (.iconst 1)) (len := 1) (pc2 := 61) (lv2 := [(0, .ref 10), (1, .int x1), (2, .int x2)]) (st2 := [.int 1, .int x1]) (h2 := (sh_rep m.T m.I m.J)) rfl rfl rfl ?_
    exact kk
  rcases sh_ite e with ⟨c, e⟩ | ⟨c, e⟩
  · refine sh_Lk_lift (T := m.T) (I := m.I) (J := m.J) (s := m.s) (pc2 := 68) (lv2 := [(0, .ref 10), (1, .int x1), (2, .int x2)]) (st2 := [.int 1, .int x2, .int 1, .ref 10]) (I2 := m.I) (J2 := m.J) (fun hT v kk => ?_) ?_
    · refine sh_jc (c := .ne) (off := (13)) (pc2 := 64) false rfl (sh_Bnef c) rfl ?_
      refine sh_w (i := (.aload_n 0)) (len := 1) (pc2 := 65) (lv2 := [(0, .ref 10), (1, .int x1), (2, .int x2)]) (st2 := [.ref 10]) (h2 := (sh_rep m.T m.I m.J)) rfl rfl rfl ?_
      refine sh_w (i := (.iconst 1)) (len := 1) (pc2 := 66) (lv2 := [(0, .ref 10), (1, .int x1), (2, .int x2)]) (st2 := [.int 1, .ref 10]) (h2 := (sh_rep m.T m.I m.J)) rfl rfl rfl ?_
      refine sh_w (i := (.iload_n 2)) (len := 1) (pc2 := 67) (lv2 := [(0, .ref 10), (1, .int x1), (2, .int x2)]) (st2 := [.int x2, .int 1, .ref 10]) (h2 := (sh_rep m.T m.I m.J)) rfl rfl rfl ?_
      refine sh_w (i := (.iconst 1)) (len := 1) (pc2 := 68) (lv2 := [(0, .ref 10), (1, .int x1), (2, .int x2)]) (st2 := [.int 1, .int x2, .int 1, .ref 10]) (h2 := (sh_rep m.T m.I m.J)) rfl rfl rfl ?_
      exact kk
    obtain ⟨r1, m11, e1, e⟩ := sh_bn_e e
    refine sh_Lk_cV (r := (some (.int r1))) (st2 := [.int r1]) (pc2 := 71) (k2 := 19) (a := 9) (as := [.ref 10, .int 1, .int x2, .int 1]) (rest := []) rfl rfl rfl (fun hT => hT.t9) rfl rfl ⟨Nat.le_of_ble_eq_true rfl, Nat.le_of_ble_eq_true rfl⟩ (sl_19 e1 ⟨rfl, rfl⟩) rfl rfl (Nat.le_of_ble_eq_true rfl) (Nat.le_of_ble_eq_true rfl) ?_
    refine sh_Lk_lift (T := m11.T) (I := m11.I) (J := m11.J) (s := m11.s) (pc2 := 81) (lv2 := [(0, .ref 10), (1, .int x1), (2, .int x2)]) (st2 := [.int r1]) (I2 := m11.I) (J2 := m11.J) (fun hT v kk => ?_) ?_
    · refine sh_w (i := (.goto 10)) (len := 3) (pc2 := 81) (lv2 := [(0, .ref 10), (1, .int x1), (2, .int x2)]) (st2 := [.int r1]) (h2 := (sh_rep m11.T m11.I m11.J)) rfl rfl rfl ?_
      exact kk
    obtain rfl := Option.some.inj e
    obtain ⟨rfl, rfl⟩ := tg
    exact sh_Lk_ret (i := .ireturn) rfl rfl rfl (Nat.le_of_ble_eq_true rfl) (Nat.le_of_ble_eq_true rfl)
  · refine sh_Lk_lift (T := m.T) (I := m.I) (J := m.J) (s := m.s) (pc2 := 78) (lv2 := [(0, .ref 10), (1, .int x1), (2, .int x2)]) (st2 := [.int x2, .int x1, .int 1, .ref 10]) (I2 := m.I) (J2 := m.J) (fun hT v kk => ?_) ?_
    · refine sh_jc (c := .ne) (off := (13)) (pc2 := 74) true rfl (sh_Bnet c) rfl ?_
      refine sh_w (i := (.aload_n 0)) (len := 1) (pc2 := 75) (lv2 := [(0, .ref 10), (1, .int x1), (2, .int x2)]) (st2 := [.ref 10]) (h2 := (sh_rep m.T m.I m.J)) rfl rfl rfl ?_
      refine sh_w (i := (.iconst 1)) (len := 1) (pc2 := 76) (lv2 := [(0, .ref 10), (1, .int x1), (2, .int x2)]) (st2 := [.int 1, .ref 10]) (h2 := (sh_rep m.T m.I m.J)) rfl rfl rfl ?_
      refine sh_w (i := (.iload_n 1)) (len := 1) (pc2 := 77) (lv2 := [(0, .ref 10), (1, .int x1), (2, .int x2)]) (st2 := [.int x1, .int 1, .ref 10]) (h2 := (sh_rep m.T m.I m.J)) rfl rfl rfl ?_
      refine sh_w (i := (.iload_n 2)) (len := 1) (pc2 := 78) (lv2 := [(0, .ref 10), (1, .int x1), (2, .int x2)]) (st2 := [.int x2, .int x1, .int 1, .ref 10]) (h2 := (sh_rep m.T m.I m.J)) rfl rfl rfl ?_
      exact kk
    obtain ⟨r2, m12, e2, e⟩ := sh_bn_e e
    refine sh_Lk_cV (r := (some (.int r2))) (st2 := [.int r2]) (pc2 := 81) (k2 := 19) (a := 9) (as := [.ref 10, .int 1, .int x1, .int x2]) (rest := []) rfl rfl rfl (fun hT => hT.t9) rfl rfl ⟨Nat.le_of_ble_eq_true rfl, Nat.le_of_ble_eq_true rfl⟩ (sl_19 e2 ⟨rfl, rfl⟩) rfl rfl (Nat.le_of_ble_eq_true rfl) (Nat.le_of_ble_eq_true rfl) ?_
    obtain rfl := Option.some.inj e
    obtain ⟨rfl, rfl⟩ := tg
    exact sh_Lk_ret (i := .ireturn) rfl rfl rfl (Nat.le_of_ble_eq_true rfl) (Nat.le_of_ble_eq_true rfl)
theorem sl_130_39 {x1 : Int32} {x2 : Int32} {m m2 : sh_X} {o : Outcome} {z : (Int32 × sh_X)} (e : sf_130_39 x1 x2 m = some z) (tg : (sh_tI o m2) z) : sh_Lk 130 39 [(0, .ref 10), (1, .int x1), (2, .int x2)] [] m o m2 11 266 := by
  unfold sf_130_39 at e
  refine sh_Lk_lift (T := m.T) (I := m.I) (J := m.J) (s := m.s) (pc2 := 41) (lv2 := [(0, .ref 10), (1, .int x1), (2, .int x2)]) (st2 := [.int x2, .ref 10]) (I2 := m.I) (J2 := m.J) (fun hT v kk => ?_) ?_
  · refine sh_w (i := (.aload_n 0)) (len := 1) (pc2 := 40) (lv2 := [(0, .ref 10), (1, .int x1), (2, .int x2)]) (st2 := [.ref 10]) (h2 := (sh_rep m.T m.I m.J)) rfl rfl rfl ?_
    refine sh_w (i := (.iload_n 2)) (len := 1) (pc2 := 41) (lv2 := [(0, .ref 10), (1, .int x1), (2, .int x2)]) (st2 := [.int x2, .ref 10]) (h2 := (sh_rep m.T m.I m.J)) rfl rfl rfl ?_
    exact kk
  obtain ⟨r1, e1, e⟩ := sh_bc_e e
  refine sh_Lk_cV (r := (some (.int (sh_b2 r1)))) (st2 := [.int (sh_b2 r1)]) (pc2 := 44) (k2 := 131) (a := 9) (as := [.ref 10, .int x2]) (rest := []) rfl rfl rfl (fun hT => hT.t9) rfl rfl ⟨Nat.le_of_ble_eq_true rfl, Nat.le_of_ble_eq_true rfl⟩ (sl_131 e1 ⟨rfl, rfl⟩) rfl rfl (Nat.le_of_ble_eq_true rfl) (Nat.le_of_ble_eq_true rfl) ?_
  rcases sh_ite e with ⟨c, e⟩ | ⟨c, e⟩
  · refine sh_Lk_lift (T := m.T) (I := m.I) (J := m.J) (s := m.s) (pc2 := 49) (lv2 := [(0, .ref 10), (1, .int x1), (2, .int x2)]) (st2 := [.int 1, .int x1]) (I2 := m.I) (J2 := m.J) (fun hT v kk => ?_) ?_
    · refine sh_j0 (c := .eq) (off := (15)) (pc2 := 47) false rfl (sh_Zeqf c) rfl ?_
      refine sh_w (i := (.iload_n 1)) (len := 1) (pc2 := 48) (lv2 := [(0, .ref 10), (1, .int x1), (2, .int x2)]) (st2 := [.int x1]) (h2 := (sh_rep m.T m.I m.J)) rfl rfl rfl ?_
      refine sh_w (i := (.iconst 1)) (len := 1) (pc2 := 49) (lv2 := [(0, .ref 10), (1, .int x1), (2, .int x2)]) (st2 := [.int 1, .int x1]) (h2 := (sh_rep m.T m.I m.J)) rfl rfl rfl ?_
      exact kk
    rcases sh_ite e with ⟨c, e⟩ | ⟨c, e⟩
    · refine sh_Lk_lift (T := m.T) (I := m.I) (J := m.J) (s := m.s) (pc2 := 57) (lv2 := [(0, .ref 10), (1, .int x1), (2, .int x2)]) (st2 := [.int x2, .ref ((sh_rf m.T 9 1) + 1)]) (I2 := m.I) (J2 := m.J) (fun hT v kk => ?_) ?_
      · refine sh_jc (c := .ne) (off := (10)) (pc2 := 52) false rfl (sh_Bnef c) rfl ?_
        refine sh_w (i := (.aload_n 0)) (len := 1) (pc2 := 53) (lv2 := [(0, .ref 10), (1, .int x1), (2, .int x2)]) (st2 := [.ref 10]) (h2 := (sh_rep m.T m.I m.J)) rfl rfl rfl ?_
        refine sh_gR1 (len := 3) (x := .ref (sh_rf m.T 9 1 + 1)) (pc2 := 56) rfl rfl hT.t9 rfl rfl ?_
        refine sh_w (i := (.iload_n 2)) (len := 1) (pc2 := 57) (lv2 := [(0, .ref 10), (1, .int x1), (2, .int x2)]) (st2 := [.int x2, .ref ((sh_rf m.T 9 1) + 1)]) (h2 := (sh_rep m.T m.I m.J)) rfl rfl rfl ?_
        exact kk
      obtain ⟨c, e⟩ := sh_gd e
      refine sh_Lk_lift (T := m.T) (I := m.I) (J := m.J) (s := m.s) (pc2 := 58) (lv2 := [(0, .ref 10), (1, .int x1), (2, .int x2)]) (st2 := [.int (m.I (sh_rf m.T 9 1) (Int32.toNatClampNeg x2))]) (I2 := m.I) (J2 := m.J) (fun hT v kk => ?_) ?_
      · refine sh_ia1 (x := m.I (sh_rf m.T 9 1) (Int32.toNatClampNeg x2)) (pc2 := 58) rfl hT.a9_1 (sh_okb1 c) (sh_okb2 c) rfl rfl ?_
        exact kk
      obtain rfl := Option.some.inj e
      obtain ⟨rfl, rfl⟩ := tg
      exact sh_Lk_ret (i := .ireturn) rfl rfl rfl (Nat.le_of_ble_eq_true rfl) (Nat.le_of_ble_eq_true rfl)
    · refine sh_Lk_lift (T := m.T) (I := m.I) (J := m.J) (s := m.s) (pc2 := 59) (lv2 := [(0, .ref 10), (1, .int x1), (2, .int x2)]) (st2 := []) (I2 := m.I) (J2 := m.J) (fun hT v kk => ?_) ?_
      · refine sh_jc (c := .ne) (off := (10)) (pc2 := 59) true rfl (sh_Bnet c) rfl ?_
        exact kk
      exact sh_Lk_sub (sh_sub_c rfl (sh_sub_c rfl (sh_sub_c rfl (sh_sub_n)))) (sl_130_59 e tg)
  · refine sh_Lk_lift (T := m.T) (I := m.I) (J := m.J) (s := m.s) (pc2 := 59) (lv2 := [(0, .ref 10), (1, .int x1), (2, .int x2)]) (st2 := []) (I2 := m.I) (J2 := m.J) (fun hT v kk => ?_) ?_
    · refine sh_j0 (c := .eq) (off := (15)) (pc2 := 59) true rfl (sh_Zeqt c) rfl ?_
      exact kk
    exact sh_Lk_sub (sh_sub_c rfl (sh_sub_c rfl (sh_sub_c rfl (sh_sub_n)))) (sl_130_59 e tg)
theorem sl_130 {x1 : Int32} {x2 : Int32} {m m2 : sh_X} {o : Outcome} {z : (Int32 × sh_X)} (e : sf_130 x1 x2 m = some z) (tg : (sh_tI o m2) z) : sh_Lk 130 0 [(0, .ref 10), (1, .int x1), (2, .int x2)] [] m o m2 11 266 := by
  unfold sf_130 at e
  refine sh_Lk_lift (T := m.T) (I := m.I) (J := m.J) (s := m.s) (pc2 := 2) (lv2 := [(0, .ref 10), (1, .int x1), (2, .int x2)]) (st2 := [.int x2, .int x1]) (I2 := m.I) (J2 := m.J) (fun hT v kk => ?_) ?_
  · refine sh_w (i := (.iload_n 1)) (len := 1) (pc2 := 1) (lv2 := [(0, .ref 10), (1, .int x1), (2, .int x2)]) (st2 := [.int x1]) (h2 := (sh_rep m.T m.I m.J)) rfl rfl rfl ?_
    refine sh_w (i := (.iload_n 2)) (len := 1) (pc2 := 2) (lv2 := [(0, .ref 10), (1, .int x1), (2, .int x2)]) (st2 := [.int x2, .int x1]) (h2 := (sh_rep m.T m.I m.J)) rfl rfl rfl ?_
    exact kk
  rcases sh_ite e with ⟨c, e⟩ | ⟨c, e⟩
  · refine sh_Lk_lift (T := m.T) (I := m.I) (J := m.J) (s := m.s) (pc2 := 6) (lv2 := [(0, .ref 10), (1, .int x1), (2, .int x2)]) (st2 := [.int 0]) (I2 := m.I) (J2 := m.J) (fun hT v kk => ?_) ?_
    · refine sh_jc (c := .ne) (off := (5)) (pc2 := 5) false rfl (sh_Bnef c) rfl ?_
      refine sh_w (i := (.iconst 0)) (len := 1) (pc2 := 6) (lv2 := [(0, .ref 10), (1, .int x1), (2, .int x2)]) (st2 := [.int 0]) (h2 := (sh_rep m.T m.I m.J)) rfl rfl rfl ?_
      exact kk
    obtain rfl := Option.some.inj e
    obtain ⟨rfl, rfl⟩ := tg
    exact sh_Lk_ret (i := .ireturn) rfl rfl rfl (Nat.le_of_ble_eq_true rfl) (Nat.le_of_ble_eq_true rfl)
  · refine sh_Lk_lift (T := m.T) (I := m.I) (J := m.J) (s := m.s) (pc2 := 8) (lv2 := [(0, .ref 10), (1, .int x1), (2, .int x2)]) (st2 := [.int x1]) (I2 := m.I) (J2 := m.J) (fun hT v kk => ?_) ?_
    · refine sh_jc (c := .ne) (off := (5)) (pc2 := 7) true rfl (sh_Bnet c) rfl ?_
      refine sh_w (i := (.iload_n 1)) (len := 1) (pc2 := 8) (lv2 := [(0, .ref 10), (1, .int x1), (2, .int x2)]) (st2 := [.int x1]) (h2 := (sh_rep m.T m.I m.J)) rfl rfl rfl ?_
      exact kk
    rcases sh_ite e with ⟨c, e⟩ | ⟨c, e⟩
    · refine sh_Lk_lift (T := m.T) (I := m.I) (J := m.J) (s := m.s) (pc2 := 15) (lv2 := [(0, .ref 10), (1, .int x1), (2, .int x2)]) (st2 := []) (I2 := m.I) (J2 := m.J) (fun hT v kk => ?_) ?_
      · refine sh_j0 (c := .eq) (off := (7)) (pc2 := 15) true rfl (sh_Beqt c) rfl ?_
        exact kk
      exact sh_Lk_sub (sh_sub_c rfl (sh_sub_c rfl (sh_sub_n))) (sl_130_15 e tg)
    · refine sh_Lk_lift (T := m.T) (I := m.I) (J := m.J) (s := m.s) (pc2 := 12) (lv2 := [(0, .ref 10), (1, .int x1), (2, .int x2)]) (st2 := [.int x2]) (I2 := m.I) (J2 := m.J) (fun hT v kk => ?_) ?_
      · refine sh_j0 (c := .eq) (off := (7)) (pc2 := 11) false rfl (sh_Beqf c) rfl ?_
        refine sh_w (i := (.iload_n 2)) (len := 1) (pc2 := 12) (lv2 := [(0, .ref 10), (1, .int x1), (2, .int x2)]) (st2 := [.int x2]) (h2 := (sh_rep m.T m.I m.J)) rfl rfl rfl ?_
        exact kk
      rcases sh_ite e with ⟨c, e⟩ | ⟨c, e⟩
      · refine sh_Lk_lift (T := m.T) (I := m.I) (J := m.J) (s := m.s) (pc2 := 15) (lv2 := [(0, .ref 10), (1, .int x1), (2, .int x2)]) (st2 := []) (I2 := m.I) (J2 := m.J) (fun hT v kk => ?_) ?_
        · refine sh_j0 (c := .ne) (off := (7)) (pc2 := 15) false rfl (sh_Bnef c) rfl ?_
          exact kk
        exact sh_Lk_sub (sh_sub_c rfl (sh_sub_c rfl (sh_sub_n))) (sl_130_15 e tg)
      · refine sh_Lk_lift (T := m.T) (I := m.I) (J := m.J) (s := m.s) (pc2 := 21) (lv2 := [(0, .ref 10), (1, .int x1), (2, .int x2)]) (st2 := [.int x1, .ref 10]) (I2 := m.I) (J2 := m.J) (fun hT v kk => ?_) ?_
        · refine sh_j0 (c := .ne) (off := (7)) (pc2 := 19) true rfl (sh_Bnet c) rfl ?_
          refine sh_w (i := (.aload_n 0)) (len := 1) (pc2 := 20) (lv2 := [(0, .ref 10), (1, .int x1), (2, .int x2)]) (st2 := [.ref 10]) (h2 := (sh_rep m.T m.I m.J)) rfl rfl rfl ?_
          refine sh_w (i := (.iload_n 1)) (len := 1) (pc2 := 21) (lv2 := [(0, .ref 10), (1, .int x1), (2, .int x2)]) (st2 := [.int x1, .ref 10]) (h2 := (sh_rep m.T m.I m.J)) rfl rfl rfl ?_
          exact kk
        obtain ⟨r1, e1, e⟩ := sh_bc_e e
        refine sh_Lk_cV (r := (some (.int (sh_b2 r1)))) (st2 := [.int (sh_b2 r1)]) (pc2 := 24) (k2 := 131) (a := 9) (as := [.ref 10, .int x1]) (rest := []) rfl rfl rfl (fun hT => hT.t9) rfl rfl ⟨Nat.le_of_ble_eq_true rfl, Nat.le_of_ble_eq_true rfl⟩ (sl_131 e1 ⟨rfl, rfl⟩) rfl rfl (Nat.le_of_ble_eq_true rfl) (Nat.le_of_ble_eq_true rfl) ?_
        rcases sh_ite e with ⟨c, e⟩ | ⟨c, e⟩
        · refine sh_Lk_lift (T := m.T) (I := m.I) (J := m.J) (s := m.s) (pc2 := 29) (lv2 := [(0, .ref 10), (1, .int x1), (2, .int x2)]) (st2 := [.int 1, .int x2]) (I2 := m.I) (J2 := m.J) (fun hT v kk => ?_) ?_
          · refine sh_j0 (c := .eq) (off := (15)) (pc2 := 27) false rfl (sh_Zeqf c) rfl ?_
            refine sh_w (i := (.iload_n 2)) (len := 1) (pc2 := 28) (lv2 := [(0, .ref 10), (1, .int x1), (2, .int x2)]) (st2 := [.int x2]) (h2 := (sh_rep m.T m.I m.J)) rfl rfl rfl ?_
            refine sh_w (i := (.iconst 1)) (len := 1) (pc2 := 29) (lv2 := [(0, .ref 10), (1, .int x1), (2, .int x2)]) (st2 := [.int 1, .int x2]) (h2 := (sh_rep m.T m.I m.J)) rfl rfl rfl ?_
            exact kk
          rcases sh_ite e with ⟨c, e⟩ | ⟨c, e⟩
          · refine sh_Lk_lift (T := m.T) (I := m.I) (J := m.J) (s := m.s) (pc2 := 37) (lv2 := [(0, .ref 10), (1, .int x1), (2, .int x2)]) (st2 := [.int x1, .ref ((sh_rf m.T 9 1) + 1)]) (I2 := m.I) (J2 := m.J) (fun hT v kk => ?_) ?_
            · refine sh_jc (c := .ne) (off := (10)) (pc2 := 32) false rfl (sh_Bnef c) rfl ?_
              refine sh_w (i := (.aload_n 0)) (len := 1) (pc2 := 33) (lv2 := [(0, .ref 10), (1, .int x1), (2, .int x2)]) (st2 := [.ref 10]) (h2 := (sh_rep m.T m.I m.J)) rfl rfl rfl ?_
              refine sh_gR1 (len := 3) (x := .ref (sh_rf m.T 9 1 + 1)) (pc2 := 36) rfl rfl hT.t9 rfl rfl ?_
              refine sh_w (i := (.iload_n 1)) (len := 1) (pc2 := 37) (lv2 := [(0, .ref 10), (1, .int x1), (2, .int x2)]) (st2 := [.int x1, .ref ((sh_rf m.T 9 1) + 1)]) (h2 := (sh_rep m.T m.I m.J)) rfl rfl rfl ?_
              exact kk
            obtain ⟨c, e⟩ := sh_gd e
            refine sh_Lk_lift (T := m.T) (I := m.I) (J := m.J) (s := m.s) (pc2 := 38) (lv2 := [(0, .ref 10), (1, .int x1), (2, .int x2)]) (st2 := [.int (m.I (sh_rf m.T 9 1) (Int32.toNatClampNeg x1))]) (I2 := m.I) (J2 := m.J) (fun hT v kk => ?_) ?_
            · refine sh_ia1 (x := m.I (sh_rf m.T 9 1) (Int32.toNatClampNeg x1)) (pc2 := 38) rfl hT.a9_1 (sh_okb1 c) (sh_okb2 c) rfl rfl ?_
              exact kk
            obtain rfl := Option.some.inj e
            obtain ⟨rfl, rfl⟩ := tg
            exact sh_Lk_ret (i := .ireturn) rfl rfl rfl (Nat.le_of_ble_eq_true rfl) (Nat.le_of_ble_eq_true rfl)
          · refine sh_Lk_lift (T := m.T) (I := m.I) (J := m.J) (s := m.s) (pc2 := 39) (lv2 := [(0, .ref 10), (1, .int x1), (2, .int x2)]) (st2 := []) (I2 := m.I) (J2 := m.J) (fun hT v kk => ?_) ?_
            · refine sh_jc (c := .ne) (off := (10)) (pc2 := 39) true rfl (sh_Bnet c) rfl ?_
              exact kk
            exact sh_Lk_sub (sh_sub_c rfl (sh_sub_c rfl (sh_sub_c rfl (sh_sub_n)))) (sl_130_39 e tg)
        · refine sh_Lk_lift (T := m.T) (I := m.I) (J := m.J) (s := m.s) (pc2 := 39) (lv2 := [(0, .ref 10), (1, .int x1), (2, .int x2)]) (st2 := []) (I2 := m.I) (J2 := m.J) (fun hT v kk => ?_) ?_
          · refine sh_j0 (c := .eq) (off := (15)) (pc2 := 39) true rfl (sh_Zeqt c) rfl ?_
            exact kk
          exact sh_Lk_sub (sh_sub_c rfl (sh_sub_c rfl (sh_sub_c rfl (sh_sub_n)))) (sl_130_39 e tg)
theorem sl_132 {x1 : Int32} {x2 : Int32} {m m2 : sh_X} {o : Outcome} {z : (Int32 × sh_X)} (e : sf_132 x1 x2 m = some z) (tg : (sh_tI o m2) z) : sh_Lk 132 0 [(0, .ref 10), (1, .int x1), (2, .int x2)] [] m o m2 11 266 := by
  unfold sf_132 at e
  refine sh_Lk_lift (T := m.T) (I := m.I) (J := m.J) (s := m.s) (pc2 := 1) (lv2 := [(0, .ref 10), (1, .int x1), (2, .int x2)]) (st2 := [.int x1]) (I2 := m.I) (J2 := m.J) (fun hT v kk => ?_) ?_
  · refine sh_w (i := (.iload_n 1)) (len := 1) (pc2 := 1) (lv2 := [(0, .ref 10), (1, .int x1), (2, .int x2)]) (st2 := [.int x1]) (h2 := (sh_rep m.T m.I m.J)) rfl rfl rfl ?_
    exact kk
  rcases sh_ite e with ⟨c, e⟩ | ⟨c, e⟩
  · refine sh_Lk_lift (T := m.T) (I := m.I) (J := m.J) (s := m.s) (pc2 := 9) (lv2 := [(0, .ref 10), (1, .int x1), (2, .int x2)]) (st2 := [.int 0]) (I2 := m.I) (J2 := m.J) (fun hT v kk => ?_) ?_
    · refine sh_j0 (c := .eq) (off := (7)) (pc2 := 8) true rfl (sh_Beqt c) rfl ?_
      refine sh_w (i := (.iconst 0)) (len := 1) (pc2 := 9) (lv2 := [(0, .ref 10), (1, .int x1), (2, .int x2)]) (st2 := [.int 0]) (h2 := (sh_rep m.T m.I m.J)) rfl rfl rfl ?_
      exact kk
    obtain rfl := Option.some.inj e
    obtain ⟨rfl, rfl⟩ := tg
    exact sh_Lk_ret (i := .ireturn) rfl rfl rfl (Nat.le_of_ble_eq_true rfl) (Nat.le_of_ble_eq_true rfl)
  · refine sh_Lk_lift (T := m.T) (I := m.I) (J := m.J) (s := m.s) (pc2 := 5) (lv2 := [(0, .ref 10), (1, .int x1), (2, .int x2)]) (st2 := [.int x2]) (I2 := m.I) (J2 := m.J) (fun hT v kk => ?_) ?_
    · refine sh_j0 (c := .eq) (off := (7)) (pc2 := 4) false rfl (sh_Beqf c) rfl ?_
      refine sh_w (i := (.iload_n 2)) (len := 1) (pc2 := 5) (lv2 := [(0, .ref 10), (1, .int x1), (2, .int x2)]) (st2 := [.int x2]) (h2 := (sh_rep m.T m.I m.J)) rfl rfl rfl ?_
      exact kk
    rcases sh_ite e with ⟨c, e⟩ | ⟨c, e⟩
    · refine sh_Lk_lift (T := m.T) (I := m.I) (J := m.J) (s := m.s) (pc2 := 9) (lv2 := [(0, .ref 10), (1, .int x1), (2, .int x2)]) (st2 := [.int 0]) (I2 := m.I) (J2 := m.J) (fun hT v kk => ?_) ?_
      · refine sh_j0 (c := .ne) (off := (5)) (pc2 := 8) false rfl (sh_Bnef c) rfl ?_
        refine sh_w (i := (.iconst 0)) (len := 1) (pc2 := 9) (lv2 := [(0, .ref 10), (1, .int x1), (2, .int x2)]) (st2 := [.int 0]) (h2 := (sh_rep m.T m.I m.J)) rfl rfl rfl ?_
        exact kk
      obtain rfl := Option.some.inj e
      obtain ⟨rfl, rfl⟩ := tg
      exact sh_Lk_ret (i := .ireturn) rfl rfl rfl (Nat.le_of_ble_eq_true rfl) (Nat.le_of_ble_eq_true rfl)
    · refine sh_Lk_lift (T := m.T) (I := m.I) (J := m.J) (s := m.s) (pc2 := 12) (lv2 := [(0, .ref 10), (1, .int x1), (2, .int x2)]) (st2 := [.int 1, .int x1]) (I2 := m.I) (J2 := m.J) (fun hT v kk => ?_) ?_
      · refine sh_j0 (c := .ne) (off := (5)) (pc2 := 10) true rfl (sh_Bnet c) rfl ?_
        refine sh_w (i := (.iload_n 1)) (len := 1) (pc2 := 11) (lv2 := [(0, .ref 10), (1, .int x1), (2, .int x2)]) (st2 := [.int x1]) (h2 := (sh_rep m.T m.I m.J)) rfl rfl rfl ?_
        refine sh_w (i := (.iconst 1)) (len := 1) (pc2 := 12) (lv2 := [(0, .ref 10), (1, .int x1), (2, .int x2)]) (st2 := [.int 1, .int x1]) (h2 := (sh_rep m.T m.I m.J)) rfl rfl rfl ?_
        exact kk
      rcases sh_ite e with ⟨c, e⟩ | ⟨c, e⟩
      · refine sh_Lk_lift (T := m.T) (I := m.I) (J := m.J) (s := m.s) (pc2 := 21) (lv2 := [(0, .ref 10), (1, .int x1), (2, .int x2)]) (st2 := [.int x2]) (I2 := m.I) (J2 := m.J) (fun hT v kk => ?_) ?_
        · refine sh_jc (c := .eq) (off := (8)) (pc2 := 20) true rfl (sh_Beqt c) rfl ?_
          refine sh_w (i := (.iload_n 2)) (len := 1) (pc2 := 21) (lv2 := [(0, .ref 10), (1, .int x1), (2, .int x2)]) (st2 := [.int x2]) (h2 := (sh_rep m.T m.I m.J)) rfl rfl rfl ?_
          exact kk
        obtain rfl := Option.some.inj e
        obtain ⟨rfl, rfl⟩ := tg
        exact sh_Lk_ret (i := .ireturn) rfl rfl rfl (Nat.le_of_ble_eq_true rfl) (Nat.le_of_ble_eq_true rfl)
      · refine sh_Lk_lift (T := m.T) (I := m.I) (J := m.J) (s := m.s) (pc2 := 17) (lv2 := [(0, .ref 10), (1, .int x1), (2, .int x2)]) (st2 := [.int x2, .int x1]) (I2 := m.I) (J2 := m.J) (fun hT v kk => ?_) ?_
        · refine sh_jc (c := .eq) (off := (8)) (pc2 := 15) false rfl (sh_Beqf c) rfl ?_
          refine sh_w (i := (.iload_n 1)) (len := 1) (pc2 := 16) (lv2 := [(0, .ref 10), (1, .int x1), (2, .int x2)]) (st2 := [.int x1]) (h2 := (sh_rep m.T m.I m.J)) rfl rfl rfl ?_
          refine sh_w (i := (.iload_n 2)) (len := 1) (pc2 := 17) (lv2 := [(0, .ref 10), (1, .int x1), (2, .int x2)]) (st2 := [.int x2, .int x1]) (h2 := (sh_rep m.T m.I m.J)) rfl rfl rfl ?_
          exact kk
        rcases sh_ite e with ⟨c, e⟩ | ⟨c, e⟩
        · refine sh_Lk_lift (T := m.T) (I := m.I) (J := m.J) (s := m.s) (pc2 := 21) (lv2 := [(0, .ref 10), (1, .int x1), (2, .int x2)]) (st2 := [.int x2]) (I2 := m.I) (J2 := m.J) (fun hT v kk => ?_) ?_
          · refine sh_jc (c := .ne) (off := (5)) (pc2 := 20) false rfl (sh_Bnef c) rfl ?_
            refine sh_w (i := (.iload_n 2)) (len := 1) (pc2 := 21) (lv2 := [(0, .ref 10), (1, .int x1), (2, .int x2)]) (st2 := [.int x2]) (h2 := (sh_rep m.T m.I m.J)) rfl rfl rfl ?_
            exact kk
          obtain rfl := Option.some.inj e
          obtain ⟨rfl, rfl⟩ := tg
          exact sh_Lk_ret (i := .ireturn) rfl rfl rfl (Nat.le_of_ble_eq_true rfl) (Nat.le_of_ble_eq_true rfl)
        · refine sh_Lk_lift (T := m.T) (I := m.I) (J := m.J) (s := m.s) (pc2 := 24) (lv2 := [(0, .ref 10), (1, .int x1), (2, .int x2)]) (st2 := [.int 1, .int x2]) (I2 := m.I) (J2 := m.J) (fun hT v kk => ?_) ?_
          · refine sh_jc (c := .ne) (off := (5)) (pc2 := 22) true rfl (sh_Bnet c) rfl ?_
            refine sh_w (i := (.iload_n 2)) (len := 1) (pc2 := 23) (lv2 := [(0, .ref 10), (1, .int x1), (2, .int x2)]) (st2 := [.int x2]) (h2 := (sh_rep m.T m.I m.J)) rfl rfl rfl ?_
            refine sh_w (i := (.iconst 1)) (len := 1) (pc2 := 24) (lv2 := [(0, .ref 10), (1, .int x1), (2, .int x2)]) (st2 := [.int 1, .int x2]) (h2 := (sh_rep m.T m.I m.J)) rfl rfl rfl ?_
            exact kk
          rcases sh_ite e with ⟨c, e⟩ | ⟨c, e⟩
          · refine sh_Lk_lift (T := m.T) (I := m.I) (J := m.J) (s := m.s) (pc2 := 38) (lv2 := [(0, .ref 10), (1, .int x1), (2, .int x2)]) (st2 := [.int x1]) (I2 := m.I) (J2 := m.J) (fun hT v kk => ?_) ?_
            · refine sh_jc (c := .ne) (off := (7)) (pc2 := 27) false rfl (sh_Bnef c) rfl ?_
              refine sh_w (i := (.iload_n 1)) (len := 1) (pc2 := 28) (lv2 := [(0, .ref 10), (1, .int x1), (2, .int x2)]) (st2 := [.int x1]) (h2 := (sh_rep m.T m.I m.J)) rfl rfl rfl ?_
              refine sh_w (i := (.goto 10)) (len := 3) (pc2 := 38) (lv2 := [(0, .ref 10), (1, .int x1), (2, .int x2)]) (st2 := [.int x1]) (h2 := (sh_rep m.T m.I m.J)) rfl rfl rfl ?_
              exact kk
            obtain rfl := Option.some.inj e
            obtain ⟨rfl, rfl⟩ := tg
            exact sh_Lk_ret (i := .ireturn) rfl rfl rfl (Nat.le_of_ble_eq_true rfl) (Nat.le_of_ble_eq_true rfl)
          · refine sh_Lk_lift (T := m.T) (I := m.I) (J := m.J) (s := m.s) (pc2 := 35) (lv2 := [(0, .ref 10), (1, .int x1), (2, .int x2)]) (st2 := [.int x2, .int x1, .int 2, .ref 10]) (I2 := m.I) (J2 := m.J) (fun hT v kk => ?_) ?_
            · refine sh_jc (c := .ne) (off := (7)) (pc2 := 31) true rfl (sh_Bnet c) rfl ?_
              refine sh_w (i := (.aload_n 0)) (len := 1) (pc2 := 32) (lv2 := [(0, .ref 10), (1, .int x1), (2, .int x2)]) (st2 := [.ref 10]) (h2 := (sh_rep m.T m.I m.J)) rfl rfl rfl ?_
              refine sh_w (i := (.iconst 2)) (len := 1) (pc2 := 33) (lv2 := [(0, .ref 10), (1, .int x1), (2, .int x2)]) (st2 := [.int 2, .ref 10]) (h2 := (sh_rep m.T m.I m.J)) rfl rfl rfl ?_
              refine sh_w (i := (.iload_n 1)) (len := 1) (pc2 := 34) (lv2 := [(0, .ref 10), (1, .int x1), (2, .int x2)]) (st2 := [.int x1, .int 2, .ref 10]) (h2 := (sh_rep m.T m.I m.J)) rfl rfl rfl ?_
              refine sh_w (i := (.iload_n 2)) (len := 1) (pc2 := 35) (lv2 := [(0, .ref 10), (1, .int x1), (2, .int x2)]) (st2 := [.int x2, .int x1, .int 2, .ref 10]) (h2 := (sh_rep m.T m.I m.J)) rfl rfl rfl ?_
              exact kk
            obtain ⟨r1, m11, e1, e⟩ := sh_bn_e e
            refine sh_Lk_cV (r := (some (.int r1))) (st2 := [.int r1]) (pc2 := 38) (k2 := 19) (a := 9) (as := [.ref 10, .int 2, .int x1, .int x2]) (rest := []) rfl rfl rfl (fun hT => hT.t9) rfl rfl ⟨Nat.le_of_ble_eq_true rfl, Nat.le_of_ble_eq_true rfl⟩ (sl_19 e1 ⟨rfl, rfl⟩) rfl rfl (Nat.le_of_ble_eq_true rfl) (Nat.le_of_ble_eq_true rfl) ?_
            obtain rfl := Option.some.inj e
            obtain ⟨rfl, rfl⟩ := tg
            exact sh_Lk_ret (i := .ireturn) rfl rfl rfl (Nat.le_of_ble_eq_true rfl) (Nat.le_of_ble_eq_true rfl)
theorem sl_129 {x1 : Int32} {x2 : Int32} {x3 : Int32} {m m2 : sh_X} {o : Outcome} {z : (Int32 × sh_X)} (e : sf_129 x1 x2 x3 m = some z) (tg : (sh_tI o m2) z) : sh_Lk 129 0 [(0, .ref 10), (1, .int x1), (2, .int x2), (3, .int x3)] [] m o m2 12 288 := by
  unfold sf_129 at e
  refine sh_Lk_lift (T := m.T) (I := m.I) (J := m.J) (s := m.s) (pc2 := 7) (lv2 := [(0, .ref 10), (1, .int x1), (2, .int x2), (3, .int x3)]) (st2 := [.int x3, .int x2, .ref 10, .int x1, .ref 10, .int x3, .ref 10]) (I2 := m.I) (J2 := m.J) (fun hT v kk => ?_) ?_
  · refine sh_w (i := (.aload_n 0)) (len := 1) (pc2 := 1) (lv2 := [(0, .ref 10), (1, .int x1), (2, .int x2), (3, .int x3)]) (st2 := [.ref 10]) (h2 := (sh_rep m.T m.I m.J)) rfl rfl rfl ?_
    refine sh_w (i := (.iload_n 3)) (len := 1) (pc2 := 2) (lv2 := [(0, .ref 10), (1, .int x1), (2, .int x2), (3, .int x3)]) (st2 := [.int x3, .ref 10]) (h2 := (sh_rep m.T m.I m.J)) rfl rfl rfl ?_
    refine sh_w (i := (.aload_n 0)) (len := 1) (pc2 := 3) (lv2 := [(0, .ref 10), (1, .int x1), (2, .int x2), (3, .int x3)]) (st2 := [.ref 10, .int x3, .ref 10]) (h2 := (sh_rep m.T m.I m.J)) rfl rfl rfl ?_
    refine sh_w (i := (.iload_n 1)) (len := 1) (pc2 := 4) (lv2 := [(0, .ref 10), (1, .int x1), (2, .int x2), (3, .int x3)]) (st2 := [.int x1, .ref 10, .int x3, .ref 10]) (h2 := (sh_rep m.T m.I m.J)) rfl rfl rfl ?_
    refine sh_w (i := (.aload_n 0)) (len := 1) (pc2 := 5) (lv2 := [(0, .ref 10), (1, .int x1), (2, .int x2), (3, .int x3)]) (st2 := [.ref 10, .int x1, .ref 10, .int x3, .ref 10]) (h2 := (sh_rep m.T m.I m.J)) rfl rfl rfl ?_
    refine sh_w (i := (.iload_n 2)) (len := 1) (pc2 := 6) (lv2 := [(0, .ref 10), (1, .int x1), (2, .int x2), (3, .int x3)]) (st2 := [.int x2, .ref 10, .int x1, .ref 10, .int x3, .ref 10]) (h2 := (sh_rep m.T m.I m.J)) rfl rfl rfl ?_
    refine sh_w (i := (.iload_n 3)) (len := 1) (pc2 := 7) (lv2 := [(0, .ref 10), (1, .int x1), (2, .int x2), (3, .int x3)]) (st2 := [.int x3, .int x2, .ref 10, .int x1, .ref 10, .int x3, .ref 10]) (h2 := (sh_rep m.T m.I m.J)) rfl rfl rfl ?_
    exact kk
  obtain ⟨r1, m11, e1, e⟩ := sh_bn_e e
  refine sh_Lk_cV (r := (some (.int r1))) (st2 := [.int r1, .int x1, .ref 10, .int x3, .ref 10]) (pc2 := 10) (k2 := 130) (a := 9) (as := [.ref 10, .int x2, .int x3]) (rest := [.int x1, .ref 10, .int x3, .ref 10]) rfl rfl rfl (fun hT => hT.t9) rfl rfl ⟨Nat.le_of_ble_eq_true rfl, Nat.le_of_ble_eq_true rfl⟩ (sl_130 e1 ⟨rfl, rfl⟩) rfl rfl (Nat.le_of_ble_eq_true rfl) (Nat.le_of_ble_eq_true rfl) ?_
  obtain ⟨r2, m12, e2, e⟩ := sh_bn_e e
  refine sh_Lk_cV (r := (some (.int r2))) (st2 := [.int r2, .int x3, .ref 10]) (pc2 := 13) (k2 := 132) (a := 9) (as := [.ref 10, .int x1, .int r1]) (rest := [.int x3, .ref 10]) rfl rfl rfl (fun hT => hT.t9) rfl rfl ⟨Nat.le_of_ble_eq_true rfl, Nat.le_of_ble_eq_true rfl⟩ (sl_132 e2 ⟨rfl, rfl⟩) rfl rfl (Nat.le_of_ble_eq_true rfl) (Nat.le_of_ble_eq_true rfl) ?_
  obtain ⟨r3, m13, e3, e⟩ := sh_bn_e e
  refine sh_Lk_cV (r := (some (.int r3))) (st2 := [.int r3]) (pc2 := 16) (k2 := 130) (a := 9) (as := [.ref 10, .int x3, .int r2]) (rest := []) rfl rfl rfl (fun hT => hT.t9) rfl rfl ⟨Nat.le_of_ble_eq_true rfl, Nat.le_of_ble_eq_true rfl⟩ (sl_130 e3 ⟨rfl, rfl⟩) rfl rfl (Nat.le_of_ble_eq_true rfl) (Nat.le_of_ble_eq_true rfl) ?_
  obtain rfl := Option.some.inj e
  obtain ⟨rfl, rfl⟩ := tg
  exact sh_Lk_ret (i := .ireturn) rfl rfl rfl (Nat.le_of_ble_eq_true rfl) (Nat.le_of_ble_eq_true rfl)
theorem sl_128_11s {x1 : Int32} {x2 : Int32} {x3 : Int32} {x4 : Int32} {x5 : Int32} {x6 : Int32} {m m2 : sh_X} {o : Outcome} {z : ((Int32 × sh_X) ⊕ (Int32 × sh_X))} (e : sf_128_11s x1 x2 x3 x4 x5 x6 m = some z) (tg : (sh_el (fun q => sh_Lk 128 11 [(0, .ref 45), (1, .int x1), (2, .int x2), (3, .int x3), (4, .int x4), (5, .int x5), (6, .int q.1)] [] q.2 o m2 13 311) (sh_tI o m2)) z) : sh_Lk 128 11 [(0, .ref 45), (1, .int x1), (2, .int x2), (3, .int x3), (4, .int x4), (5, .int x5), (6, .int x6)] [] m o m2 13 311 := by
  unfold sf_128_11s at e
  refine sh_Lk_lift (T := m.T) (I := m.I) (J := m.J) (s := m.s) (pc2 := 15) (lv2 := [(0, .ref 45), (1, .int x1), (2, .int x2), (3, .int x3), (4, .int x4), (5, .int x5), (6, .int x6)]) (st2 := [.int x4, .int x6]) (I2 := m.I) (J2 := m.J) (fun hT v kk => ?_) ?_
  · refine sh_w (i := (.iload 6)) (len := 2) (pc2 := 13) (lv2 := [(0, .ref 45), (1, .int x1), (2, .int x2), (3, .int x3), (4, .int x4), (5, .int x5), (6, .int x6)]) (st2 := [.int x6]) (h2 := (sh_rep m.T m.I m.J)) rfl rfl rfl ?_
    refine sh_w (i := (.iload 4)) (len := 2) (pc2 := 15) (lv2 := [(0, .ref 45), (1, .int x1), (2, .int x2), (3, .int x3), (4, .int x4), (5, .int x5), (6, .int x6)]) (st2 := [.int x4, .int x6]) (h2 := (sh_rep m.T m.I m.J)) rfl rfl rfl ?_
    exact kk
  rcases sh_ite e with ⟨c, e⟩ | ⟨c, e⟩
  · refine sh_Lk_lift (T := m.T) (I := m.I) (J := m.J) (s := m.s) (pc2 := 34) (lv2 := [(0, .ref 45), (1, .int x1), (2, .int x2), (3, .int x3), (4, .int x4), (5, .int x5), (6, .int x6)]) (st2 := [.int (x2 + x6), .ref 45, .int x1, .ref 10, .int (x5 + x6), .ref 45]) (I2 := m.I) (J2 := m.J) (fun hT v kk => ?_) ?_
    · refine sh_jc (c := .ge) (off := (42)) (pc2 := 18) false rfl (sh_Bgef c) rfl ?_
      refine sh_w (i := (.aload_n 0)) (len := 1) (pc2 := 19) (lv2 := [(0, .ref 45), (1, .int x1), (2, .int x2), (3, .int x3), (4, .int x4), (5, .int x5), (6, .int x6)]) (st2 := [.ref 45]) (h2 := (sh_rep m.T m.I m.J)) rfl rfl rfl ?_
      refine sh_w (i := (.iload 5)) (len := 2) (pc2 := 21) (lv2 := [(0, .ref 45), (1, .int x1), (2, .int x2), (3, .int x3), (4, .int x4), (5, .int x5), (6, .int x6)]) (st2 := [.int x5, .ref 45]) (h2 := (sh_rep m.T m.I m.J)) rfl rfl rfl ?_
      refine sh_w (i := (.iload 6)) (len := 2) (pc2 := 23) (lv2 := [(0, .ref 45), (1, .int x1), (2, .int x2), (3, .int x3), (4, .int x4), (5, .int x5), (6, .int x6)]) (st2 := [.int x6, .int x5, .ref 45]) (h2 := (sh_rep m.T m.I m.J)) rfl rfl rfl ?_
      refine sh_w (i := .iadd) (len := 1) (pc2 := 24) (lv2 := [(0, .ref 45), (1, .int x1), (2, .int x2), (3, .int x3), (4, .int x4), (5, .int x5), (6, .int x6)]) (st2 := [.int (x5 + x6), .ref 45]) (h2 := (sh_rep m.T m.I m.J)) rfl rfl rfl ?_
      refine sh_w (i := (.aload_n 0)) (len := 1) (pc2 := 25) (lv2 := [(0, .ref 45), (1, .int x1), (2, .int x2), (3, .int x3), (4, .int x4), (5, .int x5), (6, .int x6)]) (st2 := [.ref 45, .int (x5 + x6), .ref 45]) (h2 := (sh_rep m.T m.I m.J)) rfl rfl rfl ?_
      refine sh_gR1 (len := 3) (x := .ref 10) (pc2 := 28) rfl rfl (sh_s44 hT.st) rfl rfl ?_
      refine sh_w (i := (.iload_n 1)) (len := 1) (pc2 := 29) (lv2 := [(0, .ref 45), (1, .int x1), (2, .int x2), (3, .int x3), (4, .int x4), (5, .int x5), (6, .int x6)]) (st2 := [.int x1, .ref 10, .int (x5 + x6), .ref 45]) (h2 := (sh_rep m.T m.I m.J)) rfl rfl rfl ?_
      refine sh_w (i := (.aload_n 0)) (len := 1) (pc2 := 30) (lv2 := [(0, .ref 45), (1, .int x1), (2, .int x2), (3, .int x3), (4, .int x4), (5, .int x5), (6, .int x6)]) (st2 := [.ref 45, .int x1, .ref 10, .int (x5 + x6), .ref 45]) (h2 := (sh_rep m.T m.I m.J)) rfl rfl rfl ?_
      refine sh_w (i := (.iload_n 2)) (len := 1) (pc2 := 31) (lv2 := [(0, .ref 45), (1, .int x1), (2, .int x2), (3, .int x3), (4, .int x4), (5, .int x5), (6, .int x6)]) (st2 := [.int x2, .ref 45, .int x1, .ref 10, .int (x5 + x6), .ref 45]) (h2 := (sh_rep m.T m.I m.J)) rfl rfl rfl ?_
      refine sh_w (i := (.iload 6)) (len := 2) (pc2 := 33) (lv2 := [(0, .ref 45), (1, .int x1), (2, .int x2), (3, .int x3), (4, .int x4), (5, .int x5), (6, .int x6)]) (st2 := [.int x6, .int x2, .ref 45, .int x1, .ref 10, .int (x5 + x6), .ref 45]) (h2 := (sh_rep m.T m.I m.J)) rfl rfl rfl ?_
      refine sh_w (i := .iadd) (len := 1) (pc2 := 34) (lv2 := [(0, .ref 45), (1, .int x1), (2, .int x2), (3, .int x3), (4, .int x4), (5, .int x5), (6, .int x6)]) (st2 := [.int (x2 + x6), .ref 45, .int x1, .ref 10, .int (x5 + x6), .ref 45]) (h2 := (sh_rep m.T m.I m.J)) rfl rfl rfl ?_
      exact kk
    obtain ⟨r1, e1, e⟩ := sh_bc_e e
    refine sh_Lk_cV (r := (some (.int r1))) (st2 := [.int r1, .int x1, .ref 10, .int (x5 + x6), .ref 45]) (pc2 := 37) (k2 := 103) (a := 44) (as := [.ref 45, .int (x2 + x6)]) (rest := [.int x1, .ref 10, .int (x5 + x6), .ref 45]) rfl rfl rfl (fun hT => (sh_s44 hT.st)) rfl rfl ⟨Nat.le_of_ble_eq_true rfl, Nat.le_of_ble_eq_true rfl⟩ (sl_103 e1 ⟨rfl, rfl⟩) rfl rfl (Nat.le_of_ble_eq_true rfl) (Nat.le_of_ble_eq_true rfl) ?_
    refine sh_Lk_lift (T := m.T) (I := m.I) (J := m.J) (s := m.s) (pc2 := 42) (lv2 := [(0, .ref 45), (1, .int x1), (2, .int x2), (3, .int x3), (4, .int x4), (5, .int x5), (6, .int x6)]) (st2 := [.int (x3 + x6), .ref 45, .int r1, .int x1, .ref 10, .int (x5 + x6), .ref 45]) (I2 := m.I) (J2 := m.J) (fun hT v kk => ?_) ?_
    · refine sh_w (i := (.aload_n 0)) (len := 1) (pc2 := 38) (lv2 := [(0, .ref 45), (1, .int x1), (2, .int x2), (3, .int x3), (4, .int x4), (5, .int x5), (6, .int x6)]) (st2 := [.ref 45, .int r1, .int x1, .ref 10, .int (x5 + x6), .ref 45]) (h2 := (sh_rep m.T m.I m.J)) rfl rfl rfl ?_
      refine sh_w (i := (.iload_n 3)) (len := 1) (pc2 := 39) (lv2 := [(0, .ref 45), (1, .int x1), (2, .int x2), (3, .int x3), (4, .int x4), (5, .int x5), (6, .int x6)]) (st2 := [.int x3, .ref 45, .int r1, .int x1, .ref 10, .int (x5 + x6), .ref 45]) (h2 := (sh_rep m.T m.I m.J)) rfl rfl rfl ?_
      refine sh_w (i := (.iload 6)) (len := 2) (pc2 := 41) (lv2 := [(0, .ref 45), (1, .int x1), (2, .int x2), (3, .int x3), (4, .int x4), (5, .int x5), (6, .int x6)]) (st2 := [.int x6, .int x3, .ref 45, .int r1, .int x1, .ref 10, .int (x5 + x6), .ref 45]) (h2 := (sh_rep m.T m.I m.J)) rfl rfl rfl ?_
      refine sh_w (i := .iadd) (len := 1) (pc2 := 42) (lv2 := [(0, .ref 45), (1, .int x1), (2, .int x2), (3, .int x3), (4, .int x4), (5, .int x5), (6, .int x6)]) (st2 := [.int (x3 + x6), .ref 45, .int r1, .int x1, .ref 10, .int (x5 + x6), .ref 45]) (h2 := (sh_rep m.T m.I m.J)) rfl rfl rfl ?_
      exact kk
    obtain ⟨r2, e2, e⟩ := sh_bc_e e
    refine sh_Lk_cV (r := (some (.int r2))) (st2 := [.int r2, .int r1, .int x1, .ref 10, .int (x5 + x6), .ref 45]) (pc2 := 45) (k2 := 103) (a := 44) (as := [.ref 45, .int (x3 + x6)]) (rest := [.int r1, .int x1, .ref 10, .int (x5 + x6), .ref 45]) rfl rfl rfl (fun hT => (sh_s44 hT.st)) rfl rfl ⟨Nat.le_of_ble_eq_true rfl, Nat.le_of_ble_eq_true rfl⟩ (sl_103 e2 ⟨rfl, rfl⟩) rfl rfl (Nat.le_of_ble_eq_true rfl) (Nat.le_of_ble_eq_true rfl) ?_
    obtain ⟨r3, m13, e3, e⟩ := sh_bn_e e
    refine sh_Lk_cV (r := (some (.int r3))) (st2 := [.int r3, .int (x5 + x6), .ref 45]) (pc2 := 48) (k2 := 129) (a := 9) (as := [.ref 10, .int x1, .int r1, .int r2]) (rest := [.int (x5 + x6), .ref 45]) rfl rfl rfl (fun hT => hT.t9) rfl rfl ⟨Nat.le_of_ble_eq_true rfl, Nat.le_of_ble_eq_true rfl⟩ (sl_129 e3 ⟨rfl, rfl⟩) rfl rfl (Nat.le_of_ble_eq_true rfl) (Nat.le_of_ble_eq_true rfl) ?_
    obtain ⟨r4, m14, e4, e⟩ := sh_bn_e e
    refine sh_Lk_cV (r := none) (st2 := []) (pc2 := 51) (k2 := 100) (a := 44) (as := [.ref 45, .int (x5 + x6), .int r3]) (rest := []) rfl rfl rfl (fun hT => (sh_s44 hT.st)) rfl rfl ⟨Nat.le_of_ble_eq_true rfl, Nat.le_of_ble_eq_true rfl⟩ (sl_100 e4 ⟨rfl, rfl⟩) rfl rfl (Nat.le_of_ble_eq_true rfl) (Nat.le_of_ble_eq_true rfl) ?_
    refine sh_Lk_lift (T := m14.T) (I := m14.I) (J := m14.J) (s := m14.s) (pc2 := 11) (lv2 := [(6, .int (x6 + 1)), (0, .ref 45), (1, .int x1), (2, .int x2), (3, .int x3), (4, .int x4), (5, .int x5)]) (st2 := []) (I2 := m14.I) (J2 := m14.J) (fun hT v kk => ?_) ?_
    · refine sh_w (i := (.iinc 6 1)) (len := 3) (pc2 := 54) (lv2 := [(6, .int (x6 + 1)), (0, .ref 45), (1, .int x1), (2, .int x2), (3, .int x3), (4, .int x4), (5, .int x5)]) (st2 := []) (h2 := (sh_rep m14.T m14.I m14.J)) rfl rfl rfl ?_
      refine sh_w (i := (.goto (-43))) (len := 3) (pc2 := 11) (lv2 := [(6, .int (x6 + 1)), (0, .ref 45), (1, .int x1), (2, .int x2), (3, .int x3), (4, .int x4), (5, .int x5)]) (st2 := []) (h2 := (sh_rep m14.T m14.I m14.J)) rfl rfl rfl ?_
      exact kk
    obtain rfl := Option.some.inj e
    exact sh_Lk_sub (sh_sub_c rfl (sh_sub_c rfl (sh_sub_c rfl (sh_sub_c rfl (sh_sub_c rfl (sh_sub_c rfl (sh_sub_c rfl (sh_sub_n)))))))) tg
  · refine sh_Lk_lift (T := m.T) (I := m.I) (J := m.J) (s := m.s) (pc2 := 59) (lv2 := [(0, .ref 45), (1, .int x1), (2, .int x2), (3, .int x3), (4, .int x4), (5, .int x5), (6, .int x6)]) (st2 := [.int x5]) (I2 := m.I) (J2 := m.J) (fun hT v kk => ?_) ?_
    · refine sh_jc (c := .ge) (off := (42)) (pc2 := 57) true rfl (sh_Bget c) rfl ?_
      refine sh_w (i := (.iload 5)) (len := 2) (pc2 := 59) (lv2 := [(0, .ref 45), (1, .int x1), (2, .int x2), (3, .int x3), (4, .int x4), (5, .int x5), (6, .int x6)]) (st2 := [.int x5]) (h2 := (sh_rep m.T m.I m.J)) rfl rfl rfl ?_
      exact kk
    obtain rfl := Option.some.inj e
    obtain ⟨rfl, rfl⟩ := tg
    exact sh_Lk_ret (i := .ireturn) rfl rfl rfl (Nat.le_of_ble_eq_true rfl) (Nat.le_of_ble_eq_true rfl)
theorem sl_128_11 {x1 : Int32} {x2 : Int32} {x3 : Int32} {x4 : Int32} {x5 : Int32} {x6 : Int32} {m m2 : sh_X} {o : Outcome} {z : (Int32 × sh_X)} (e : sf_128_11 x1 x2 x3 x4 x5 x6 m = some z) (tg : (sh_tI o m2) z) : sh_Lk 128 11 [(0, .ref 45), (1, .int x1), (2, .int x2), (3, .int x3), (4, .int x4), (5, .int x5), (6, .int x6)] [] m o m2 13 311 := by
  unfold sf_128_11 at e
  exact sh_while_lk (P := fun q => sh_Lk 128 11 [(0, .ref 45), (1, .int x1), (2, .int x2), (3, .int x3), (4, .int x4), (5, .int x5), (6, .int q.1)] [] q.2 o m2 13 311) (Q := (sh_tI o m2)) (fun q z e tg => sl_128_11s (x1 := x1) (x2 := x2) (x3 := x3) (x4 := x4) (x5 := x5) (x6 := q.1) (m := q.2) e tg) (s := (x6, m)) e tg
theorem sl_128 {x1 : Int32} {x2 : Int32} {x3 : Int32} {x4 : Int32} {m m2 : sh_X} {o : Outcome} {z : (Int32 × sh_X)} (e : sf_128 x1 x2 x3 x4 m = some z) (tg : (sh_tI o m2) z) : sh_Lk 128 0 [(0, .ref 45), (1, .int x1), (2, .int x2), (3, .int x3), (4, .int x4)] [] m o m2 13 311 := by
  unfold sf_128 at e
  refine sh_Lk_lift (T := m.T) (I := m.I) (J := m.J) (s := m.s) (pc2 := 3) (lv2 := [(0, .ref 45), (1, .int x1), (2, .int x2), (3, .int x3), (4, .int x4)]) (st2 := [.int x4, .ref 45]) (I2 := m.I) (J2 := m.J) (fun hT v kk => ?_) ?_
  · refine sh_w (i := (.aload_n 0)) (len := 1) (pc2 := 1) (lv2 := [(0, .ref 45), (1, .int x1), (2, .int x2), (3, .int x3), (4, .int x4)]) (st2 := [.ref 45]) (h2 := (sh_rep m.T m.I m.J)) rfl rfl rfl ?_
    refine sh_w (i := (.iload 4)) (len := 2) (pc2 := 3) (lv2 := [(0, .ref 45), (1, .int x1), (2, .int x2), (3, .int x3), (4, .int x4)]) (st2 := [.int x4, .ref 45]) (h2 := (sh_rep m.T m.I m.J)) rfl rfl rfl ?_
    exact kk
  obtain ⟨r1, m11, e1, e⟩ := sh_bn_e e
  refine sh_Lk_cV (r := (some (.int r1))) (st2 := [.int r1]) (pc2 := 6) (k2 := 98) (a := 44) (as := [.ref 45, .int x4]) (rest := []) rfl rfl rfl (fun hT => (sh_s44 hT.st)) rfl rfl ⟨Nat.le_of_ble_eq_true rfl, Nat.le_of_ble_eq_true rfl⟩ (sl_98 e1 ⟨rfl, rfl⟩) rfl rfl (Nat.le_of_ble_eq_true rfl) (Nat.le_of_ble_eq_true rfl) ?_
  refine sh_Lk_lift (T := m11.T) (I := m11.I) (J := m11.J) (s := m11.s) (pc2 := 11) (lv2 := [(6, .int 0), (5, .int r1), (0, .ref 45), (1, .int x1), (2, .int x2), (3, .int x3), (4, .int x4)]) (st2 := []) (I2 := m11.I) (J2 := m11.J) (fun hT v kk => ?_) ?_
  · refine sh_w (i := (.istore 5)) (len := 2) (pc2 := 8) (lv2 := [(5, .int r1), (0, .ref 45), (1, .int x1), (2, .int x2), (3, .int x3), (4, .int x4)]) (st2 := []) (h2 := (sh_rep m11.T m11.I m11.J)) rfl rfl rfl ?_
    refine sh_w (i := (.iconst 0)) (len := 1) (pc2 := 9) (lv2 := [(5, .int r1), (0, .ref 45), (1, .int x1), (2, .int x2), (3, .int x3), (4, .int x4)]) (st2 := [.int 0]) (h2 := (sh_rep m11.T m11.I m11.J)) rfl rfl rfl ?_
    refine sh_w (i := (.istore 6)) (len := 2) (pc2 := 11) (lv2 := [(6, .int 0), (5, .int r1), (0, .ref 45), (1, .int x1), (2, .int x2), (3, .int x3), (4, .int x4)]) (st2 := []) (h2 := (sh_rep m11.T m11.I m11.J)) rfl rfl rfl ?_
    exact kk
  exact sh_Lk_sub (sh_sub_c rfl (sh_sub_c rfl (sh_sub_c rfl (sh_sub_c rfl (sh_sub_c rfl (sh_sub_c rfl (sh_sub_c rfl (sh_sub_n)))))))) (sl_128_11 e tg)
theorem sl_133 {x1 : Int32} {x2 : Int32} {m m2 : sh_X} {o : Outcome} {z : (Unit × sh_X)} (e : sf_133 x1 x2 m = some z) (tg : (sh_tV o m2) z) : sh_Lk 133 0 [(0, .ref 54), (1, .int x1), (2, .int x2)] [] m o m2 9 221 := by
  unfold sf_133 at e
  refine sh_Lk_lift (T := m.T) (I := m.I) (J := m.J) (s := m.s) (pc2 := 2) (lv2 := [(0, .ref 54), (1, .int x1), (2, .int x2)]) (st2 := [.int x1, .ref 54]) (I2 := m.I) (J2 := m.J) (fun hT v kk => ?_) ?_
  · refine sh_w (i := (.aload_n 0)) (len := 1) (pc2 := 1) (lv2 := [(0, .ref 54), (1, .int x1), (2, .int x2)]) (st2 := [.ref 54]) (h2 := (sh_rep m.T m.I m.J)) rfl rfl rfl ?_
    refine sh_w (i := (.iload_n 1)) (len := 1) (pc2 := 2) (lv2 := [(0, .ref 54), (1, .int x1), (2, .int x2)]) (st2 := [.int x1, .ref 54]) (h2 := (sh_rep m.T m.I m.J)) rfl rfl rfl ?_
    exact kk
  obtain ⟨r1, e1, e⟩ := sh_bc_e e
  refine sh_Lk_cV (r := (some (.int (sh_b2 r1)))) (st2 := [.int (sh_b2 r1)]) (pc2 := 5) (k2 := 121) (a := 53) (as := [.ref 54, .int x1]) (rest := []) rfl rfl rfl (fun hT => (sh_s53 hT.st)) rfl rfl ⟨Nat.le_of_ble_eq_true rfl, Nat.le_of_ble_eq_true rfl⟩ (sl_121 e1 ⟨rfl, rfl⟩) rfl rfl (Nat.le_of_ble_eq_true rfl) (Nat.le_of_ble_eq_true rfl) ?_
  rcases sh_ite e with ⟨c, e⟩ | ⟨c, e⟩
  · refine sh_Lk_lift (T := m.T) (I := m.I) (J := m.J) (s := m.s) (pc2 := 14) (lv2 := [(0, .ref 54), (1, .int x1), (2, .int x2)]) (st2 := [.int x2, .int x1, .ref 57]) (I2 := m.I) (J2 := m.J) (fun hT v kk => ?_) ?_
    · refine sh_j0 (c := .eq) (off := (10)) (pc2 := 8) false rfl (sh_Zeqf c) rfl ?_
      refine sh_w (i := (.aload_n 0)) (len := 1) (pc2 := 9) (lv2 := [(0, .ref 54), (1, .int x1), (2, .int x2)]) (st2 := [.ref 54]) (h2 := (sh_rep m.T m.I m.J)) rfl rfl rfl ?_
      refine sh_gR1 (len := 3) (x := .ref 57) (pc2 := 12) rfl rfl (sh_s53 hT.st) rfl rfl ?_
      refine sh_w (i := (.iload_n 1)) (len := 1) (pc2 := 13) (lv2 := [(0, .ref 54), (1, .int x1), (2, .int x2)]) (st2 := [.int x1, .ref 57]) (h2 := (sh_rep m.T m.I m.J)) rfl rfl rfl ?_
      refine sh_w (i := (.iload_n 2)) (len := 1) (pc2 := 14) (lv2 := [(0, .ref 54), (1, .int x1), (2, .int x2)]) (st2 := [.int x2, .int x1, .ref 57]) (h2 := (sh_rep m.T m.I m.J)) rfl rfl rfl ?_
      exact kk
    obtain ⟨c, e⟩ := sh_gd e
    refine sh_Lk_lift (T := m.T) (I := m.I) (J := m.J) (s := m.s) (pc2 := 15) (lv2 := [(0, .ref 54), (1, .int x1), (2, .int x2)]) (st2 := []) (I2 := sh_u2 m.I 56 (Int32.toNatClampNeg x1) x2) (J2 := m.J) (fun hT v kk => ?_) ?_
    · refine sh_is1 (x := x2) (i := x1) (pc2 := 15) rfl (sh_s56 hT.st) (sh_okb1 c) (sh_okb2 c) rfl ?_
      exact kk
    obtain rfl := Option.some.inj e
    obtain ⟨rfl, rfl⟩ := tg
    exact sh_Lk_ret (i := .return_) rfl rfl rfl (Nat.le_of_ble_eq_true rfl) (Nat.le_of_ble_eq_true rfl)
  · refine sh_Lk_lift (T := m.T) (I := m.I) (J := m.J) (s := m.s) (pc2 := 15) (lv2 := [(0, .ref 54), (1, .int x1), (2, .int x2)]) (st2 := []) (I2 := m.I) (J2 := m.J) (fun hT v kk => ?_) ?_
    · refine sh_j0 (c := .eq) (off := (10)) (pc2 := 15) true rfl (sh_Zeqt c) rfl ?_
      exact kk
    obtain rfl := Option.some.inj e
    obtain ⟨rfl, rfl⟩ := tg
    exact sh_Lk_ret (i := .return_) rfl rfl rfl (Nat.le_of_ble_eq_true rfl) (Nat.le_of_ble_eq_true rfl)
theorem sl_126_54 {x1 : Int32} {x4 : Int32} {m m2 : sh_X} {o : Outcome} {z : (Option Unit × sh_X)} (e : sf_126_54 x1 x4 m = some z) (tg : (sh_tVt o m2) z) : sh_Lk 126 54 [(0, .ref 42), (1, .int x1), (4, .int x4)] [] m o m2 14 337 := by
  unfold sf_126_54 at e
  refine sh_Lk_lift (T := m.T) (I := m.I) (J := m.J) (s := m.s) (pc2 := 61) (lv2 := [(0, .ref 42), (1, .int x1), (4, .int x4)]) (st2 := [.int x4, .int x1, .ref 54]) (I2 := m.I) (J2 := m.J) (fun hT v kk => ?_) ?_
  · refine sh_w (i := (.aload_n 0)) (len := 1) (pc2 := 55) (lv2 := [(0, .ref 42), (1, .int x1), (4, .int x4)]) (st2 := [.ref 42]) (h2 := (sh_rep m.T m.I m.J)) rfl rfl rfl ?_
    refine sh_gR1 (len := 3) (x := .ref 54) (pc2 := 58) rfl rfl (sh_s41 hT.st) rfl rfl ?_
    refine sh_w (i := (.iload_n 1)) (len := 1) (pc2 := 59) (lv2 := [(0, .ref 42), (1, .int x1), (4, .int x4)]) (st2 := [.int x1, .ref 54]) (h2 := (sh_rep m.T m.I m.J)) rfl rfl rfl ?_
    refine sh_w (i := (.iload 4)) (len := 2) (pc2 := 61) (lv2 := [(0, .ref 42), (1, .int x1), (4, .int x4)]) (st2 := [.int x4, .int x1, .ref 54]) (h2 := (sh_rep m.T m.I m.J)) rfl rfl rfl ?_
    exact kk
  obtain ⟨r1, m11, e1, e⟩ := sh_bn_e e
  refine sh_Lk_cV (r := none) (st2 := []) (pc2 := 64) (k2 := 133) (a := 53) (as := [.ref 54, .int x1, .int x4]) (rest := []) rfl rfl rfl (fun hT => (sh_s53 hT.st)) rfl rfl ⟨Nat.le_of_ble_eq_true rfl, Nat.le_of_ble_eq_true rfl⟩ (sl_133 e1 ⟨rfl, rfl⟩) rfl rfl (Nat.le_of_ble_eq_true rfl) (Nat.le_of_ble_eq_true rfl) ?_
  obtain rfl := Option.some.inj e
  obtain ⟨rfl, rfl⟩ := tg
  exact sh_Lk_ret (i := .return_) rfl rfl rfl (Nat.le_of_ble_eq_true rfl) (Nat.le_of_ble_eq_true rfl)
theorem sl_126 {x1 : Int32} {x2 : Int32} {x3 : Int32} {m m2 : sh_X} {o : Outcome} {z : (Option Unit × sh_X)} (e : sf_126 x1 x2 x3 m = some z) (tg : (sh_tVt o m2) z) : sh_Lk 126 0 [(0, .ref 42), (1, .int x1), (2, .int x2), (3, .int x3)] [] m o m2 14 337 := by
  unfold sf_126 at e
  refine sh_Lk_lift (T := m.T) (I := m.I) (J := m.J) (s := m.s) (pc2 := 7) (lv2 := [(4, .int x3), (0, .ref 42), (1, .int x1), (2, .int x2), (3, .int x3)]) (st2 := [.int (m.I 41 16)]) (I2 := m.I) (J2 := m.J) (fun hT v kk => ?_) ?_
  · refine sh_w (i := (.iload_n 3)) (len := 1) (pc2 := 1) (lv2 := [(0, .ref 42), (1, .int x1), (2, .int x2), (3, .int x3)]) (st2 := [.int x3]) (h2 := (sh_rep m.T m.I m.J)) rfl rfl rfl ?_
    refine sh_w (i := (.istore 4)) (len := 2) (pc2 := 3) (lv2 := [(4, .int x3), (0, .ref 42), (1, .int x1), (2, .int x2), (3, .int x3)]) (st2 := []) (h2 := (sh_rep m.T m.I m.J)) rfl rfl rfl ?_
    refine sh_w (i := (.aload_n 0)) (len := 1) (pc2 := 4) (lv2 := [(4, .int x3), (0, .ref 42), (1, .int x1), (2, .int x2), (3, .int x3)]) (st2 := [.ref 42]) (h2 := (sh_rep m.T m.I m.J)) rfl rfl rfl ?_
    refine sh_gI1 (len := 3) (x := m.I 41 16) (pc2 := 7) rfl rfl (sh_s41 hT.st) rfl rfl rfl ?_
    exact kk
  rcases sh_ite e with ⟨c, e⟩ | ⟨c, e⟩
  · refine sh_Lk_lift (T := m.T) (I := m.I) (J := m.J) (s := m.s) (pc2 := 15) (lv2 := [(4, .int x3), (0, .ref 42), (1, .int x1), (2, .int x2), (3, .int x3)]) (st2 := [.int x1, .ref 54]) (I2 := m.I) (J2 := m.J) (fun hT v kk => ?_) ?_
    · refine sh_j0 (c := .le) (off := (47)) (pc2 := 10) false rfl (sh_Blef c) rfl ?_
      refine sh_w (i := (.aload_n 0)) (len := 1) (pc2 := 11) (lv2 := [(4, .int x3), (0, .ref 42), (1, .int x1), (2, .int x2), (3, .int x3)]) (st2 := [.ref 42]) (h2 := (sh_rep m.T m.I m.J)) rfl rfl rfl ?_
      refine sh_gR1 (len := 3) (x := .ref 54) (pc2 := 14) rfl rfl (sh_s41 hT.st) rfl rfl ?_
      refine sh_w (i := (.iload_n 1)) (len := 1) (pc2 := 15) (lv2 := [(4, .int x3), (0, .ref 42), (1, .int x1), (2, .int x2), (3, .int x3)]) (st2 := [.int x1, .ref 54]) (h2 := (sh_rep m.T m.I m.J)) rfl rfl rfl ?_
      exact kk
    obtain ⟨r1, e1, e⟩ := sh_bc_e e
    refine sh_Lk_cV (r := (some (.int r1))) (st2 := [.int r1]) (pc2 := 18) (k2 := 120) (a := 53) (as := [.ref 54, .int x1]) (rest := []) rfl rfl rfl (fun hT => (sh_s53 hT.st)) rfl rfl ⟨Nat.le_of_ble_eq_true rfl, Nat.le_of_ble_eq_true rfl⟩ (sl_120 e1 ⟨rfl, rfl⟩) rfl rfl (Nat.le_of_ble_eq_true rfl) (Nat.le_of_ble_eq_true rfl) ?_
    refine sh_Lk_cS (r := (some (.int (sf_96 r1)))) (st2 := [.int (sf_96 r1)]) (pc2 := 21) (k2 := 96) (as := [.int r1]) (rest := []) rfl rfl (by decide) (Nat.le_of_ble_eq_true rfl) rfl rfl ⟨Nat.le_of_ble_eq_true rfl, Nat.le_of_ble_eq_true rfl⟩ (sl_96 (m := m) rfl ⟨rfl, rfl⟩) rfl rfl (Nat.le_of_ble_eq_true rfl) (Nat.le_of_ble_eq_true rfl) ?_
    refine sh_Lk_lift (T := m.T) (I := m.I) (J := m.J) (s := m.s) (pc2 := 27) (lv2 := [(5, .int (sf_96 r1)), (4, .int x3), (0, .ref 42), (1, .int x1), (2, .int x2), (3, .int x3)]) (st2 := [.int x2, .int (sf_96 r1), .ref 42]) (I2 := m.I) (J2 := m.J) (fun hT v kk => ?_) ?_
    · refine sh_w (i := (.istore 5)) (len := 2) (pc2 := 23) (lv2 := [(5, .int (sf_96 r1)), (4, .int x3), (0, .ref 42), (1, .int x1), (2, .int x2), (3, .int x3)]) (st2 := []) (h2 := (sh_rep m.T m.I m.J)) rfl rfl rfl ?_
      refine sh_w (i := (.aload_n 0)) (len := 1) (pc2 := 24) (lv2 := [(5, .int (sf_96 r1)), (4, .int x3), (0, .ref 42), (1, .int x1), (2, .int x2), (3, .int x3)]) (st2 := [.ref 42]) (h2 := (sh_rep m.T m.I m.J)) rfl rfl rfl ?_
      refine sh_w (i := (.iload 5)) (len := 2) (pc2 := 26) (lv2 := [(5, .int (sf_96 r1)), (4, .int x3), (0, .ref 42), (1, .int x1), (2, .int x2), (3, .int x3)]) (st2 := [.int (sf_96 r1), .ref 42]) (h2 := (sh_rep m.T m.I m.J)) rfl rfl rfl ?_
      refine sh_w (i := (.iload_n 2)) (len := 1) (pc2 := 27) (lv2 := [(5, .int (sf_96 r1)), (4, .int x3), (0, .ref 42), (1, .int x1), (2, .int x2), (3, .int x3)]) (st2 := [.int x2, .int (sf_96 r1), .ref 42]) (h2 := (sh_rep m.T m.I m.J)) rfl rfl rfl ?_
      exact kk
    rcases sh_bt_e e with ⟨m13, e3, rfl⟩ | ⟨r3, m13, e3, e⟩
    · obtain ⟨rfl, rfl⟩ := tg
      exact sh_Lk_tV (k2 := 90) (a := 41) (as := [.ref 42, .int (sf_96 r1), .int x2]) (rest := []) rfl rfl rfl (fun hT => (sh_s41 hT.st)) rfl rfl ⟨Nat.le_of_ble_eq_true rfl, Nat.le_of_ble_eq_true rfl⟩ (sl_90 e3 ⟨rfl, rfl⟩) rfl (Nat.le_of_ble_eq_true rfl) (Nat.le_of_ble_eq_true rfl) (Nat.le_of_ble_eq_true rfl) (Nat.le_of_ble_eq_true rfl) rfl
    refine sh_Lk_cV (r := none) (st2 := []) (pc2 := 30) (k2 := 90) (a := 41) (as := [.ref 42, .int (sf_96 r1), .int x2]) (rest := []) rfl rfl rfl (fun hT => (sh_s41 hT.st)) rfl rfl ⟨Nat.le_of_ble_eq_true rfl, Nat.le_of_ble_eq_true rfl⟩ (sl_90 e3 ⟨rfl, rfl⟩) rfl rfl (Nat.le_of_ble_eq_true rfl) (Nat.le_of_ble_eq_true rfl) ?_
    refine sh_Lk_lift (T := m13.T) (I := m13.I) (J := m13.J) (s := m13.s) (pc2 := 44) (lv2 := [(5, .int (sf_96 r1)), (4, .int x3), (0, .ref 42), (1, .int x1), (2, .int x2), (3, .int x3)]) (st2 := [.int x1, .ref 54, .int x3, .int (m13.I 41 15), .ref 45]) (I2 := m13.I) (J2 := m13.J) (fun hT v kk => ?_) ?_
    · refine sh_w (i := (.aload_n 0)) (len := 1) (pc2 := 31) (lv2 := [(5, .int (sf_96 r1)), (4, .int x3), (0, .ref 42), (1, .int x1), (2, .int x2), (3, .int x3)]) (st2 := [.ref 42]) (h2 := (sh_rep m13.T m13.I m13.J)) rfl rfl rfl ?_
      refine sh_gR1 (len := 3) (x := .ref 45) (pc2 := 34) rfl rfl (sh_s41 hT.st) rfl rfl ?_
      refine sh_w (i := (.aload_n 0)) (len := 1) (pc2 := 35) (lv2 := [(5, .int (sf_96 r1)), (4, .int x3), (0, .ref 42), (1, .int x1), (2, .int x2), (3, .int x3)]) (st2 := [.ref 42, .ref 45]) (h2 := (sh_rep m13.T m13.I m13.J)) rfl rfl rfl ?_
      refine sh_gI1 (len := 3) (x := m13.I 41 15) (pc2 := 38) rfl rfl (sh_s41 hT.st) rfl rfl rfl ?_
      refine sh_w (i := (.iload_n 3)) (len := 1) (pc2 := 39) (lv2 := [(5, .int (sf_96 r1)), (4, .int x3), (0, .ref 42), (1, .int x1), (2, .int x2), (3, .int x3)]) (st2 := [.int x3, .int (m13.I 41 15), .ref 45]) (h2 := (sh_rep m13.T m13.I m13.J)) rfl rfl rfl ?_
      refine sh_w (i := (.aload_n 0)) (len := 1) (pc2 := 40) (lv2 := [(5, .int (sf_96 r1)), (4, .int x3), (0, .ref 42), (1, .int x1), (2, .int x2), (3, .int x3)]) (st2 := [.ref 42, .int x3, .int (m13.I 41 15), .ref 45]) (h2 := (sh_rep m13.T m13.I m13.J)) rfl rfl rfl ?_
      refine sh_gR1 (len := 3) (x := .ref 54) (pc2 := 43) rfl rfl (sh_s41 hT.st) rfl rfl ?_
      refine sh_w (i := (.iload_n 1)) (len := 1) (pc2 := 44) (lv2 := [(5, .int (sf_96 r1)), (4, .int x3), (0, .ref 42), (1, .int x1), (2, .int x2), (3, .int x3)]) (st2 := [.int x1, .ref 54, .int x3, .int (m13.I 41 15), .ref 45]) (h2 := (sh_rep m13.T m13.I m13.J)) rfl rfl rfl ?_
      exact kk
    obtain ⟨r4, e4, e⟩ := sh_bc_e e
    refine sh_Lk_cV (r := (some (.int r4))) (st2 := [.int r4, .int x3, .int (m13.I 41 15), .ref 45]) (pc2 := 47) (k2 := 127) (a := 53) (as := [.ref 54, .int x1]) (rest := [.int x3, .int (m13.I 41 15), .ref 45]) rfl rfl rfl (fun hT => (sh_s53 hT.st)) rfl rfl ⟨Nat.le_of_ble_eq_true rfl, Nat.le_of_ble_eq_true rfl⟩ (sl_127 e4 ⟨rfl, rfl⟩) rfl rfl (Nat.le_of_ble_eq_true rfl) (Nat.le_of_ble_eq_true rfl) ?_
    refine sh_Lk_lift (T := m13.T) (I := m13.I) (J := m13.J) (s := m13.s) (pc2 := 49) (lv2 := [(5, .int (sf_96 r1)), (4, .int x3), (0, .ref 42), (1, .int x1), (2, .int x2), (3, .int x3)]) (st2 := [.int (sf_96 r1), .int r4, .int x3, .int (m13.I 41 15), .ref 45]) (I2 := m13.I) (J2 := m13.J) (fun hT v kk => ?_) ?_
    · refine sh_w (i := (.iload 5)) (len := 2) (pc2 := 49) (lv2 := [(5, .int (sf_96 r1)), (4, .int x3), (0, .ref 42), (1, .int x1), (2, .int x2), (3, .int x3)]) (st2 := [.int (sf_96 r1), .int r4, .int x3, .int (m13.I 41 15), .ref 45]) (h2 := (sh_rep m13.T m13.I m13.J)) rfl rfl rfl ?_
      exact kk
    obtain ⟨r5, m15, e5, e⟩ := sh_bn_e e
    refine sh_Lk_cV (r := (some (.int r5))) (st2 := [.int r5]) (pc2 := 52) (k2 := 128) (a := 44) (as := [.ref 45, .int (m13.I 41 15), .int x3, .int r4, .int (sf_96 r1)]) (rest := []) rfl rfl rfl (fun hT => (sh_s44 hT.st)) rfl rfl ⟨Nat.le_of_ble_eq_true rfl, Nat.le_of_ble_eq_true rfl⟩ (sl_128 e5 ⟨rfl, rfl⟩) rfl rfl (Nat.le_of_ble_eq_true rfl) (Nat.le_of_ble_eq_true rfl) ?_
    refine sh_Lk_lift (T := m15.T) (I := m15.I) (J := m15.J) (s := m15.s) (pc2 := 54) (lv2 := [(4, .int r5), (5, .int (sf_96 r1)), (0, .ref 42), (1, .int x1), (2, .int x2), (3, .int x3)]) (st2 := []) (I2 := m15.I) (J2 := m15.J) (fun hT v kk => ?_) ?_
    · refine sh_w (i := (.istore 4)) (len := 2) (pc2 := 54) (lv2 := [(4, .int r5), (5, .int (sf_96 r1)), (0, .ref 42), (1, .int x1), (2, .int x2), (3, .int x3)]) (st2 := []) (h2 := (sh_rep m15.T m15.I m15.J)) rfl rfl rfl ?_
      exact kk
    exact sh_Lk_sub (sh_sub_c rfl (sh_sub_c rfl (sh_sub_c rfl (sh_sub_n)))) (sl_126_54 e tg)
  · refine sh_Lk_lift (T := m.T) (I := m.I) (J := m.J) (s := m.s) (pc2 := 54) (lv2 := [(4, .int x3), (0, .ref 42), (1, .int x1), (2, .int x2), (3, .int x3)]) (st2 := []) (I2 := m.I) (J2 := m.J) (fun hT v kk => ?_) ?_
    · refine sh_j0 (c := .le) (off := (47)) (pc2 := 54) true rfl (sh_Blet c) rfl ?_
      exact kk
    exact sh_Lk_sub (sh_sub_c rfl (sh_sub_c rfl (sh_sub_c rfl (sh_sub_n)))) (sl_126_54 e tg)
theorem sl_124 {x1 : Int32} {x2 : Int32} {m m2 : sh_X} {o : Outcome} {z : (Option Unit × sh_X)} (e : sf_124 x1 x2 m = some z) (tg : (sh_tVt o m2) z) : sh_Lk 124 0 [(0, .ref 42), (1, .int x1), (2, .int x2)] [] m o m2 15 362 := by
  unfold sf_124 at e
  refine sh_Lk_lift (T := m.T) (I := m.I) (J := m.J) (s := m.s) (pc2 := 9) (lv2 := [(0, .ref 42), (1, .int x1), (2, .int x2)]) (st2 := [.int x1, .ref 3, .ref 54]) (I2 := m.I) (J2 := m.J) (fun hT v kk => ?_) ?_
  · refine sh_w (i := (.aload_n 0)) (len := 1) (pc2 := 1) (lv2 := [(0, .ref 42), (1, .int x1), (2, .int x2)]) (st2 := [.ref 42]) (h2 := (sh_rep m.T m.I m.J)) rfl rfl rfl ?_
    refine sh_gR1 (len := 3) (x := .ref 54) (pc2 := 4) rfl rfl (sh_s41 hT.st) rfl rfl ?_
    refine sh_w (i := (.aload_n 0)) (len := 1) (pc2 := 5) (lv2 := [(0, .ref 42), (1, .int x1), (2, .int x2)]) (st2 := [.ref 42, .ref 54]) (h2 := (sh_rep m.T m.I m.J)) rfl rfl rfl ?_
    refine sh_gR1 (len := 3) (x := .ref 3) (pc2 := 8) rfl rfl (sh_s41 hT.st) rfl rfl ?_
    refine sh_w (i := (.iload_n 1)) (len := 1) (pc2 := 9) (lv2 := [(0, .ref 42), (1, .int x1), (2, .int x2)]) (st2 := [.int x1, .ref 3, .ref 54]) (h2 := (sh_rep m.T m.I m.J)) rfl rfl rfl ?_
    exact kk
  obtain ⟨r1, e1, e⟩ := sh_bc_e e
  refine sh_Lk_cV (r := (some (.int r1))) (st2 := [.int r1, .ref 54]) (pc2 := 12) (k2 := 83) (a := 2) (as := [.ref 3, .int x1]) (rest := [.ref 54]) rfl rfl rfl (fun hT => hT.t2) rfl rfl ⟨Nat.le_of_ble_eq_true rfl, Nat.le_of_ble_eq_true rfl⟩ (sl_83 e1 ⟨rfl, rfl⟩) rfl rfl (Nat.le_of_ble_eq_true rfl) (Nat.le_of_ble_eq_true rfl) ?_
  obtain ⟨r2, e2, e⟩ := sh_bc_e e
  refine sh_Lk_cV (r := (some (.int r2))) (st2 := [.int r2]) (pc2 := 15) (k2 := 92) (a := 53) (as := [.ref 54, .int r1]) (rest := []) rfl rfl rfl (fun hT => (sh_s53 hT.st)) rfl rfl ⟨Nat.le_of_ble_eq_true rfl, Nat.le_of_ble_eq_true rfl⟩ (sl_92 e2 ⟨rfl, rfl⟩) rfl rfl (Nat.le_of_ble_eq_true rfl) (Nat.le_of_ble_eq_true rfl) ?_
  refine sh_Lk_lift (T := m.T) (I := m.I) (J := m.J) (s := m.s) (pc2 := 22) (lv2 := [(3, .int r2), (0, .ref 42), (1, .int x1), (2, .int x2)]) (st2 := [.int r2, .ref 54, .ref 42]) (I2 := m.I) (J2 := m.J) (fun hT v kk => ?_) ?_
  · refine sh_w (i := (.istore_n 3)) (len := 1) (pc2 := 16) (lv2 := [(3, .int r2), (0, .ref 42), (1, .int x1), (2, .int x2)]) (st2 := []) (h2 := (sh_rep m.T m.I m.J)) rfl rfl rfl ?_
    refine sh_w (i := (.aload_n 0)) (len := 1) (pc2 := 17) (lv2 := [(3, .int r2), (0, .ref 42), (1, .int x1), (2, .int x2)]) (st2 := [.ref 42]) (h2 := (sh_rep m.T m.I m.J)) rfl rfl rfl ?_
    refine sh_w (i := (.aload_n 0)) (len := 1) (pc2 := 18) (lv2 := [(3, .int r2), (0, .ref 42), (1, .int x1), (2, .int x2)]) (st2 := [.ref 42, .ref 42]) (h2 := (sh_rep m.T m.I m.J)) rfl rfl rfl ?_
    refine sh_gR1 (len := 3) (x := .ref 54) (pc2 := 21) rfl rfl (sh_s41 hT.st) rfl rfl ?_
    refine sh_w (i := (.iload_n 3)) (len := 1) (pc2 := 22) (lv2 := [(3, .int r2), (0, .ref 42), (1, .int x1), (2, .int x2)]) (st2 := [.int r2, .ref 54, .ref 42]) (h2 := (sh_rep m.T m.I m.J)) rfl rfl rfl ?_
    exact kk
  obtain ⟨r3, e3, e⟩ := sh_bc_e e
  refine sh_Lk_cV (r := (some (.int r3))) (st2 := [.int r3, .ref 42]) (pc2 := 25) (k2 := 120) (a := 53) (as := [.ref 54, .int r2]) (rest := [.ref 42]) rfl rfl rfl (fun hT => (sh_s53 hT.st)) rfl rfl ⟨Nat.le_of_ble_eq_true rfl, Nat.le_of_ble_eq_true rfl⟩ (sl_120 e3 ⟨rfl, rfl⟩) rfl rfl (Nat.le_of_ble_eq_true rfl) (Nat.le_of_ble_eq_true rfl) ?_
  refine sh_Lk_lift (T := m.T) (I := m.I) (J := m.J) (s := m.s) (pc2 := 26) (lv2 := [(3, .int r2), (0, .ref 42), (1, .int x1), (2, .int x2)]) (st2 := [.int x2, .int r3, .ref 42]) (I2 := m.I) (J2 := m.J) (fun hT v kk => ?_) ?_
  · refine sh_w (i := (.iload_n 2)) (len := 1) (pc2 := 26) (lv2 := [(3, .int r2), (0, .ref 42), (1, .int x1), (2, .int x2)]) (st2 := [.int x2, .int r3, .ref 42]) (h2 := (sh_rep m.T m.I m.J)) rfl rfl rfl ?_
    exact kk
  rcases sh_bt_e e with ⟨m14, e4, rfl⟩ | ⟨r4, m14, e4, e⟩
  · obtain ⟨rfl, rfl⟩ := tg
    exact sh_Lk_tV (k2 := 125) (a := 41) (as := [.ref 42, .int r3, .int x2]) (rest := []) rfl rfl rfl (fun hT => (sh_s41 hT.st)) rfl rfl ⟨Nat.le_of_ble_eq_true rfl, Nat.le_of_ble_eq_true rfl⟩ (sl_125 e4 ⟨rfl, rfl⟩) rfl (Nat.le_of_ble_eq_true rfl) (Nat.le_of_ble_eq_true rfl) (Nat.le_of_ble_eq_true rfl) (Nat.le_of_ble_eq_true rfl) rfl
  refine sh_Lk_cV (r := none) (st2 := []) (pc2 := 29) (k2 := 125) (a := 41) (as := [.ref 42, .int r3, .int x2]) (rest := []) rfl rfl rfl (fun hT => (sh_s41 hT.st)) rfl rfl ⟨Nat.le_of_ble_eq_true rfl, Nat.le_of_ble_eq_true rfl⟩ (sl_125 e4 ⟨rfl, rfl⟩) rfl rfl (Nat.le_of_ble_eq_true rfl) (Nat.le_of_ble_eq_true rfl) ?_
  refine sh_Lk_lift (T := m14.T) (I := m14.I) (J := m14.J) (s := m14.s) (pc2 := 42) (lv2 := [(3, .int r2), (0, .ref 42), (1, .int x1), (2, .int x2)]) (st2 := [.int ((m14.I 48 4) - 1), .ref 49]) (I2 := m14.I) (J2 := m14.J) (fun hT v kk => ?_) ?_
  · refine sh_w (i := (.aload_n 0)) (len := 1) (pc2 := 30) (lv2 := [(3, .int r2), (0, .ref 42), (1, .int x1), (2, .int x2)]) (st2 := [.ref 42]) (h2 := (sh_rep m14.T m14.I m14.J)) rfl rfl rfl ?_
    refine sh_gR1 (len := 3) (x := .ref 49) (pc2 := 33) rfl rfl (sh_s41 hT.st) rfl rfl ?_
    refine sh_w (i := (.aload_n 0)) (len := 1) (pc2 := 34) (lv2 := [(3, .int r2), (0, .ref 42), (1, .int x1), (2, .int x2)]) (st2 := [.ref 42, .ref 49]) (h2 := (sh_rep m14.T m14.I m14.J)) rfl rfl rfl ?_
    refine sh_gR1 (len := 3) (x := .ref 49) (pc2 := 37) rfl rfl (sh_s41 hT.st) rfl rfl ?_
    refine sh_gI1 (len := 3) (x := m14.I 48 4) (pc2 := 40) rfl rfl (sh_s48 hT.st) rfl rfl rfl ?_
    refine sh_w (i := (.iconst 1)) (len := 1) (pc2 := 41) (lv2 := [(3, .int r2), (0, .ref 42), (1, .int x1), (2, .int x2)]) (st2 := [.int 1, .int (m14.I 48 4), .ref 49]) (h2 := (sh_rep m14.T m14.I m14.J)) rfl rfl rfl ?_
    refine sh_w (i := .isub) (len := 1) (pc2 := 42) (lv2 := [(3, .int r2), (0, .ref 42), (1, .int x1), (2, .int x2)]) (st2 := [.int ((m14.I 48 4) - 1), .ref 49]) (h2 := (sh_rep m14.T m14.I m14.J)) rfl rfl rfl ?_
    exact kk
  obtain ⟨r5, e5, e⟩ := sh_bc_e e
  refine sh_Lk_cV (r := (some (.int r5))) (st2 := [.int r5]) (pc2 := 45) (k2 := 117) (a := 48) (as := [.ref 49, .int ((m14.I 48 4) - 1)]) (rest := []) rfl rfl rfl (fun hT => (sh_s48 hT.st)) rfl rfl ⟨Nat.le_of_ble_eq_true rfl, Nat.le_of_ble_eq_true rfl⟩ (sl_117 e5 ⟨rfl, rfl⟩) rfl rfl (Nat.le_of_ble_eq_true rfl) (Nat.le_of_ble_eq_true rfl) ?_
  refine sh_Lk_lift (T := m14.T) (I := m14.I) (J := m14.J) (s := m14.s) (pc2 := 52) (lv2 := [(4, .int r5), (3, .int r2), (0, .ref 42), (1, .int x1), (2, .int x2)]) (st2 := [.int 1, .ref 49]) (I2 := m14.I) (J2 := m14.J) (fun hT v kk => ?_) ?_
  · refine sh_w (i := (.istore 4)) (len := 2) (pc2 := 47) (lv2 := [(4, .int r5), (3, .int r2), (0, .ref 42), (1, .int x1), (2, .int x2)]) (st2 := []) (h2 := (sh_rep m14.T m14.I m14.J)) rfl rfl rfl ?_
    refine sh_w (i := (.aload_n 0)) (len := 1) (pc2 := 48) (lv2 := [(4, .int r5), (3, .int r2), (0, .ref 42), (1, .int x1), (2, .int x2)]) (st2 := [.ref 42]) (h2 := (sh_rep m14.T m14.I m14.J)) rfl rfl rfl ?_
    refine sh_gR1 (len := 3) (x := .ref 49) (pc2 := 51) rfl rfl (sh_s41 hT.st) rfl rfl ?_
    refine sh_w (i := (.iconst 1)) (len := 1) (pc2 := 52) (lv2 := [(4, .int r5), (3, .int r2), (0, .ref 42), (1, .int x1), (2, .int x2)]) (st2 := [.int 1, .ref 49]) (h2 := (sh_rep m14.T m14.I m14.J)) rfl rfl rfl ?_
    exact kk
  obtain ⟨r6, m16, e6, e⟩ := sh_bn_e e
  refine sh_Lk_cV (r := none) (st2 := []) (pc2 := 55) (k2 := 118) (a := 48) (as := [.ref 49, .int 1]) (rest := []) rfl rfl rfl (fun hT => (sh_s48 hT.st)) rfl rfl ⟨Nat.le_of_ble_eq_true rfl, Nat.le_of_ble_eq_true rfl⟩ (sl_118 e6 ⟨rfl, rfl⟩) rfl rfl (Nat.le_of_ble_eq_true rfl) (Nat.le_of_ble_eq_true rfl) ?_
  refine sh_Lk_lift (T := m16.T) (I := m16.I) (J := m16.J) (s := m16.s) (pc2 := 60) (lv2 := [(4, .int r5), (3, .int r2), (0, .ref 42), (1, .int x1), (2, .int x2)]) (st2 := [.int r5, .int x1, .int r2, .ref 42]) (I2 := m16.I) (J2 := m16.J) (fun hT v kk => ?_) ?_
  · refine sh_w (i := (.aload_n 0)) (len := 1) (pc2 := 56) (lv2 := [(4, .int r5), (3, .int r2), (0, .ref 42), (1, .int x1), (2, .int x2)]) (st2 := [.ref 42]) (h2 := (sh_rep m16.T m16.I m16.J)) rfl rfl rfl ?_
    refine sh_w (i := (.iload_n 3)) (len := 1) (pc2 := 57) (lv2 := [(4, .int r5), (3, .int r2), (0, .ref 42), (1, .int x1), (2, .int x2)]) (st2 := [.int r2, .ref 42]) (h2 := (sh_rep m16.T m16.I m16.J)) rfl rfl rfl ?_
    refine sh_w (i := (.iload_n 1)) (len := 1) (pc2 := 58) (lv2 := [(4, .int r5), (3, .int r2), (0, .ref 42), (1, .int x1), (2, .int x2)]) (st2 := [.int x1, .int r2, .ref 42]) (h2 := (sh_rep m16.T m16.I m16.J)) rfl rfl rfl ?_
    refine sh_w (i := (.iload 4)) (len := 2) (pc2 := 60) (lv2 := [(4, .int r5), (3, .int r2), (0, .ref 42), (1, .int x1), (2, .int x2)]) (st2 := [.int r5, .int x1, .int r2, .ref 42]) (h2 := (sh_rep m16.T m16.I m16.J)) rfl rfl rfl ?_
    exact kk
  rcases sh_bt_e e with ⟨m17, e7, rfl⟩ | ⟨r7, m17, e7, e⟩
  · obtain ⟨rfl, rfl⟩ := tg
    exact sh_Lk_tV (k2 := 126) (a := 41) (as := [.ref 42, .int r2, .int x1, .int r5]) (rest := []) rfl rfl rfl (fun hT => (sh_s41 hT.st)) rfl rfl ⟨Nat.le_of_ble_eq_true rfl, Nat.le_of_ble_eq_true rfl⟩ (sl_126 e7 ⟨rfl, rfl⟩) rfl (Nat.le_of_ble_eq_true rfl) (Nat.le_of_ble_eq_true rfl) (Nat.le_of_ble_eq_true rfl) (Nat.le_of_ble_eq_true rfl) rfl
  refine sh_Lk_cV (r := none) (st2 := []) (pc2 := 63) (k2 := 126) (a := 41) (as := [.ref 42, .int r2, .int x1, .int r5]) (rest := []) rfl rfl rfl (fun hT => (sh_s41 hT.st)) rfl rfl ⟨Nat.le_of_ble_eq_true rfl, Nat.le_of_ble_eq_true rfl⟩ (sl_126 e7 ⟨rfl, rfl⟩) rfl rfl (Nat.le_of_ble_eq_true rfl) (Nat.le_of_ble_eq_true rfl) ?_
  obtain rfl := Option.some.inj e
  obtain ⟨rfl, rfl⟩ := tg
  exact sh_Lk_ret (i := .return_) rfl rfl rfl (Nat.le_of_ble_eq_true rfl) (Nat.le_of_ble_eq_true rfl)
theorem sl_135 {x0 : Int32} {m m2 : sh_X} {o : Outcome} {z : Int32} (e : sf_135 x0 = z) (tg : (sh_tIc m o m2) z) : sh_Lk 135 0 [(0, .int x0)] [] m o m2 8 200 := by
  unfold sf_135 at e
  refine sh_Lk_lift (T := m.T) (I := m.I) (J := m.J) (s := m.s) (pc2 := 5) (lv2 := [(0, .int x0)]) (st2 := [.int (x0 - x0 / 512 * 512)]) (I2 := m.I) (J2 := m.J) (fun hT v kk => ?_) ?_
  · refine sh_w (i := (.iload_n 0)) (len := 1) (pc2 := 1) (lv2 := [(0, .int x0)]) (st2 := [.int x0]) (h2 := (sh_rep m.T m.I m.J)) rfl rfl rfl ?_
    refine sh_w (i := (.sipush 512)) (len := 3) (pc2 := 4) (lv2 := [(0, .int x0)]) (st2 := [.int 512, .int x0]) (h2 := (sh_rep m.T m.I m.J)) rfl rfl rfl ?_
    refine sh_w (i := .irem) (len := 1) (pc2 := 5) (lv2 := [(0, .int x0)]) (st2 := [.int (x0 - x0 / 512 * 512)]) (h2 := (sh_rep m.T m.I m.J)) rfl rfl rfl ?_
    exact kk
  obtain rfl := e
  obtain ⟨rfl, rfl⟩ := tg
  exact sh_Lk_ret (i := .ireturn) rfl rfl rfl (Nat.le_of_ble_eq_true rfl) (Nat.le_of_ble_eq_true rfl)
theorem sl_137_3s {x1 : Int32} {x2 : Int32} {x3 : Int32} {x4 : Int32} {m m2 : sh_X} {o : Outcome} {z : ((Int32 × sh_X) ⊕ (Unit × sh_X))} (e : sf_137_3s x1 x2 x3 x4 m = some z) (tg : (sh_el (fun q => sh_Lk 137 3 [(0, .ref 45), (1, .int x1), (2, .int x2), (3, .int x3), (4, .int q.1)] [] q.2 o m2 9 222) (sh_tV o m2)) z) : sh_Lk 137 3 [(0, .ref 45), (1, .int x1), (2, .int x2), (3, .int x3), (4, .int x4)] [] m o m2 9 222 := by
  unfold sf_137_3s at e
  refine sh_Lk_lift (T := m.T) (I := m.I) (J := m.J) (s := m.s) (pc2 := 6) (lv2 := [(0, .ref 45), (1, .int x1), (2, .int x2), (3, .int x3), (4, .int x4)]) (st2 := [.int x3, .int x4]) (I2 := m.I) (J2 := m.J) (fun hT v kk => ?_) ?_
  · refine sh_w (i := (.iload 4)) (len := 2) (pc2 := 5) (lv2 := [(0, .ref 45), (1, .int x1), (2, .int x2), (3, .int x3), (4, .int x4)]) (st2 := [.int x4]) (h2 := (sh_rep m.T m.I m.J)) rfl rfl rfl ?_
    refine sh_w (i := (.iload_n 3)) (len := 1) (pc2 := 6) (lv2 := [(0, .ref 45), (1, .int x1), (2, .int x2), (3, .int x3), (4, .int x4)]) (st2 := [.int x3, .int x4]) (h2 := (sh_rep m.T m.I m.J)) rfl rfl rfl ?_
    exact kk
  rcases sh_ite e with ⟨c, e⟩ | ⟨c, e⟩
  · refine sh_Lk_lift (T := m.T) (I := m.I) (J := m.J) (s := m.s) (pc2 := 19) (lv2 := [(0, .ref 45), (1, .int x1), (2, .int x2), (3, .int x3), (4, .int x4)]) (st2 := [.int (x1 + x4), .ref 45, .int (x2 + x4), .ref 45]) (I2 := m.I) (J2 := m.J) (fun hT v kk => ?_) ?_
    · refine sh_jc (c := .ge) (off := (25)) (pc2 := 9) false rfl (sh_Bgef c) rfl ?_
      refine sh_w (i := (.aload_n 0)) (len := 1) (pc2 := 10) (lv2 := [(0, .ref 45), (1, .int x1), (2, .int x2), (3, .int x3), (4, .int x4)]) (st2 := [.ref 45]) (h2 := (sh_rep m.T m.I m.J)) rfl rfl rfl ?_
      refine sh_w (i := (.iload_n 2)) (len := 1) (pc2 := 11) (lv2 := [(0, .ref 45), (1, .int x1), (2, .int x2), (3, .int x3), (4, .int x4)]) (st2 := [.int x2, .ref 45]) (h2 := (sh_rep m.T m.I m.J)) rfl rfl rfl ?_
      refine sh_w (i := (.iload 4)) (len := 2) (pc2 := 13) (lv2 := [(0, .ref 45), (1, .int x1), (2, .int x2), (3, .int x3), (4, .int x4)]) (st2 := [.int x4, .int x2, .ref 45]) (h2 := (sh_rep m.T m.I m.J)) rfl rfl rfl ?_
      refine sh_w (i := .iadd) (len := 1) (pc2 := 14) (lv2 := [(0, .ref 45), (1, .int x1), (2, .int x2), (3, .int x3), (4, .int x4)]) (st2 := [.int (x2 + x4), .ref 45]) (h2 := (sh_rep m.T m.I m.J)) rfl rfl rfl ?_
      refine sh_w (i := (.aload_n 0)) (len := 1) (pc2 := 15) (lv2 := [(0, .ref 45), (1, .int x1), (2, .int x2), (3, .int x3), (4, .int x4)]) (st2 := [.ref 45, .int (x2 + x4), .ref 45]) (h2 := (sh_rep m.T m.I m.J)) rfl rfl rfl ?_
      refine sh_w (i := (.iload_n 1)) (len := 1) (pc2 := 16) (lv2 := [(0, .ref 45), (1, .int x1), (2, .int x2), (3, .int x3), (4, .int x4)]) (st2 := [.int x1, .ref 45, .int (x2 + x4), .ref 45]) (h2 := (sh_rep m.T m.I m.J)) rfl rfl rfl ?_
      refine sh_w (i := (.iload 4)) (len := 2) (pc2 := 18) (lv2 := [(0, .ref 45), (1, .int x1), (2, .int x2), (3, .int x3), (4, .int x4)]) (st2 := [.int x4, .int x1, .ref 45, .int (x2 + x4), .ref 45]) (h2 := (sh_rep m.T m.I m.J)) rfl rfl rfl ?_
      refine sh_w (i := .iadd) (len := 1) (pc2 := 19) (lv2 := [(0, .ref 45), (1, .int x1), (2, .int x2), (3, .int x3), (4, .int x4)]) (st2 := [.int (x1 + x4), .ref 45, .int (x2 + x4), .ref 45]) (h2 := (sh_rep m.T m.I m.J)) rfl rfl rfl ?_
      exact kk
    obtain ⟨r1, e1, e⟩ := sh_bc_e e
    refine sh_Lk_cV (r := (some (.int r1))) (st2 := [.int r1, .int (x2 + x4), .ref 45]) (pc2 := 22) (k2 := 103) (a := 44) (as := [.ref 45, .int (x1 + x4)]) (rest := [.int (x2 + x4), .ref 45]) rfl rfl rfl (fun hT => (sh_s44 hT.st)) rfl rfl ⟨Nat.le_of_ble_eq_true rfl, Nat.le_of_ble_eq_true rfl⟩ (sl_103 e1 ⟨rfl, rfl⟩) rfl rfl (Nat.le_of_ble_eq_true rfl) (Nat.le_of_ble_eq_true rfl) ?_
    obtain ⟨r2, m12, e2, e⟩ := sh_bn_e e
    refine sh_Lk_cV (r := none) (st2 := []) (pc2 := 25) (k2 := 100) (a := 44) (as := [.ref 45, .int (x2 + x4), .int r1]) (rest := []) rfl rfl rfl (fun hT => (sh_s44 hT.st)) rfl rfl ⟨Nat.le_of_ble_eq_true rfl, Nat.le_of_ble_eq_true rfl⟩ (sl_100 e2 ⟨rfl, rfl⟩) rfl rfl (Nat.le_of_ble_eq_true rfl) (Nat.le_of_ble_eq_true rfl) ?_
    refine sh_Lk_lift (T := m12.T) (I := m12.I) (J := m12.J) (s := m12.s) (pc2 := 3) (lv2 := [(4, .int (x4 + 1)), (0, .ref 45), (1, .int x1), (2, .int x2), (3, .int x3)]) (st2 := []) (I2 := m12.I) (J2 := m12.J) (fun hT v kk => ?_) ?_
    · refine sh_w (i := (.iinc 4 1)) (len := 3) (pc2 := 28) (lv2 := [(4, .int (x4 + 1)), (0, .ref 45), (1, .int x1), (2, .int x2), (3, .int x3)]) (st2 := []) (h2 := (sh_rep m12.T m12.I m12.J)) rfl rfl rfl ?_
      refine sh_w (i := (.goto (-25))) (len := 3) (pc2 := 3) (lv2 := [(4, .int (x4 + 1)), (0, .ref 45), (1, .int x1), (2, .int x2), (3, .int x3)]) (st2 := []) (h2 := (sh_rep m12.T m12.I m12.J)) rfl rfl rfl ?_
      exact kk
    obtain rfl := Option.some.inj e
    exact sh_Lk_sub (sh_sub_c rfl (sh_sub_c rfl (sh_sub_c rfl (sh_sub_c rfl (sh_sub_c rfl (sh_sub_n)))))) tg
  · refine sh_Lk_lift (T := m.T) (I := m.I) (J := m.J) (s := m.s) (pc2 := 31) (lv2 := [(0, .ref 45), (1, .int x1), (2, .int x2), (3, .int x3), (4, .int x4)]) (st2 := []) (I2 := m.I) (J2 := m.J) (fun hT v kk => ?_) ?_
    · refine sh_jc (c := .ge) (off := (25)) (pc2 := 31) true rfl (sh_Bget c) rfl ?_
      exact kk
    obtain rfl := Option.some.inj e
    obtain ⟨rfl, rfl⟩ := tg
    exact sh_Lk_ret (i := .return_) rfl rfl rfl (Nat.le_of_ble_eq_true rfl) (Nat.le_of_ble_eq_true rfl)
theorem sl_137_3 {x1 : Int32} {x2 : Int32} {x3 : Int32} {x4 : Int32} {m m2 : sh_X} {o : Outcome} {z : (Unit × sh_X)} (e : sf_137_3 x1 x2 x3 x4 m = some z) (tg : (sh_tV o m2) z) : sh_Lk 137 3 [(0, .ref 45), (1, .int x1), (2, .int x2), (3, .int x3), (4, .int x4)] [] m o m2 9 222 := by
  unfold sf_137_3 at e
  exact sh_while_lk (P := fun q => sh_Lk 137 3 [(0, .ref 45), (1, .int x1), (2, .int x2), (3, .int x3), (4, .int q.1)] [] q.2 o m2 9 222) (Q := (sh_tV o m2)) (fun q z e tg => sl_137_3s (x1 := x1) (x2 := x2) (x3 := x3) (x4 := q.1) (m := q.2) e tg) (s := (x4, m)) e tg
theorem sl_137 {x1 : Int32} {x2 : Int32} {x3 : Int32} {m m2 : sh_X} {o : Outcome} {z : (Unit × sh_X)} (e : sf_137 x1 x2 x3 m = some z) (tg : (sh_tV o m2) z) : sh_Lk 137 0 [(0, .ref 45), (1, .int x1), (2, .int x2), (3, .int x3)] [] m o m2 9 222 := by
  unfold sf_137 at e
  refine sh_Lk_lift (T := m.T) (I := m.I) (J := m.J) (s := m.s) (pc2 := 3) (lv2 := [(4, .int 0), (0, .ref 45), (1, .int x1), (2, .int x2), (3, .int x3)]) (st2 := []) (I2 := m.I) (J2 := m.J) (fun hT v kk => ?_) ?_
  · refine sh_w (i := (.iconst 0)) (len := 1) (pc2 := 1) (lv2 := [(0, .ref 45), (1, .int x1), (2, .int x2), (3, .int x3)]) (st2 := [.int 0]) (h2 := (sh_rep m.T m.I m.J)) rfl rfl rfl ?_
    refine sh_w (i := (.istore 4)) (len := 2) (pc2 := 3) (lv2 := [(4, .int 0), (0, .ref 45), (1, .int x1), (2, .int x2), (3, .int x3)]) (st2 := []) (h2 := (sh_rep m.T m.I m.J)) rfl rfl rfl ?_
    exact kk
  exact sh_Lk_sub (sh_sub_c rfl (sh_sub_c rfl (sh_sub_c rfl (sh_sub_c rfl (sh_sub_c rfl (sh_sub_n)))))) (sl_137_3 e tg)
theorem sl_136 {x1 : Int32} {x2 : Int32} {x3 : Int64} {x5 : Int32} {m m2 : sh_X} {o : Outcome} {z : (Int32 × sh_X)} (e : sf_136 x1 x2 x3 x5 m = some z) (tg : (sh_tI o m2) z) : sh_Lk 136 0 [(0, .ref 42), (1, .int x1), (2, .int x2), (3, .long x3), (5, .int x5)] [] m o m2 10 246 := by
  unfold sf_136 at e
  refine sh_Lk_lift (T := m.T) (I := m.I) (J := m.J) (s := m.s) (pc2 := 3) (lv2 := [(0, .ref 42), (1, .int x1), (2, .int x2), (3, .long x3), (5, .int x5)]) (st2 := [.int (lg_cmp x3 0)]) (I2 := m.I) (J2 := m.J) (fun hT v kk => ?_) ?_
  · refine sh_w (i := (.lload_n 3)) (len := 1) (pc2 := 1) (lv2 := [(0, .ref 42), (1, .int x1), (2, .int x2), (3, .long x3), (5, .int x5)]) (st2 := [.long x3]) (h2 := (sh_rep m.T m.I m.J)) rfl rfl rfl ?_
    refine sh_w (i := (.lconst 0)) (len := 1) (pc2 := 2) (lv2 := [(0, .ref 42), (1, .int x1), (2, .int x2), (3, .long x3), (5, .int x5)]) (st2 := [.long 0, .long x3]) (h2 := (sh_rep m.T m.I m.J)) rfl rfl rfl ?_
    refine sh_w (i := .lcmp) (len := 1) (pc2 := 3) (lv2 := [(0, .ref 42), (1, .int x1), (2, .int x2), (3, .long x3), (5, .int x5)]) (st2 := [.int (lg_cmp x3 0)]) (h2 := (sh_rep m.T m.I m.J)) rfl rfl rfl ?_
    exact kk
  rcases sh_ite e with ⟨c, e⟩ | ⟨c, e⟩
  · refine sh_Lk_lift (T := m.T) (I := m.I) (J := m.J) (s := m.s) (pc2 := 17) (lv2 := [(0, .ref 42), (1, .int x1), (2, .int x2), (3, .long x3), (5, .int x5)]) (st2 := [.int x1]) (I2 := m.I) (J2 := m.J) (fun hT v kk => ?_) ?_
    · refine sh_j0 (c := .lt) (off := (13)) (pc2 := 16) true rfl (sh_Cltt c) rfl ?_
      refine sh_w (i := (.iload_n 1)) (len := 1) (pc2 := 17) (lv2 := [(0, .ref 42), (1, .int x1), (2, .int x2), (3, .long x3), (5, .int x5)]) (st2 := [.int x1]) (h2 := (sh_rep m.T m.I m.J)) rfl rfl rfl ?_
      exact kk
    obtain rfl := Option.some.inj e
    obtain ⟨rfl, rfl⟩ := tg
    exact sh_Lk_ret (i := .ireturn) rfl rfl rfl (Nat.le_of_ble_eq_true rfl) (Nat.le_of_ble_eq_true rfl)
  · refine sh_Lk_lift (T := m.T) (I := m.I) (J := m.J) (s := m.s) (pc2 := 8) (lv2 := [(0, .ref 42), (1, .int x1), (2, .int x2), (3, .long x3), (5, .int x5)]) (st2 := [.int x2, .long x3]) (I2 := m.I) (J2 := m.J) (fun hT v kk => ?_) ?_
    · refine sh_j0 (c := .lt) (off := (13)) (pc2 := 6) false rfl (sh_Cltf c) rfl ?_
      refine sh_w (i := (.lload_n 3)) (len := 1) (pc2 := 7) (lv2 := [(0, .ref 42), (1, .int x1), (2, .int x2), (3, .long x3), (5, .int x5)]) (st2 := [.long x3]) (h2 := (sh_rep m.T m.I m.J)) rfl rfl rfl ?_
      refine sh_w (i := (.iload_n 2)) (len := 1) (pc2 := 8) (lv2 := [(0, .ref 42), (1, .int x1), (2, .int x2), (3, .long x3), (5, .int x5)]) (st2 := [.int x2, .long x3]) (h2 := (sh_rep m.T m.I m.J)) rfl rfl rfl ?_
      exact kk
    refine sh_Lk_cS (r := (some (.int (sf_93 x2)))) (st2 := [.int (sf_93 x2), .long x3]) (pc2 := 11) (k2 := 93) (as := [.int x2]) (rest := [.long x3]) rfl rfl (by decide) (Nat.le_of_ble_eq_true rfl) rfl rfl ⟨Nat.le_of_ble_eq_true rfl, Nat.le_of_ble_eq_true rfl⟩ (sl_93 (m := m) rfl ⟨rfl, rfl⟩) rfl rfl (Nat.le_of_ble_eq_true rfl) (Nat.le_of_ble_eq_true rfl) ?_
    refine sh_Lk_lift (T := m.T) (I := m.I) (J := m.J) (s := m.s) (pc2 := 13) (lv2 := [(0, .ref 42), (1, .int x1), (2, .int x2), (3, .long x3), (5, .int x5)]) (st2 := [.int (lg_cmp x3 (Int32.toInt64 (sf_93 x2)))]) (I2 := m.I) (J2 := m.J) (fun hT v kk => ?_) ?_
    · refine sh_w (i := .i2l) (len := 1) (pc2 := 12) (lv2 := [(0, .ref 42), (1, .int x1), (2, .int x2), (3, .long x3), (5, .int x5)]) (st2 := [.long (Int32.toInt64 (sf_93 x2)), .long x3]) (h2 := (sh_rep m.T m.I m.J)) rfl rfl rfl ?_
      refine sh_w (i := .lcmp) (len := 1) (pc2 := 13) (lv2 := [(0, .ref 42), (1, .int x1), (2, .int x2), (3, .long x3), (5, .int x5)]) (st2 := [.int (lg_cmp x3 (Int32.toInt64 (sf_93 x2)))]) (h2 := (sh_rep m.T m.I m.J)) rfl rfl rfl ?_
      exact kk
    rcases sh_ite e with ⟨c, e⟩ | ⟨c, e⟩
    · refine sh_Lk_lift (T := m.T) (I := m.I) (J := m.J) (s := m.s) (pc2 := 19) (lv2 := [(0, .ref 42), (1, .int x1), (2, .int x2), (3, .long x3), (5, .int x5)]) (st2 := [.int x2]) (I2 := m.I) (J2 := m.J) (fun hT v kk => ?_) ?_
      · refine sh_j0 (c := .lt) (off := (5)) (pc2 := 18) true rfl (sh_Cltt c) rfl ?_
        refine sh_w (i := (.iload_n 2)) (len := 1) (pc2 := 19) (lv2 := [(0, .ref 42), (1, .int x1), (2, .int x2), (3, .long x3), (5, .int x5)]) (st2 := [.int x2]) (h2 := (sh_rep m.T m.I m.J)) rfl rfl rfl ?_
        exact kk
      refine sh_Lk_cS (r := (some (.int (sf_94 x2)))) (st2 := [.int (sf_94 x2)]) (pc2 := 22) (k2 := 94) (as := [.int x2]) (rest := []) rfl rfl (by decide) (Nat.le_of_ble_eq_true rfl) rfl rfl ⟨Nat.le_of_ble_eq_true rfl, Nat.le_of_ble_eq_true rfl⟩ (sl_94 (m := m) rfl ⟨rfl, rfl⟩) rfl rfl (Nat.le_of_ble_eq_true rfl) (Nat.le_of_ble_eq_true rfl) ?_
      refine sh_Lk_lift (T := m.T) (I := m.I) (J := m.J) (s := m.s) (pc2 := 29) (lv2 := [(6, .int (sf_94 x2)), (0, .ref 42), (1, .int x1), (2, .int x2), (3, .long x3), (5, .int x5)]) (st2 := [.int x2, .ref 45]) (I2 := m.I) (J2 := m.J) (fun hT v kk => ?_) ?_
      · refine sh_w (i := (.istore 6)) (len := 2) (pc2 := 24) (lv2 := [(6, .int (sf_94 x2)), (0, .ref 42), (1, .int x1), (2, .int x2), (3, .long x3), (5, .int x5)]) (st2 := []) (h2 := (sh_rep m.T m.I m.J)) rfl rfl rfl ?_
        refine sh_w (i := (.aload_n 0)) (len := 1) (pc2 := 25) (lv2 := [(6, .int (sf_94 x2)), (0, .ref 42), (1, .int x1), (2, .int x2), (3, .long x3), (5, .int x5)]) (st2 := [.ref 42]) (h2 := (sh_rep m.T m.I m.J)) rfl rfl rfl ?_
        refine sh_gR1 (len := 3) (x := .ref 45) (pc2 := 28) rfl rfl (sh_s41 hT.st) rfl rfl ?_
        refine sh_w (i := (.iload_n 2)) (len := 1) (pc2 := 29) (lv2 := [(6, .int (sf_94 x2)), (0, .ref 42), (1, .int x1), (2, .int x2), (3, .long x3), (5, .int x5)]) (st2 := [.int x2, .ref 45]) (h2 := (sh_rep m.T m.I m.J)) rfl rfl rfl ?_
        exact kk
      refine sh_Lk_cS (r := (some (.int (sf_96 x2)))) (st2 := [.int (sf_96 x2), .ref 45]) (pc2 := 32) (k2 := 96) (as := [.int x2]) (rest := [.ref 45]) rfl rfl (by decide) (Nat.le_of_ble_eq_true rfl) rfl rfl ⟨Nat.le_of_ble_eq_true rfl, Nat.le_of_ble_eq_true rfl⟩ (sl_96 (m := m) rfl ⟨rfl, rfl⟩) rfl rfl (Nat.le_of_ble_eq_true rfl) (Nat.le_of_ble_eq_true rfl) ?_
      obtain ⟨r4, m14, e4, e⟩ := sh_bn_e e
      refine sh_Lk_cV (r := (some (.int r4))) (st2 := [.int r4]) (pc2 := 35) (k2 := 98) (a := 44) (as := [.ref 45, .int (sf_96 x2)]) (rest := []) rfl rfl rfl (fun hT => (sh_s44 hT.st)) rfl rfl ⟨Nat.le_of_ble_eq_true rfl, Nat.le_of_ble_eq_true rfl⟩ (sl_98 e4 ⟨rfl, rfl⟩) rfl rfl (Nat.le_of_ble_eq_true rfl) (Nat.le_of_ble_eq_true rfl) ?_
      refine sh_Lk_lift (T := m14.T) (I := m14.I) (J := m14.J) (s := m14.s) (pc2 := 45) (lv2 := [(7, .int r4), (6, .int (sf_94 x2)), (0, .ref 42), (1, .int x1), (2, .int x2), (3, .long x3), (5, .int x5)]) (st2 := [.int x2, .int r4, .int x1, .ref 45]) (I2 := m14.I) (J2 := m14.J) (fun hT v kk => ?_) ?_
      · refine sh_w (i := (.istore 7)) (len := 2) (pc2 := 37) (lv2 := [(7, .int r4), (6, .int (sf_94 x2)), (0, .ref 42), (1, .int x1), (2, .int x2), (3, .long x3), (5, .int x5)]) (st2 := []) (h2 := (sh_rep m14.T m14.I m14.J)) rfl rfl rfl ?_
        refine sh_w (i := (.aload_n 0)) (len := 1) (pc2 := 38) (lv2 := [(7, .int r4), (6, .int (sf_94 x2)), (0, .ref 42), (1, .int x1), (2, .int x2), (3, .long x3), (5, .int x5)]) (st2 := [.ref 42]) (h2 := (sh_rep m14.T m14.I m14.J)) rfl rfl rfl ?_
        refine sh_gR1 (len := 3) (x := .ref 45) (pc2 := 41) rfl rfl (sh_s41 hT.st) rfl rfl ?_
        refine sh_w (i := (.iload_n 1)) (len := 1) (pc2 := 42) (lv2 := [(7, .int r4), (6, .int (sf_94 x2)), (0, .ref 42), (1, .int x1), (2, .int x2), (3, .long x3), (5, .int x5)]) (st2 := [.int x1, .ref 45]) (h2 := (sh_rep m14.T m14.I m14.J)) rfl rfl rfl ?_
        refine sh_w (i := (.iload 7)) (len := 2) (pc2 := 44) (lv2 := [(7, .int r4), (6, .int (sf_94 x2)), (0, .ref 42), (1, .int x1), (2, .int x2), (3, .long x3), (5, .int x5)]) (st2 := [.int r4, .int x1, .ref 45]) (h2 := (sh_rep m14.T m14.I m14.J)) rfl rfl rfl ?_
        refine sh_w (i := (.iload_n 2)) (len := 1) (pc2 := 45) (lv2 := [(7, .int r4), (6, .int (sf_94 x2)), (0, .ref 42), (1, .int x1), (2, .int x2), (3, .long x3), (5, .int x5)]) (st2 := [.int x2, .int r4, .int x1, .ref 45]) (h2 := (sh_rep m14.T m14.I m14.J)) rfl rfl rfl ?_
        exact kk
      refine sh_Lk_cS (r := (some (.int (sf_96 x2)))) (st2 := [.int (sf_96 x2), .int r4, .int x1, .ref 45]) (pc2 := 48) (k2 := 96) (as := [.int x2]) (rest := [.int r4, .int x1, .ref 45]) rfl rfl (by decide) (Nat.le_of_ble_eq_true rfl) rfl rfl ⟨Nat.le_of_ble_eq_true rfl, Nat.le_of_ble_eq_true rfl⟩ (sl_96 (m := m14) rfl ⟨rfl, rfl⟩) rfl rfl (Nat.le_of_ble_eq_true rfl) (Nat.le_of_ble_eq_true rfl) ?_
      obtain ⟨r6, m16, e6, e⟩ := sh_bn_e e
      refine sh_Lk_cV (r := none) (st2 := []) (pc2 := 51) (k2 := 137) (a := 44) (as := [.ref 45, .int x1, .int r4, .int (sf_96 x2)]) (rest := []) rfl rfl rfl (fun hT => (sh_s44 hT.st)) rfl rfl ⟨Nat.le_of_ble_eq_true rfl, Nat.le_of_ble_eq_true rfl⟩ (sl_137 e6 ⟨rfl, rfl⟩) rfl rfl (Nat.le_of_ble_eq_true rfl) (Nat.le_of_ble_eq_true rfl) ?_
      refine sh_Lk_lift (T := m16.T) (I := m16.I) (J := m16.J) (s := m16.s) (pc2 := 67) (lv2 := [(7, .int r4), (6, .int (sf_94 x2)), (0, .ref 42), (1, .int x1), (2, .int x2), (3, .long x3), (5, .int x5)]) (st2 := [.int (sf_94 x2), .int (r4 + ((Int64.toInt32 x3) * (sf_94 x2))), .int x5, .ref 45]) (I2 := m16.I) (J2 := m16.J) (fun hT v kk => ?_) ?_
      · refine sh_w (i := (.aload_n 0)) (len := 1) (pc2 := 52) (lv2 := [(7, .int r4), (6, .int (sf_94 x2)), (0, .ref 42), (1, .int x1), (2, .int x2), (3, .long x3), (5, .int x5)]) (st2 := [.ref 42]) (h2 := (sh_rep m16.T m16.I m16.J)) rfl rfl rfl ?_
        refine sh_gR1 (len := 3) (x := .ref 45) (pc2 := 55) rfl rfl (sh_s41 hT.st) rfl rfl ?_
        refine sh_w (i := (.iload 5)) (len := 2) (pc2 := 57) (lv2 := [(7, .int r4), (6, .int (sf_94 x2)), (0, .ref 42), (1, .int x1), (2, .int x2), (3, .long x3), (5, .int x5)]) (st2 := [.int x5, .ref 45]) (h2 := (sh_rep m16.T m16.I m16.J)) rfl rfl rfl ?_
        refine sh_w (i := (.iload 7)) (len := 2) (pc2 := 59) (lv2 := [(7, .int r4), (6, .int (sf_94 x2)), (0, .ref 42), (1, .int x1), (2, .int x2), (3, .long x3), (5, .int x5)]) (st2 := [.int r4, .int x5, .ref 45]) (h2 := (sh_rep m16.T m16.I m16.J)) rfl rfl rfl ?_
        refine sh_w (i := (.lload_n 3)) (len := 1) (pc2 := 60) (lv2 := [(7, .int r4), (6, .int (sf_94 x2)), (0, .ref 42), (1, .int x1), (2, .int x2), (3, .long x3), (5, .int x5)]) (st2 := [.long x3, .int r4, .int x5, .ref 45]) (h2 := (sh_rep m16.T m16.I m16.J)) rfl rfl rfl ?_
        refine sh_w (i := .l2i) (len := 1) (pc2 := 61) (lv2 := [(7, .int r4), (6, .int (sf_94 x2)), (0, .ref 42), (1, .int x1), (2, .int x2), (3, .long x3), (5, .int x5)]) (st2 := [.int (Int64.toInt32 x3), .int r4, .int x5, .ref 45]) (h2 := (sh_rep m16.T m16.I m16.J)) rfl rfl rfl ?_
        refine sh_w (i := (.iload 6)) (len := 2) (pc2 := 63) (lv2 := [(7, .int r4), (6, .int (sf_94 x2)), (0, .ref 42), (1, .int x1), (2, .int x2), (3, .long x3), (5, .int x5)]) (st2 := [.int (sf_94 x2), .int (Int64.toInt32 x3), .int r4, .int x5, .ref 45]) (h2 := (sh_rep m16.T m16.I m16.J)) rfl rfl rfl ?_
        refine sh_w (i := .imul) (len := 1) (pc2 := 64) (lv2 := [(7, .int r4), (6, .int (sf_94 x2)), (0, .ref 42), (1, .int x1), (2, .int x2), (3, .long x3), (5, .int x5)]) (st2 := [.int ((Int64.toInt32 x3) * (sf_94 x2)), .int r4, .int x5, .ref 45]) (h2 := (sh_rep m16.T m16.I m16.J)) rfl rfl rfl ?_
        refine sh_w (i := .iadd) (len := 1) (pc2 := 65) (lv2 := [(7, .int r4), (6, .int (sf_94 x2)), (0, .ref 42), (1, .int x1), (2, .int x2), (3, .long x3), (5, .int x5)]) (st2 := [.int (r4 + ((Int64.toInt32 x3) * (sf_94 x2))), .int x5, .ref 45]) (h2 := (sh_rep m16.T m16.I m16.J)) rfl rfl rfl ?_
        refine sh_w (i := (.iload 6)) (len := 2) (pc2 := 67) (lv2 := [(7, .int r4), (6, .int (sf_94 x2)), (0, .ref 42), (1, .int x1), (2, .int x2), (3, .long x3), (5, .int x5)]) (st2 := [.int (sf_94 x2), .int (r4 + ((Int64.toInt32 x3) * (sf_94 x2))), .int x5, .ref 45]) (h2 := (sh_rep m16.T m16.I m16.J)) rfl rfl rfl ?_
        exact kk
      obtain ⟨r7, m17, e7, e⟩ := sh_bn_e e
      refine sh_Lk_cV (r := none) (st2 := []) (pc2 := 70) (k2 := 137) (a := 44) (as := [.ref 45, .int x5, .int (r4 + ((Int64.toInt32 x3) * (sf_94 x2))), .int (sf_94 x2)]) (rest := []) rfl rfl rfl (fun hT => (sh_s44 hT.st)) rfl rfl ⟨Nat.le_of_ble_eq_true rfl, Nat.le_of_ble_eq_true rfl⟩ (sl_137 e7 ⟨rfl, rfl⟩) rfl rfl (Nat.le_of_ble_eq_true rfl) (Nat.le_of_ble_eq_true rfl) ?_
      refine sh_Lk_lift (T := m17.T) (I := m17.I) (J := m17.J) (s := m17.s) (pc2 := 72) (lv2 := [(7, .int r4), (6, .int (sf_94 x2)), (0, .ref 42), (1, .int x1), (2, .int x2), (3, .long x3), (5, .int x5)]) (st2 := [.int r4]) (I2 := m17.I) (J2 := m17.J) (fun hT v kk => ?_) ?_
      · refine sh_w (i := (.iload 7)) (len := 2) (pc2 := 72) (lv2 := [(7, .int r4), (6, .int (sf_94 x2)), (0, .ref 42), (1, .int x1), (2, .int x2), (3, .long x3), (5, .int x5)]) (st2 := [.int r4]) (h2 := (sh_rep m17.T m17.I m17.J)) rfl rfl rfl ?_
        exact kk
      obtain rfl := Option.some.inj e
      obtain ⟨rfl, rfl⟩ := tg
      exact sh_Lk_ret (i := .ireturn) rfl rfl rfl (Nat.le_of_ble_eq_true rfl) (Nat.le_of_ble_eq_true rfl)
    · refine sh_Lk_lift (T := m.T) (I := m.I) (J := m.J) (s := m.s) (pc2 := 17) (lv2 := [(0, .ref 42), (1, .int x1), (2, .int x2), (3, .long x3), (5, .int x5)]) (st2 := [.int x1]) (I2 := m.I) (J2 := m.J) (fun hT v kk => ?_) ?_
      · refine sh_j0 (c := .lt) (off := (5)) (pc2 := 16) false rfl (sh_Cltf c) rfl ?_
        refine sh_w (i := (.iload_n 1)) (len := 1) (pc2 := 17) (lv2 := [(0, .ref 42), (1, .int x1), (2, .int x2), (3, .long x3), (5, .int x5)]) (st2 := [.int x1]) (h2 := (sh_rep m.T m.I m.J)) rfl rfl rfl ?_
        exact kk
      obtain rfl := Option.some.inj e
      obtain ⟨rfl, rfl⟩ := tg
      exact sh_Lk_ret (i := .ireturn) rfl rfl rfl (Nat.le_of_ble_eq_true rfl) (Nat.le_of_ble_eq_true rfl)
theorem sl_138 {x0 : Int32} {x1 : Int32} {m m2 : sh_X} {o : Outcome} {z : Int32} (e : sf_138 x0 x1 = z) (tg : (sh_tIc m o m2) z) : sh_Lk 138 0 [(0, .int x0), (1, .int x1)] [] m o m2 9 220 := by
  unfold sf_138 at e
  refine sh_Lk_lift (T := m.T) (I := m.I) (J := m.J) (s := m.s) (pc2 := 1) (lv2 := [(0, .int x0), (1, .int x1)]) (st2 := [.int x0]) (I2 := m.I) (J2 := m.J) (fun hT v kk => ?_) ?_
  · refine sh_w (i := (.iload_n 0)) (len := 1) (pc2 := 1) (lv2 := [(0, .int x0), (1, .int x1)]) (st2 := [.int x0]) (h2 := (sh_rep m.T m.I m.J)) rfl rfl rfl ?_
    exact kk
  refine sh_Lk_cS (r := (some (.int (sf_93 x0)))) (st2 := [.int (sf_93 x0)]) (pc2 := 4) (k2 := 93) (as := [.int x0]) (rest := []) rfl rfl (by decide) (Nat.le_of_ble_eq_true rfl) rfl rfl ⟨Nat.le_of_ble_eq_true rfl, Nat.le_of_ble_eq_true rfl⟩ (sl_93 (m := m) rfl ⟨rfl, rfl⟩) rfl rfl (Nat.le_of_ble_eq_true rfl) (Nat.le_of_ble_eq_true rfl) ?_
  refine sh_Lk_lift (T := m.T) (I := m.I) (J := m.J) (s := m.s) (pc2 := 5) (lv2 := [(0, .int x0), (1, .int x1)]) (st2 := [.int x0, .int (sf_93 x0)]) (I2 := m.I) (J2 := m.J) (fun hT v kk => ?_) ?_
  · refine sh_w (i := (.iload_n 0)) (len := 1) (pc2 := 5) (lv2 := [(0, .int x0), (1, .int x1)]) (st2 := [.int x0, .int (sf_93 x0)]) (h2 := (sh_rep m.T m.I m.J)) rfl rfl rfl ?_
    exact kk
  refine sh_Lk_cS (r := (some (.int (sf_94 x0)))) (st2 := [.int (sf_94 x0), .int (sf_93 x0)]) (pc2 := 8) (k2 := 94) (as := [.int x0]) (rest := [.int (sf_93 x0)]) rfl rfl (by decide) (Nat.le_of_ble_eq_true rfl) rfl rfl ⟨Nat.le_of_ble_eq_true rfl, Nat.le_of_ble_eq_true rfl⟩ (sl_94 (m := m) rfl ⟨rfl, rfl⟩) rfl rfl (Nat.le_of_ble_eq_true rfl) (Nat.le_of_ble_eq_true rfl) ?_
  refine sh_Lk_lift (T := m.T) (I := m.I) (J := m.J) (s := m.s) (pc2 := 9) (lv2 := [(0, .int x0), (1, .int x1)]) (st2 := [.int x1, .int (sf_94 x0), .int (sf_93 x0)]) (I2 := m.I) (J2 := m.J) (fun hT v kk => ?_) ?_
  · refine sh_w (i := (.iload_n 1)) (len := 1) (pc2 := 9) (lv2 := [(0, .int x0), (1, .int x1)]) (st2 := [.int x1, .int (sf_94 x0), .int (sf_93 x0)]) (h2 := (sh_rep m.T m.I m.J)) rfl rfl rfl ?_
    exact kk
  refine sh_Lk_cS (r := (some (.int (sf_94 x1)))) (st2 := [.int (sf_94 x1), .int (sf_94 x0), .int (sf_93 x0)]) (pc2 := 12) (k2 := 94) (as := [.int x1]) (rest := [.int (sf_94 x0), .int (sf_93 x0)]) rfl rfl (by decide) (Nat.le_of_ble_eq_true rfl) rfl rfl ⟨Nat.le_of_ble_eq_true rfl, Nat.le_of_ble_eq_true rfl⟩ (sl_94 (m := m) rfl ⟨rfl, rfl⟩) rfl rfl (Nat.le_of_ble_eq_true rfl) (Nat.le_of_ble_eq_true rfl) ?_
  refine sh_Lk_lift (T := m.T) (I := m.I) (J := m.J) (s := m.s) (pc2 := 14) (lv2 := [(0, .int x0), (1, .int x1)]) (st2 := [.int ((sf_93 x0) * ((sf_94 x0) + (sf_94 x1)))]) (I2 := m.I) (J2 := m.J) (fun hT v kk => ?_) ?_
  · refine sh_w (i := .iadd) (len := 1) (pc2 := 13) (lv2 := [(0, .int x0), (1, .int x1)]) (st2 := [.int ((sf_94 x0) + (sf_94 x1)), .int (sf_93 x0)]) (h2 := (sh_rep m.T m.I m.J)) rfl rfl rfl ?_
    refine sh_w (i := .imul) (len := 1) (pc2 := 14) (lv2 := [(0, .int x0), (1, .int x1)]) (st2 := [.int ((sf_93 x0) * ((sf_94 x0) + (sf_94 x1)))]) (h2 := (sh_rep m.T m.I m.J)) rfl rfl rfl ?_
    exact kk
  obtain rfl := e
  obtain ⟨rfl, rfl⟩ := tg
  exact sh_Lk_ret (i := .ireturn) rfl rfl rfl (Nat.le_of_ble_eq_true rfl) (Nat.le_of_ble_eq_true rfl)
theorem sl_141 {x1 : Int32} {m m2 : sh_X} {o : Outcome} {z : (Int32 × sh_X)} (e : sf_141 x1 m = some z) (tg : (sh_tI o m2) z) : sh_Lk 141 0 [(0, .ref 10), (1, .int x1)] [] m o m2 12 288 := by
  unfold sf_141 at e
  refine sh_Lk_lift (T := m.T) (I := m.I) (J := m.J) (s := m.s) (pc2 := 3) (lv2 := [(0, .ref 10), (1, .int x1)]) (st2 := [.int 1, .int x1, .ref 10]) (I2 := m.I) (J2 := m.J) (fun hT v kk => ?_) ?_
  · refine sh_w (i := (.aload_n 0)) (len := 1) (pc2 := 1) (lv2 := [(0, .ref 10), (1, .int x1)]) (st2 := [.ref 10]) (h2 := (sh_rep m.T m.I m.J)) rfl rfl rfl ?_
    refine sh_w (i := (.iload_n 1)) (len := 1) (pc2 := 2) (lv2 := [(0, .ref 10), (1, .int x1)]) (st2 := [.int x1, .ref 10]) (h2 := (sh_rep m.T m.I m.J)) rfl rfl rfl ?_
    refine sh_w (i := (.iconst 1)) (len := 1) (pc2 := 3) (lv2 := [(0, .ref 10), (1, .int x1)]) (st2 := [.int 1, .int x1, .ref 10]) (h2 := (sh_rep m.T m.I m.J)) rfl rfl rfl ?_
    exact kk
  obtain ⟨r1, m11, e1, e⟩ := sh_bn_e e
  refine sh_Lk_cV (r := (some (.int r1))) (st2 := [.int r1]) (pc2 := 6) (k2 := 130) (a := 9) (as := [.ref 10, .int x1, .int 1]) (rest := []) rfl rfl rfl (fun hT => hT.t9) rfl rfl ⟨Nat.le_of_ble_eq_true rfl, Nat.le_of_ble_eq_true rfl⟩ (sl_130 e1 ⟨rfl, rfl⟩) rfl rfl (Nat.le_of_ble_eq_true rfl) (Nat.le_of_ble_eq_true rfl) ?_
  obtain rfl := Option.some.inj e
  obtain ⟨rfl, rfl⟩ := tg
  exact sh_Lk_ret (i := .ireturn) rfl rfl rfl (Nat.le_of_ble_eq_true rfl) (Nat.le_of_ble_eq_true rfl)
theorem sl_140_83 {x1 : Int32} {x2 : Int32} {x3 : Int32} {x5 : Int32} {y1 : Int32} {y2 : Int32} {m m2 : sh_X} {o : Outcome} {z : ((Int32 × Int32 × sh_X) ⊕ (Int32 × sh_X))} (e : sf_140_83 x1 x2 x3 x5 y1 y2 m = some z) (tg : (sh_el (fun q => sh_Lk 140 17 [(0, .ref 45), (1, .int x1), (2, .int x2), (3, .int x3), (4, .int q.1), (5, .int q.2.1)] [] q.2.2 o m2 13 309) (sh_tI o m2)) z) : sh_Lk 140 83 [(0, .ref 45), (1, .int x1), (2, .int x2), (3, .int x3), (5, .int x5)] [.int y2, .int y1, .ref 10] m o m2 13 309 := by
  unfold sf_140_83 at e
  obtain ⟨r1, m11, e1, e⟩ := sh_bn_e e
  refine sh_Lk_cV (r := (some (.int r1))) (st2 := [.int r1]) (pc2 := 86) (k2 := 132) (a := 9) (as := [.ref 10, .int y1, .int y2]) (rest := []) rfl rfl rfl (fun hT => hT.t9) rfl rfl ⟨Nat.le_of_ble_eq_true rfl, Nat.le_of_ble_eq_true rfl⟩ (sl_132 e1 ⟨rfl, rfl⟩) rfl rfl (Nat.le_of_ble_eq_true rfl) (Nat.le_of_ble_eq_true rfl) ?_
  refine sh_Lk_lift (T := m11.T) (I := m11.I) (J := m11.J) (s := m11.s) (pc2 := 17) (lv2 := [(5, .int (x5 + 1)), (4, .int r1), (0, .ref 45), (1, .int x1), (2, .int x2), (3, .int x3)]) (st2 := []) (I2 := m11.I) (J2 := m11.J) (fun hT v kk => ?_) ?_
  · refine sh_w (i := (.istore 4)) (len := 2) (pc2 := 88) (lv2 := [(4, .int r1), (0, .ref 45), (1, .int x1), (2, .int x2), (3, .int x3), (5, .int x5)]) (st2 := []) (h2 := (sh_rep m11.T m11.I m11.J)) rfl rfl rfl ?_
    refine sh_w (i := (.iinc 5 1)) (len := 3) (pc2 := 91) (lv2 := [(5, .int (x5 + 1)), (4, .int r1), (0, .ref 45), (1, .int x1), (2, .int x2), (3, .int x3)]) (st2 := []) (h2 := (sh_rep m11.T m11.I m11.J)) rfl rfl rfl ?_
    refine sh_w (i := (.goto (-74))) (len := 3) (pc2 := 17) (lv2 := [(5, .int (x5 + 1)), (4, .int r1), (0, .ref 45), (1, .int x1), (2, .int x2), (3, .int x3)]) (st2 := []) (h2 := (sh_rep m11.T m11.I m11.J)) rfl rfl rfl ?_
    exact kk
  obtain rfl := Option.some.inj e
  exact sh_Lk_sub (sh_sub_c rfl (sh_sub_c rfl (sh_sub_c rfl (sh_sub_c rfl (sh_sub_c rfl (sh_sub_c rfl (sh_sub_n))))))) tg
theorem sl_140_56 {x1 : Int32} {x2 : Int32} {x3 : Int32} {x4 : Int32} {x5 : Int32} {x6 : Int32} {y0 : Bool} {m m2 : sh_X} {o : Outcome} {z : ((Int32 × Int32 × sh_X) ⊕ (Int32 × sh_X))} (e : sf_140_56 x1 x2 x3 x4 x5 x6 y0 m = some z) (tg : (sh_el (fun q => sh_Lk 140 17 [(0, .ref 45), (1, .int x1), (2, .int x2), (3, .int x3), (4, .int q.1), (5, .int q.2.1)] [] q.2.2 o m2 13 309) (sh_tI o m2)) z) : sh_Lk 140 56 [(0, .ref 45), (1, .int x1), (2, .int x2), (3, .int x3), (4, .int x4), (5, .int x5), (6, .int x6)] [.int (sh_b2 y0)] m o m2 13 309 := by
  unfold sf_140_56 at e
  refine sh_Lk_lift (T := m.T) (I := m.I) (J := m.J) (s := m.s) (pc2 := 66) (lv2 := [(7, .int (sh_b2 y0)), (0, .ref 45), (1, .int x1), (2, .int x2), (3, .int x3), (4, .int x4), (5, .int x5), (6, .int x6)]) (st2 := [.int (sh_b2 y0), .int x4, .ref 10]) (I2 := m.I) (J2 := m.J) (fun hT v kk => ?_) ?_
  · refine sh_w (i := (.istore 7)) (len := 2) (pc2 := 58) (lv2 := [(7, .int (sh_b2 y0)), (0, .ref 45), (1, .int x1), (2, .int x2), (3, .int x3), (4, .int x4), (5, .int x5), (6, .int x6)]) (st2 := []) (h2 := (sh_rep m.T m.I m.J)) rfl rfl rfl ?_
    refine sh_w (i := (.aload_n 0)) (len := 1) (pc2 := 59) (lv2 := [(7, .int (sh_b2 y0)), (0, .ref 45), (1, .int x1), (2, .int x2), (3, .int x3), (4, .int x4), (5, .int x5), (6, .int x6)]) (st2 := [.ref 45]) (h2 := (sh_rep m.T m.I m.J)) rfl rfl rfl ?_
    refine sh_gR1 (len := 3) (x := .ref 10) (pc2 := 62) rfl rfl (sh_s44 hT.st) rfl rfl ?_
    refine sh_w (i := (.iload 4)) (len := 2) (pc2 := 64) (lv2 := [(7, .int (sh_b2 y0)), (0, .ref 45), (1, .int x1), (2, .int x2), (3, .int x3), (4, .int x4), (5, .int x5), (6, .int x6)]) (st2 := [.int x4, .ref 10]) (h2 := (sh_rep m.T m.I m.J)) rfl rfl rfl ?_
    refine sh_w (i := (.iload 7)) (len := 2) (pc2 := 66) (lv2 := [(7, .int (sh_b2 y0)), (0, .ref 45), (1, .int x1), (2, .int x2), (3, .int x3), (4, .int x4), (5, .int x5), (6, .int x6)]) (st2 := [.int (sh_b2 y0), .int x4, .ref 10]) (h2 := (sh_rep m.T m.I m.J)) rfl rfl rfl ?_
    exact kk
  rcases sh_ite e with ⟨c, e⟩ | ⟨c, e⟩
  · refine sh_Lk_lift (T := m.T) (I := m.I) (J := m.J) (s := m.s) (pc2 := 83) (lv2 := [(7, .int (sh_b2 y0)), (0, .ref 45), (1, .int x1), (2, .int x2), (3, .int x3), (4, .int x4), (5, .int x5), (6, .int x6)]) (st2 := [.int x6, .int x4, .ref 10]) (I2 := m.I) (J2 := m.J) (fun hT v kk => ?_) ?_
    · refine sh_j0 (c := .eq) (off := (8)) (pc2 := 69) false rfl (sh_Zeqf c) rfl ?_
      refine sh_w (i := (.iload 6)) (len := 2) (pc2 := 71) (lv2 := [(7, .int (sh_b2 y0)), (0, .ref 45), (1, .int x1), (2, .int x2), (3, .int x3), (4, .int x4), (5, .int x5), (6, .int x6)]) (st2 := [.int x6, .int x4, .ref 10]) (h2 := (sh_rep m.T m.I m.J)) rfl rfl rfl ?_
      refine sh_w (i := (.goto 12)) (len := 3) (pc2 := 83) (lv2 := [(7, .int (sh_b2 y0)), (0, .ref 45), (1, .int x1), (2, .int x2), (3, .int x3), (4, .int x4), (5, .int x5), (6, .int x6)]) (st2 := [.int x6, .int x4, .ref 10]) (h2 := (sh_rep m.T m.I m.J)) rfl rfl rfl ?_
      exact kk
    exact sh_Lk_sub (sh_sub_c rfl (sh_sub_c rfl (sh_sub_c rfl (sh_sub_c rfl (sh_sub_c rfl (sh_sub_n)))))) (sl_140_83 e tg)
  · refine sh_Lk_lift (T := m.T) (I := m.I) (J := m.J) (s := m.s) (pc2 := 80) (lv2 := [(7, .int (sh_b2 y0)), (0, .ref 45), (1, .int x1), (2, .int x2), (3, .int x3), (4, .int x4), (5, .int x5), (6, .int x6)]) (st2 := [.int x6, .ref 10, .int x4, .ref 10]) (I2 := m.I) (J2 := m.J) (fun hT v kk => ?_) ?_
    · refine sh_j0 (c := .eq) (off := (8)) (pc2 := 74) true rfl (sh_Zeqt c) rfl ?_
      refine sh_w (i := (.aload_n 0)) (len := 1) (pc2 := 75) (lv2 := [(7, .int (sh_b2 y0)), (0, .ref 45), (1, .int x1), (2, .int x2), (3, .int x3), (4, .int x4), (5, .int x5), (6, .int x6)]) (st2 := [.ref 45, .int x4, .ref 10]) (h2 := (sh_rep m.T m.I m.J)) rfl rfl rfl ?_
      refine sh_gR1 (len := 3) (x := .ref 10) (pc2 := 78) rfl rfl (sh_s44 hT.st) rfl rfl ?_
      refine sh_w (i := (.iload 6)) (len := 2) (pc2 := 80) (lv2 := [(7, .int (sh_b2 y0)), (0, .ref 45), (1, .int x1), (2, .int x2), (3, .int x3), (4, .int x4), (5, .int x5), (6, .int x6)]) (st2 := [.int x6, .ref 10, .int x4, .ref 10]) (h2 := (sh_rep m.T m.I m.J)) rfl rfl rfl ?_
      exact kk
    obtain ⟨r1, m11, e1, e⟩ := sh_bn_e e
    refine sh_Lk_cV (r := (some (.int r1))) (st2 := [.int r1, .int x4, .ref 10]) (pc2 := 83) (k2 := 141) (a := 9) (as := [.ref 10, .int x6]) (rest := [.int x4, .ref 10]) rfl rfl rfl (fun hT => hT.t9) rfl rfl ⟨Nat.le_of_ble_eq_true rfl, Nat.le_of_ble_eq_true rfl⟩ (sl_141 e1 ⟨rfl, rfl⟩) rfl rfl (Nat.le_of_ble_eq_true rfl) (Nat.le_of_ble_eq_true rfl) ?_
    exact sh_Lk_sub (sh_sub_c rfl (sh_sub_c rfl (sh_sub_c rfl (sh_sub_c rfl (sh_sub_c rfl (sh_sub_n)))))) (sl_140_83 e tg)
theorem sl_140_17s {x1 : Int32} {x2 : Int32} {x3 : Int32} {x4 : Int32} {x5 : Int32} {m m2 : sh_X} {o : Outcome} {z : ((Int32 × Int32 × sh_X) ⊕ (Int32 × sh_X))} (e : sf_140_17s x1 x2 x3 x4 x5 m = some z) (tg : (sh_el (fun q => sh_Lk 140 17 [(0, .ref 45), (1, .int x1), (2, .int x2), (3, .int x3), (4, .int q.1), (5, .int q.2.1)] [] q.2.2 o m2 13 309) (sh_tI o m2)) z) : sh_Lk 140 17 [(0, .ref 45), (1, .int x1), (2, .int x2), (3, .int x3), (4, .int x4), (5, .int x5)] [] m o m2 13 309 := by
  unfold sf_140_17s at e
  refine sh_Lk_lift (T := m.T) (I := m.I) (J := m.J) (s := m.s) (pc2 := 20) (lv2 := [(0, .ref 45), (1, .int x1), (2, .int x2), (3, .int x3), (4, .int x4), (5, .int x5)]) (st2 := [.int x2, .int x5]) (I2 := m.I) (J2 := m.J) (fun hT v kk => ?_) ?_
  · refine sh_w (i := (.iload 5)) (len := 2) (pc2 := 19) (lv2 := [(0, .ref 45), (1, .int x1), (2, .int x2), (3, .int x3), (4, .int x4), (5, .int x5)]) (st2 := [.int x5]) (h2 := (sh_rep m.T m.I m.J)) rfl rfl rfl ?_
    refine sh_w (i := (.iload_n 2)) (len := 1) (pc2 := 20) (lv2 := [(0, .ref 45), (1, .int x1), (2, .int x2), (3, .int x3), (4, .int x4), (5, .int x5)]) (st2 := [.int x2, .int x5]) (h2 := (sh_rep m.T m.I m.J)) rfl rfl rfl ?_
    exact kk
  refine sh_Lk_cS (r := (some (.int (sf_94 x2)))) (st2 := [.int (sf_94 x2), .int x5]) (pc2 := 23) (k2 := 94) (as := [.int x2]) (rest := [.int x5]) rfl rfl (by decide) (Nat.le_of_ble_eq_true rfl) rfl rfl ⟨Nat.le_of_ble_eq_true rfl, Nat.le_of_ble_eq_true rfl⟩ (sl_94 (m := m) rfl ⟨rfl, rfl⟩) rfl rfl (Nat.le_of_ble_eq_true rfl) (Nat.le_of_ble_eq_true rfl) ?_
  rcases sh_ite e with ⟨c, e⟩ | ⟨c, e⟩
  · refine sh_Lk_lift (T := m.T) (I := m.I) (J := m.J) (s := m.s) (pc2 := 31) (lv2 := [(0, .ref 45), (1, .int x1), (2, .int x2), (3, .int x3), (4, .int x4), (5, .int x5)]) (st2 := [.int (x1 + x5), .ref 45]) (I2 := m.I) (J2 := m.J) (fun hT v kk => ?_) ?_
    · refine sh_jc (c := .ge) (off := (71)) (pc2 := 26) false rfl (sh_Bgef c) rfl ?_
      refine sh_w (i := (.aload_n 0)) (len := 1) (pc2 := 27) (lv2 := [(0, .ref 45), (1, .int x1), (2, .int x2), (3, .int x3), (4, .int x4), (5, .int x5)]) (st2 := [.ref 45]) (h2 := (sh_rep m.T m.I m.J)) rfl rfl rfl ?_
      refine sh_w (i := (.iload_n 1)) (len := 1) (pc2 := 28) (lv2 := [(0, .ref 45), (1, .int x1), (2, .int x2), (3, .int x3), (4, .int x4), (5, .int x5)]) (st2 := [.int x1, .ref 45]) (h2 := (sh_rep m.T m.I m.J)) rfl rfl rfl ?_
      refine sh_w (i := (.iload 5)) (len := 2) (pc2 := 30) (lv2 := [(0, .ref 45), (1, .int x1), (2, .int x2), (3, .int x3), (4, .int x4), (5, .int x5)]) (st2 := [.int x5, .int x1, .ref 45]) (h2 := (sh_rep m.T m.I m.J)) rfl rfl rfl ?_
      refine sh_w (i := .iadd) (len := 1) (pc2 := 31) (lv2 := [(0, .ref 45), (1, .int x1), (2, .int x2), (3, .int x3), (4, .int x4), (5, .int x5)]) (st2 := [.int (x1 + x5), .ref 45]) (h2 := (sh_rep m.T m.I m.J)) rfl rfl rfl ?_
      exact kk
    obtain ⟨r2, e2, e⟩ := sh_bc_e e
    refine sh_Lk_cV (r := (some (.int r2))) (st2 := [.int r2]) (pc2 := 34) (k2 := 103) (a := 44) (as := [.ref 45, .int (x1 + x5)]) (rest := []) rfl rfl rfl (fun hT => (sh_s44 hT.st)) rfl rfl ⟨Nat.le_of_ble_eq_true rfl, Nat.le_of_ble_eq_true rfl⟩ (sl_103 e2 ⟨rfl, rfl⟩) rfl rfl (Nat.le_of_ble_eq_true rfl) (Nat.le_of_ble_eq_true rfl) ?_
    refine sh_Lk_lift (T := m.T) (I := m.I) (J := m.J) (s := m.s) (pc2 := 41) (lv2 := [(6, .int r2), (0, .ref 45), (1, .int x1), (2, .int x2), (3, .int x3), (4, .int x4), (5, .int x5)]) (st2 := [.int 31, .int x5, .int x3]) (I2 := m.I) (J2 := m.J) (fun hT v kk => ?_) ?_
    · refine sh_w (i := (.istore 6)) (len := 2) (pc2 := 36) (lv2 := [(6, .int r2), (0, .ref 45), (1, .int x1), (2, .int x2), (3, .int x3), (4, .int x4), (5, .int x5)]) (st2 := []) (h2 := (sh_rep m.T m.I m.J)) rfl rfl rfl ?_
      refine sh_w (i := (.iload_n 3)) (len := 1) (pc2 := 37) (lv2 := [(6, .int r2), (0, .ref 45), (1, .int x1), (2, .int x2), (3, .int x3), (4, .int x4), (5, .int x5)]) (st2 := [.int x3]) (h2 := (sh_rep m.T m.I m.J)) rfl rfl rfl ?_
      refine sh_w (i := (.iload 5)) (len := 2) (pc2 := 39) (lv2 := [(6, .int r2), (0, .ref 45), (1, .int x1), (2, .int x2), (3, .int x3), (4, .int x4), (5, .int x5)]) (st2 := [.int x5, .int x3]) (h2 := (sh_rep m.T m.I m.J)) rfl rfl rfl ?_
      refine sh_w (i := (.bipush 31)) (len := 2) (pc2 := 41) (lv2 := [(6, .int r2), (0, .ref 45), (1, .int x1), (2, .int x2), (3, .int x3), (4, .int x4), (5, .int x5)]) (st2 := [.int 31, .int x5, .int x3]) (h2 := (sh_rep m.T m.I m.J)) rfl rfl rfl ?_
      exact kk
    refine sh_Lk_cS (r := (some (.int (sf_21 x5 31)))) (st2 := [.int (sf_21 x5 31), .int x3]) (pc2 := 44) (k2 := 21) (as := [.int x5, .int 31]) (rest := [.int x3]) rfl rfl (by decide) (Nat.le_of_ble_eq_true rfl) rfl rfl ⟨Nat.le_of_ble_eq_true rfl, Nat.le_of_ble_eq_true rfl⟩ (sl_21 (m := m) rfl ⟨rfl, rfl⟩) rfl rfl (Nat.le_of_ble_eq_true rfl) (Nat.le_of_ble_eq_true rfl) ?_
    refine sh_Lk_lift (T := m.T) (I := m.I) (J := m.J) (s := m.s) (pc2 := 48) (lv2 := [(6, .int r2), (0, .ref 45), (1, .int x1), (2, .int x2), (3, .int x3), (4, .int x4), (5, .int x5)]) (st2 := [.int 1, .int ((x3 >>> ((sf_21 x5 31) &&& 31)) &&& 1)]) (I2 := m.I) (J2 := m.J) (fun hT v kk => ?_) ?_
    · refine sh_w (i := .ishr) (len := 1) (pc2 := 45) (lv2 := [(6, .int r2), (0, .ref 45), (1, .int x1), (2, .int x2), (3, .int x3), (4, .int x4), (5, .int x5)]) (st2 := [.int (x3 >>> ((sf_21 x5 31) &&& 31))]) (h2 := (sh_rep m.T m.I m.J)) rfl rfl rfl ?_
      refine sh_w (i := (.iconst 1)) (len := 1) (pc2 := 46) (lv2 := [(6, .int r2), (0, .ref 45), (1, .int x1), (2, .int x2), (3, .int x3), (4, .int x4), (5, .int x5)]) (st2 := [.int 1, .int (x3 >>> ((sf_21 x5 31) &&& 31))]) (h2 := (sh_rep m.T m.I m.J)) rfl rfl rfl ?_
      refine sh_w (i := .iand) (len := 1) (pc2 := 47) (lv2 := [(6, .int r2), (0, .ref 45), (1, .int x1), (2, .int x2), (3, .int x3), (4, .int x4), (5, .int x5)]) (st2 := [.int ((x3 >>> ((sf_21 x5 31) &&& 31)) &&& 1)]) (h2 := (sh_rep m.T m.I m.J)) rfl rfl rfl ?_
      refine sh_w (i := (.iconst 1)) (len := 1) (pc2 := 48) (lv2 := [(6, .int r2), (0, .ref 45), (1, .int x1), (2, .int x2), (3, .int x3), (4, .int x4), (5, .int x5)]) (st2 := [.int 1, .int ((x3 >>> ((sf_21 x5 31) &&& 31)) &&& 1)]) (h2 := (sh_rep m.T m.I m.J)) rfl rfl rfl ?_
      exact kk
    rcases sh_ite e with ⟨c, e⟩ | ⟨c, e⟩
    · refine sh_Lk_lift (T := m.T) (I := m.I) (J := m.J) (s := m.s) (pc2 := 56) (lv2 := [(6, .int r2), (0, .ref 45), (1, .int x1), (2, .int x2), (3, .int x3), (4, .int x4), (5, .int x5)]) (st2 := [.int 1]) (I2 := m.I) (J2 := m.J) (fun hT v kk => ?_) ?_
      · refine sh_jc (c := .ne) (off := (7)) (pc2 := 51) false rfl (sh_Bnef c) rfl ?_
        refine sh_w (i := (.iconst 1)) (len := 1) (pc2 := 52) (lv2 := [(6, .int r2), (0, .ref 45), (1, .int x1), (2, .int x2), (3, .int x3), (4, .int x4), (5, .int x5)]) (st2 := [.int 1]) (h2 := (sh_rep m.T m.I m.J)) rfl rfl rfl ?_
        refine sh_w (i := (.goto 4)) (len := 3) (pc2 := 56) (lv2 := [(6, .int r2), (0, .ref 45), (1, .int x1), (2, .int x2), (3, .int x3), (4, .int x4), (5, .int x5)]) (st2 := [.int 1]) (h2 := (sh_rep m.T m.I m.J)) rfl rfl rfl ?_
        exact kk
      exact sh_Lk_sub (sh_sub_c rfl (sh_sub_c rfl (sh_sub_c rfl (sh_sub_c rfl (sh_sub_c rfl (sh_sub_c rfl (sh_sub_c rfl (sh_sub_n)))))))) (sl_140_56 e tg)
    · refine sh_Lk_lift (T := m.T) (I := m.I) (J := m.J) (s := m.s) (pc2 := 56) (lv2 := [(6, .int r2), (0, .ref 45), (1, .int x1), (2, .int x2), (3, .int x3), (4, .int x4), (5, .int x5)]) (st2 := [.int 0]) (I2 := m.I) (J2 := m.J) (fun hT v kk => ?_) ?_
      · refine sh_jc (c := .ne) (off := (7)) (pc2 := 55) true rfl (sh_Bnet c) rfl ?_
        refine sh_w (i := (.iconst 0)) (len := 1) (pc2 := 56) (lv2 := [(6, .int r2), (0, .ref 45), (1, .int x1), (2, .int x2), (3, .int x3), (4, .int x4), (5, .int x5)]) (st2 := [.int 0]) (h2 := (sh_rep m.T m.I m.J)) rfl rfl rfl ?_
        exact kk
      exact sh_Lk_sub (sh_sub_c rfl (sh_sub_c rfl (sh_sub_c rfl (sh_sub_c rfl (sh_sub_c rfl (sh_sub_c rfl (sh_sub_c rfl (sh_sub_n)))))))) (sl_140_56 e tg)
  · refine sh_Lk_lift (T := m.T) (I := m.I) (J := m.J) (s := m.s) (pc2 := 96) (lv2 := [(0, .ref 45), (1, .int x1), (2, .int x2), (3, .int x3), (4, .int x4), (5, .int x5)]) (st2 := [.int x4]) (I2 := m.I) (J2 := m.J) (fun hT v kk => ?_) ?_
    · refine sh_jc (c := .ge) (off := (71)) (pc2 := 94) true rfl (sh_Bget c) rfl ?_
      refine sh_w (i := (.iload 4)) (len := 2) (pc2 := 96) (lv2 := [(0, .ref 45), (1, .int x1), (2, .int x2), (3, .int x3), (4, .int x4), (5, .int x5)]) (st2 := [.int x4]) (h2 := (sh_rep m.T m.I m.J)) rfl rfl rfl ?_
      exact kk
    obtain rfl := Option.some.inj e
    obtain ⟨rfl, rfl⟩ := tg
    exact sh_Lk_ret (i := .ireturn) rfl rfl rfl (Nat.le_of_ble_eq_true rfl) (Nat.le_of_ble_eq_true rfl)
theorem sl_140_17 {x1 : Int32} {x2 : Int32} {x3 : Int32} {x4 : Int32} {x5 : Int32} {m m2 : sh_X} {o : Outcome} {z : (Int32 × sh_X)} (e : sf_140_17 x1 x2 x3 x4 x5 m = some z) (tg : (sh_tI o m2) z) : sh_Lk 140 17 [(0, .ref 45), (1, .int x1), (2, .int x2), (3, .int x3), (4, .int x4), (5, .int x5)] [] m o m2 13 309 := by
  unfold sf_140_17 at e
  exact sh_while_lk (P := fun q => sh_Lk 140 17 [(0, .ref 45), (1, .int x1), (2, .int x2), (3, .int x3), (4, .int q.1), (5, .int q.2.1)] [] q.2.2 o m2 13 309) (Q := (sh_tI o m2)) (fun q z e tg => sl_140_17s (x1 := x1) (x2 := x2) (x3 := x3) (x4 := q.1) (x5 := q.2.1) (m := q.2.2) e tg) (s := (x4, x5, m)) e tg
theorem sl_140 {x1 : Int32} {x2 : Int32} {x3 : Int32} {m m2 : sh_X} {o : Outcome} {z : (Int32 × sh_X)} (e : sf_140 x1 x2 x3 m = some z) (tg : (sh_tI o m2) z) : sh_Lk 140 0 [(0, .ref 45), (1, .int x1), (2, .int x2), (3, .int x3)] [] m o m2 13 309 := by
  unfold sf_140 at e
  refine sh_Lk_lift (T := m.T) (I := m.I) (J := m.J) (s := m.s) (pc2 := 3) (lv2 := [(0, .ref 45), (1, .int x1), (2, .int x2), (3, .int x3)]) (st2 := [.long (Int32.toInt64 x3), .int x2]) (I2 := m.I) (J2 := m.J) (fun hT v kk => ?_) ?_
  · refine sh_w (i := (.iload_n 2)) (len := 1) (pc2 := 1) (lv2 := [(0, .ref 45), (1, .int x1), (2, .int x2), (3, .int x3)]) (st2 := [.int x2]) (h2 := (sh_rep m.T m.I m.J)) rfl rfl rfl ?_
    refine sh_w (i := (.iload_n 3)) (len := 1) (pc2 := 2) (lv2 := [(0, .ref 45), (1, .int x1), (2, .int x2), (3, .int x3)]) (st2 := [.int x3, .int x2]) (h2 := (sh_rep m.T m.I m.J)) rfl rfl rfl ?_
    refine sh_w (i := .i2l) (len := 1) (pc2 := 3) (lv2 := [(0, .ref 45), (1, .int x1), (2, .int x2), (3, .int x3)]) (st2 := [.long (Int32.toInt64 x3), .int x2]) (h2 := (sh_rep m.T m.I m.J)) rfl rfl rfl ?_
    exact kk
  refine sh_Lk_cS (r := (some (.int (sh_b2 (sf_112 x2 (Int32.toInt64 x3)))))) (st2 := [.int (sh_b2 (sf_112 x2 (Int32.toInt64 x3)))]) (pc2 := 6) (k2 := 112) (as := [.int x2, .long (Int32.toInt64 x3)]) (rest := []) rfl rfl (by decide) (Nat.le_of_ble_eq_true rfl) rfl rfl ⟨Nat.le_of_ble_eq_true rfl, Nat.le_of_ble_eq_true rfl⟩ (sl_112 (m := m) rfl ⟨rfl, rfl⟩) rfl rfl (Nat.le_of_ble_eq_true rfl) (Nat.le_of_ble_eq_true rfl) ?_
  rcases sh_ite e with ⟨c, e⟩ | ⟨c, e⟩
  · refine sh_Lk_lift (T := m.T) (I := m.I) (J := m.J) (s := m.s) (pc2 := 17) (lv2 := [(5, .int 0), (4, .int 1), (0, .ref 45), (1, .int x1), (2, .int x2), (3, .int x3)]) (st2 := []) (I2 := m.I) (J2 := m.J) (fun hT v kk => ?_) ?_
    · refine sh_j0 (c := .ne) (off := (5)) (pc2 := 11) true rfl (sh_Znet c) rfl ?_
      refine sh_w (i := (.iconst 1)) (len := 1) (pc2 := 12) (lv2 := [(0, .ref 45), (1, .int x1), (2, .int x2), (3, .int x3)]) (st2 := [.int 1]) (h2 := (sh_rep m.T m.I m.J)) rfl rfl rfl ?_
      refine sh_w (i := (.istore 4)) (len := 2) (pc2 := 14) (lv2 := [(4, .int 1), (0, .ref 45), (1, .int x1), (2, .int x2), (3, .int x3)]) (st2 := []) (h2 := (sh_rep m.T m.I m.J)) rfl rfl rfl ?_
      refine sh_w (i := (.iconst 0)) (len := 1) (pc2 := 15) (lv2 := [(4, .int 1), (0, .ref 45), (1, .int x1), (2, .int x2), (3, .int x3)]) (st2 := [.int 0]) (h2 := (sh_rep m.T m.I m.J)) rfl rfl rfl ?_
      refine sh_w (i := (.istore 5)) (len := 2) (pc2 := 17) (lv2 := [(5, .int 0), (4, .int 1), (0, .ref 45), (1, .int x1), (2, .int x2), (3, .int x3)]) (st2 := []) (h2 := (sh_rep m.T m.I m.J)) rfl rfl rfl ?_
      exact kk
    exact sh_Lk_sub (sh_sub_c rfl (sh_sub_c rfl (sh_sub_c rfl (sh_sub_c rfl (sh_sub_c rfl (sh_sub_c rfl (sh_sub_n))))))) (sl_140_17 e tg)
  · refine sh_Lk_lift (T := m.T) (I := m.I) (J := m.J) (s := m.s) (pc2 := 10) (lv2 := [(0, .ref 45), (1, .int x1), (2, .int x2), (3, .int x3)]) (st2 := [.int 0]) (I2 := m.I) (J2 := m.J) (fun hT v kk => ?_) ?_
    · refine sh_j0 (c := .ne) (off := (5)) (pc2 := 9) false rfl (sh_Znef c) rfl ?_
      refine sh_w (i := (.iconst 0)) (len := 1) (pc2 := 10) (lv2 := [(0, .ref 45), (1, .int x1), (2, .int x2), (3, .int x3)]) (st2 := [.int 0]) (h2 := (sh_rep m.T m.I m.J)) rfl rfl rfl ?_
      exact kk
    obtain rfl := Option.some.inj e
    obtain ⟨rfl, rfl⟩ := tg
    exact sh_Lk_ret (i := .ireturn) rfl rfl rfl (Nat.le_of_ble_eq_true rfl) (Nat.le_of_ble_eq_true rfl)
theorem sl_139_42s {x1 : Int32} {x2 : Int32} {x3 : Int32} {x4 : Int32} {x5 : Int32} {x6 : Int32} {x7 : Int32} {x8 : Int32} {x9 : Int32} {x10 : Int32} {m m2 : sh_X} {o : Outcome} {z : ((Int32 × sh_X) ⊕ ((Int32 × sh_X) ⊕ (Int32 × sh_X)))} (e : sf_139_42s x1 x2 x3 x4 x5 x6 x7 x8 x9 x10 m = some z) (tg : (sh_el (fun q => sh_Lk 139 42 [(0, .ref 45), (1, .int x1), (2, .int x2), (3, .int x3), (4, .int x4), (5, .int x5), (6, .int x6), (7, .int x7), (8, .int x8), (9, .int x9), (10, .int q.1)] [] q.2 o m2 14 336) (sh_el (fun q => sh_Lk 139 19 [(0, .ref 45), (1, .int x1), (2, .int x2), (3, .int x3), (4, .int x4), (5, .int x5), (6, .int x6), (7, .int x7), (8, .int q.1)] [] q.2 o m2 14 336) (sh_tI o m2))) z) : sh_Lk 139 42 [(0, .ref 45), (1, .int x1), (2, .int x2), (3, .int x3), (4, .int x4), (5, .int x5), (6, .int x6), (7, .int x7), (8, .int x8), (9, .int x9), (10, .int x10)] [] m o m2 14 336 := by
  unfold sf_139_42s at e
  refine sh_Lk_lift (T := m.T) (I := m.I) (J := m.J) (s := m.s) (pc2 := 46) (lv2 := [(0, .ref 45), (1, .int x1), (2, .int x2), (3, .int x3), (4, .int x4), (5, .int x5), (6, .int x6), (7, .int x7), (8, .int x8), (9, .int x9), (10, .int x10)]) (st2 := [.int x6, .int x10]) (I2 := m.I) (J2 := m.J) (fun hT v kk => ?_) ?_
  · refine sh_w (i := (.iload 10)) (len := 2) (pc2 := 44) (lv2 := [(0, .ref 45), (1, .int x1), (2, .int x2), (3, .int x3), (4, .int x4), (5, .int x5), (6, .int x6), (7, .int x7), (8, .int x8), (9, .int x9), (10, .int x10)]) (st2 := [.int x10]) (h2 := (sh_rep m.T m.I m.J)) rfl rfl rfl ?_
    refine sh_w (i := (.iload 6)) (len := 2) (pc2 := 46) (lv2 := [(0, .ref 45), (1, .int x1), (2, .int x2), (3, .int x3), (4, .int x4), (5, .int x5), (6, .int x6), (7, .int x7), (8, .int x8), (9, .int x9), (10, .int x10)]) (st2 := [.int x6, .int x10]) (h2 := (sh_rep m.T m.I m.J)) rfl rfl rfl ?_
    exact kk
  rcases sh_ite e with ⟨c, e⟩ | ⟨c, e⟩
  · refine sh_Lk_lift (T := m.T) (I := m.I) (J := m.J) (s := m.s) (pc2 := 77) (lv2 := [(11, .int ((x8 * x6) + x10)), (0, .ref 45), (1, .int x1), (2, .int x2), (3, .int x3), (4, .int x4), (5, .int x5), (6, .int x6), (7, .int x7), (8, .int x8), (9, .int x9), (10, .int x10)]) (st2 := [.int (x5 + x10), .ref 45, .int x9, .ref 10, .int (x7 + ((x8 * x6) + x10)), .ref 45]) (I2 := m.I) (J2 := m.J) (fun hT v kk => ?_) ?_
    · refine sh_jc (c := .ge) (off := (54)) (pc2 := 49) false rfl (sh_Bgef c) rfl ?_
      refine sh_w (i := (.iload 8)) (len := 2) (pc2 := 51) (lv2 := [(0, .ref 45), (1, .int x1), (2, .int x2), (3, .int x3), (4, .int x4), (5, .int x5), (6, .int x6), (7, .int x7), (8, .int x8), (9, .int x9), (10, .int x10)]) (st2 := [.int x8]) (h2 := (sh_rep m.T m.I m.J)) rfl rfl rfl ?_
      refine sh_w (i := (.iload 6)) (len := 2) (pc2 := 53) (lv2 := [(0, .ref 45), (1, .int x1), (2, .int x2), (3, .int x3), (4, .int x4), (5, .int x5), (6, .int x6), (7, .int x7), (8, .int x8), (9, .int x9), (10, .int x10)]) (st2 := [.int x6, .int x8]) (h2 := (sh_rep m.T m.I m.J)) rfl rfl rfl ?_
      refine sh_w (i := .imul) (len := 1) (pc2 := 54) (lv2 := [(0, .ref 45), (1, .int x1), (2, .int x2), (3, .int x3), (4, .int x4), (5, .int x5), (6, .int x6), (7, .int x7), (8, .int x8), (9, .int x9), (10, .int x10)]) (st2 := [.int (x8 * x6)]) (h2 := (sh_rep m.T m.I m.J)) rfl rfl rfl ?_
      refine sh_w (i := (.iload 10)) (len := 2) (pc2 := 56) (lv2 := [(0, .ref 45), (1, .int x1), (2, .int x2), (3, .int x3), (4, .int x4), (5, .int x5), (6, .int x6), (7, .int x7), (8, .int x8), (9, .int x9), (10, .int x10)]) (st2 := [.int x10, .int (x8 * x6)]) (h2 := (sh_rep m.T m.I m.J)) rfl rfl rfl ?_
      refine sh_w (i := .iadd) (len := 1) (pc2 := 57) (lv2 := [(0, .ref 45), (1, .int x1), (2, .int x2), (3, .int x3), (4, .int x4), (5, .int x5), (6, .int x6), (7, .int x7), (8, .int x8), (9, .int x9), (10, .int x10)]) (st2 := [.int ((x8 * x6) + x10)]) (h2 := (sh_rep m.T m.I m.J)) rfl rfl rfl ?_
      refine sh_w (i := (.istore 11)) (len := 2) (pc2 := 59) (lv2 := [(11, .int ((x8 * x6) + x10)), (0, .ref 45), (1, .int x1), (2, .int x2), (3, .int x3), (4, .int x4), (5, .int x5), (6, .int x6), (7, .int x7), (8, .int x8), (9, .int x9), (10, .int x10)]) (st2 := []) (h2 := (sh_rep m.T m.I m.J)) rfl rfl rfl ?_
      refine sh_w (i := (.aload_n 0)) (len := 1) (pc2 := 60) (lv2 := [(11, .int ((x8 * x6) + x10)), (0, .ref 45), (1, .int x1), (2, .int x2), (3, .int x3), (4, .int x4), (5, .int x5), (6, .int x6), (7, .int x7), (8, .int x8), (9, .int x9), (10, .int x10)]) (st2 := [.ref 45]) (h2 := (sh_rep m.T m.I m.J)) rfl rfl rfl ?_
      refine sh_w (i := (.iload 7)) (len := 2) (pc2 := 62) (lv2 := [(11, .int ((x8 * x6) + x10)), (0, .ref 45), (1, .int x1), (2, .int x2), (3, .int x3), (4, .int x4), (5, .int x5), (6, .int x6), (7, .int x7), (8, .int x8), (9, .int x9), (10, .int x10)]) (st2 := [.int x7, .ref 45]) (h2 := (sh_rep m.T m.I m.J)) rfl rfl rfl ?_
      refine sh_w (i := (.iload 11)) (len := 2) (pc2 := 64) (lv2 := [(11, .int ((x8 * x6) + x10)), (0, .ref 45), (1, .int x1), (2, .int x2), (3, .int x3), (4, .int x4), (5, .int x5), (6, .int x6), (7, .int x7), (8, .int x8), (9, .int x9), (10, .int x10)]) (st2 := [.int ((x8 * x6) + x10), .int x7, .ref 45]) (h2 := (sh_rep m.T m.I m.J)) rfl rfl rfl ?_
      refine sh_w (i := .iadd) (len := 1) (pc2 := 65) (lv2 := [(11, .int ((x8 * x6) + x10)), (0, .ref 45), (1, .int x1), (2, .int x2), (3, .int x3), (4, .int x4), (5, .int x5), (6, .int x6), (7, .int x7), (8, .int x8), (9, .int x9), (10, .int x10)]) (st2 := [.int (x7 + ((x8 * x6) + x10)), .ref 45]) (h2 := (sh_rep m.T m.I m.J)) rfl rfl rfl ?_
      refine sh_w (i := (.aload_n 0)) (len := 1) (pc2 := 66) (lv2 := [(11, .int ((x8 * x6) + x10)), (0, .ref 45), (1, .int x1), (2, .int x2), (3, .int x3), (4, .int x4), (5, .int x5), (6, .int x6), (7, .int x7), (8, .int x8), (9, .int x9), (10, .int x10)]) (st2 := [.ref 45, .int (x7 + ((x8 * x6) + x10)), .ref 45]) (h2 := (sh_rep m.T m.I m.J)) rfl rfl rfl ?_
      refine sh_gR1 (len := 3) (x := .ref 10) (pc2 := 69) rfl rfl (sh_s44 hT.st) rfl rfl ?_
      refine sh_w (i := (.iload 9)) (len := 2) (pc2 := 71) (lv2 := [(11, .int ((x8 * x6) + x10)), (0, .ref 45), (1, .int x1), (2, .int x2), (3, .int x3), (4, .int x4), (5, .int x5), (6, .int x6), (7, .int x7), (8, .int x8), (9, .int x9), (10, .int x10)]) (st2 := [.int x9, .ref 10, .int (x7 + ((x8 * x6) + x10)), .ref 45]) (h2 := (sh_rep m.T m.I m.J)) rfl rfl rfl ?_
      refine sh_w (i := (.aload_n 0)) (len := 1) (pc2 := 72) (lv2 := [(11, .int ((x8 * x6) + x10)), (0, .ref 45), (1, .int x1), (2, .int x2), (3, .int x3), (4, .int x4), (5, .int x5), (6, .int x6), (7, .int x7), (8, .int x8), (9, .int x9), (10, .int x10)]) (st2 := [.ref 45, .int x9, .ref 10, .int (x7 + ((x8 * x6) + x10)), .ref 45]) (h2 := (sh_rep m.T m.I m.J)) rfl rfl rfl ?_
      refine sh_w (i := (.iload 5)) (len := 2) (pc2 := 74) (lv2 := [(11, .int ((x8 * x6) + x10)), (0, .ref 45), (1, .int x1), (2, .int x2), (3, .int x3), (4, .int x4), (5, .int x5), (6, .int x6), (7, .int x7), (8, .int x8), (9, .int x9), (10, .int x10)]) (st2 := [.int x5, .ref 45, .int x9, .ref 10, .int (x7 + ((x8 * x6) + x10)), .ref 45]) (h2 := (sh_rep m.T m.I m.J)) rfl rfl rfl ?_
      refine sh_w (i := (.iload 10)) (len := 2) (pc2 := 76) (lv2 := [(11, .int ((x8 * x6) + x10)), (0, .ref 45), (1, .int x1), (2, .int x2), (3, .int x3), (4, .int x4), (5, .int x5), (6, .int x6), (7, .int x7), (8, .int x8), (9, .int x9), (10, .int x10)]) (st2 := [.int x10, .int x5, .ref 45, .int x9, .ref 10, .int (x7 + ((x8 * x6) + x10)), .ref 45]) (h2 := (sh_rep m.T m.I m.J)) rfl rfl rfl ?_
      refine sh_w (i := .iadd) (len := 1) (pc2 := 77) (lv2 := [(11, .int ((x8 * x6) + x10)), (0, .ref 45), (1, .int x1), (2, .int x2), (3, .int x3), (4, .int x4), (5, .int x5), (6, .int x6), (7, .int x7), (8, .int x8), (9, .int x9), (10, .int x10)]) (st2 := [.int (x5 + x10), .ref 45, .int x9, .ref 10, .int (x7 + ((x8 * x6) + x10)), .ref 45]) (h2 := (sh_rep m.T m.I m.J)) rfl rfl rfl ?_
      exact kk
    obtain ⟨r1, e1, e⟩ := sh_bc_e e
    refine sh_Lk_cV (r := (some (.int r1))) (st2 := [.int r1, .int x9, .ref 10, .int (x7 + ((x8 * x6) + x10)), .ref 45]) (pc2 := 80) (k2 := 103) (a := 44) (as := [.ref 45, .int (x5 + x10)]) (rest := [.int x9, .ref 10, .int (x7 + ((x8 * x6) + x10)), .ref 45]) rfl rfl rfl (fun hT => (sh_s44 hT.st)) rfl rfl ⟨Nat.le_of_ble_eq_true rfl, Nat.le_of_ble_eq_true rfl⟩ (sl_103 e1 ⟨rfl, rfl⟩) rfl rfl (Nat.le_of_ble_eq_true rfl) (Nat.le_of_ble_eq_true rfl) ?_
    refine sh_Lk_lift (T := m.T) (I := m.I) (J := m.J) (s := m.s) (pc2 := 85) (lv2 := [(11, .int ((x8 * x6) + x10)), (0, .ref 45), (1, .int x1), (2, .int x2), (3, .int x3), (4, .int x4), (5, .int x5), (6, .int x6), (7, .int x7), (8, .int x8), (9, .int x9), (10, .int x10)]) (st2 := [.int (x1 + ((x8 * x6) + x10)), .ref 45, .int r1, .int x9, .ref 10, .int (x7 + ((x8 * x6) + x10)), .ref 45]) (I2 := m.I) (J2 := m.J) (fun hT v kk => ?_) ?_
    · refine sh_w (i := (.aload_n 0)) (len := 1) (pc2 := 81) (lv2 := [(11, .int ((x8 * x6) + x10)), (0, .ref 45), (1, .int x1), (2, .int x2), (3, .int x3), (4, .int x4), (5, .int x5), (6, .int x6), (7, .int x7), (8, .int x8), (9, .int x9), (10, .int x10)]) (st2 := [.ref 45, .int r1, .int x9, .ref 10, .int (x7 + ((x8 * x6) + x10)), .ref 45]) (h2 := (sh_rep m.T m.I m.J)) rfl rfl rfl ?_
      refine sh_w (i := (.iload_n 1)) (len := 1) (pc2 := 82) (lv2 := [(11, .int ((x8 * x6) + x10)), (0, .ref 45), (1, .int x1), (2, .int x2), (3, .int x3), (4, .int x4), (5, .int x5), (6, .int x6), (7, .int x7), (8, .int x8), (9, .int x9), (10, .int x10)]) (st2 := [.int x1, .ref 45, .int r1, .int x9, .ref 10, .int (x7 + ((x8 * x6) + x10)), .ref 45]) (h2 := (sh_rep m.T m.I m.J)) rfl rfl rfl ?_
      refine sh_w (i := (.iload 11)) (len := 2) (pc2 := 84) (lv2 := [(11, .int ((x8 * x6) + x10)), (0, .ref 45), (1, .int x1), (2, .int x2), (3, .int x3), (4, .int x4), (5, .int x5), (6, .int x6), (7, .int x7), (8, .int x8), (9, .int x9), (10, .int x10)]) (st2 := [.int ((x8 * x6) + x10), .int x1, .ref 45, .int r1, .int x9, .ref 10, .int (x7 + ((x8 * x6) + x10)), .ref 45]) (h2 := (sh_rep m.T m.I m.J)) rfl rfl rfl ?_
      refine sh_w (i := .iadd) (len := 1) (pc2 := 85) (lv2 := [(11, .int ((x8 * x6) + x10)), (0, .ref 45), (1, .int x1), (2, .int x2), (3, .int x3), (4, .int x4), (5, .int x5), (6, .int x6), (7, .int x7), (8, .int x8), (9, .int x9), (10, .int x10)]) (st2 := [.int (x1 + ((x8 * x6) + x10)), .ref 45, .int r1, .int x9, .ref 10, .int (x7 + ((x8 * x6) + x10)), .ref 45]) (h2 := (sh_rep m.T m.I m.J)) rfl rfl rfl ?_
      exact kk
    obtain ⟨r2, e2, e⟩ := sh_bc_e e
    refine sh_Lk_cV (r := (some (.int r2))) (st2 := [.int r2, .int r1, .int x9, .ref 10, .int (x7 + ((x8 * x6) + x10)), .ref 45]) (pc2 := 88) (k2 := 103) (a := 44) (as := [.ref 45, .int (x1 + ((x8 * x6) + x10))]) (rest := [.int r1, .int x9, .ref 10, .int (x7 + ((x8 * x6) + x10)), .ref 45]) rfl rfl rfl (fun hT => (sh_s44 hT.st)) rfl rfl ⟨Nat.le_of_ble_eq_true rfl, Nat.le_of_ble_eq_true rfl⟩ (sl_103 e2 ⟨rfl, rfl⟩) rfl rfl (Nat.le_of_ble_eq_true rfl) (Nat.le_of_ble_eq_true rfl) ?_
    obtain ⟨r3, m13, e3, e⟩ := sh_bn_e e
    refine sh_Lk_cV (r := (some (.int r3))) (st2 := [.int r3, .int (x7 + ((x8 * x6) + x10)), .ref 45]) (pc2 := 91) (k2 := 129) (a := 9) (as := [.ref 10, .int x9, .int r1, .int r2]) (rest := [.int (x7 + ((x8 * x6) + x10)), .ref 45]) rfl rfl rfl (fun hT => hT.t9) rfl rfl ⟨Nat.le_of_ble_eq_true rfl, Nat.le_of_ble_eq_true rfl⟩ (sl_129 e3 ⟨rfl, rfl⟩) rfl rfl (Nat.le_of_ble_eq_true rfl) (Nat.le_of_ble_eq_true rfl) ?_
    obtain ⟨r4, m14, e4, e⟩ := sh_bn_e e
    refine sh_Lk_cV (r := none) (st2 := []) (pc2 := 94) (k2 := 100) (a := 44) (as := [.ref 45, .int (x7 + ((x8 * x6) + x10)), .int r3]) (rest := []) rfl rfl rfl (fun hT => (sh_s44 hT.st)) rfl rfl ⟨Nat.le_of_ble_eq_true rfl, Nat.le_of_ble_eq_true rfl⟩ (sl_100 e4 ⟨rfl, rfl⟩) rfl rfl (Nat.le_of_ble_eq_true rfl) (Nat.le_of_ble_eq_true rfl) ?_
    refine sh_Lk_lift (T := m14.T) (I := m14.I) (J := m14.J) (s := m14.s) (pc2 := 42) (lv2 := [(10, .int (x10 + 1)), (11, .int ((x8 * x6) + x10)), (0, .ref 45), (1, .int x1), (2, .int x2), (3, .int x3), (4, .int x4), (5, .int x5), (6, .int x6), (7, .int x7), (8, .int x8), (9, .int x9)]) (st2 := []) (I2 := m14.I) (J2 := m14.J) (fun hT v kk => ?_) ?_
    · refine sh_w (i := (.iinc 10 1)) (len := 3) (pc2 := 97) (lv2 := [(10, .int (x10 + 1)), (11, .int ((x8 * x6) + x10)), (0, .ref 45), (1, .int x1), (2, .int x2), (3, .int x3), (4, .int x4), (5, .int x5), (6, .int x6), (7, .int x7), (8, .int x8), (9, .int x9)]) (st2 := []) (h2 := (sh_rep m14.T m14.I m14.J)) rfl rfl rfl ?_
      refine sh_w (i := (.goto (-55))) (len := 3) (pc2 := 42) (lv2 := [(10, .int (x10 + 1)), (11, .int ((x8 * x6) + x10)), (0, .ref 45), (1, .int x1), (2, .int x2), (3, .int x3), (4, .int x4), (5, .int x5), (6, .int x6), (7, .int x7), (8, .int x8), (9, .int x9)]) (st2 := []) (h2 := (sh_rep m14.T m14.I m14.J)) rfl rfl rfl ?_
      exact kk
    obtain rfl := Option.some.inj e
    exact sh_Lk_sub (sh_sub_c rfl (sh_sub_c rfl (sh_sub_c rfl (sh_sub_c rfl (sh_sub_c rfl (sh_sub_c rfl (sh_sub_c rfl (sh_sub_c rfl (sh_sub_c rfl (sh_sub_c rfl (sh_sub_c rfl (sh_sub_n)))))))))))) tg
  · refine sh_Lk_lift (T := m.T) (I := m.I) (J := m.J) (s := m.s) (pc2 := 19) (lv2 := [(8, .int (x8 + 1)), (0, .ref 45), (1, .int x1), (2, .int x2), (3, .int x3), (4, .int x4), (5, .int x5), (6, .int x6), (7, .int x7), (9, .int x9), (10, .int x10)]) (st2 := []) (I2 := m.I) (J2 := m.J) (fun hT v kk => ?_) ?_
    · refine sh_jc (c := .ge) (off := (54)) (pc2 := 100) true rfl (sh_Bget c) rfl ?_
      refine sh_w (i := (.iinc 8 1)) (len := 3) (pc2 := 103) (lv2 := [(8, .int (x8 + 1)), (0, .ref 45), (1, .int x1), (2, .int x2), (3, .int x3), (4, .int x4), (5, .int x5), (6, .int x6), (7, .int x7), (9, .int x9), (10, .int x10)]) (st2 := []) (h2 := (sh_rep m.T m.I m.J)) rfl rfl rfl ?_
      refine sh_w (i := (.goto (-84))) (len := 3) (pc2 := 19) (lv2 := [(8, .int (x8 + 1)), (0, .ref 45), (1, .int x1), (2, .int x2), (3, .int x3), (4, .int x4), (5, .int x5), (6, .int x6), (7, .int x7), (9, .int x9), (10, .int x10)]) (st2 := []) (h2 := (sh_rep m.T m.I m.J)) rfl rfl rfl ?_
      exact kk
    obtain rfl := Option.some.inj e
    exact sh_Lk_sub (sh_sub_c rfl (sh_sub_c rfl (sh_sub_c rfl (sh_sub_c rfl (sh_sub_c rfl (sh_sub_c rfl (sh_sub_c rfl (sh_sub_c rfl (sh_sub_c rfl (sh_sub_n)))))))))) tg
theorem sl_139_42 {x1 : Int32} {x2 : Int32} {x3 : Int32} {x4 : Int32} {x5 : Int32} {x6 : Int32} {x7 : Int32} {x8 : Int32} {x9 : Int32} {x10 : Int32} {m m2 : sh_X} {o : Outcome} {z : ((Int32 × sh_X) ⊕ (Int32 × sh_X))} (e : sf_139_42 x1 x2 x3 x4 x5 x6 x7 x8 x9 x10 m = some z) (tg : (sh_el (fun q => sh_Lk 139 19 [(0, .ref 45), (1, .int x1), (2, .int x2), (3, .int x3), (4, .int x4), (5, .int x5), (6, .int x6), (7, .int x7), (8, .int q.1)] [] q.2 o m2 14 336) (sh_tI o m2)) z) : sh_Lk 139 42 [(0, .ref 45), (1, .int x1), (2, .int x2), (3, .int x3), (4, .int x4), (5, .int x5), (6, .int x6), (7, .int x7), (8, .int x8), (9, .int x9), (10, .int x10)] [] m o m2 14 336 := by
  unfold sf_139_42 at e
  exact sh_while_lk (P := fun q => sh_Lk 139 42 [(0, .ref 45), (1, .int x1), (2, .int x2), (3, .int x3), (4, .int x4), (5, .int x5), (6, .int x6), (7, .int x7), (8, .int x8), (9, .int x9), (10, .int q.1)] [] q.2 o m2 14 336) (Q := (sh_el (fun q => sh_Lk 139 19 [(0, .ref 45), (1, .int x1), (2, .int x2), (3, .int x3), (4, .int x4), (5, .int x5), (6, .int x6), (7, .int x7), (8, .int q.1)] [] q.2 o m2 14 336) (sh_tI o m2))) (fun q z e tg => sl_139_42s (x1 := x1) (x2 := x2) (x3 := x3) (x4 := x4) (x5 := x5) (x6 := x6) (x7 := x7) (x8 := x8) (x9 := x9) (x10 := q.1) (m := q.2) e tg) (s := (x10, m)) e tg
theorem sl_139_19s {x1 : Int32} {x2 : Int32} {x3 : Int32} {x4 : Int32} {x5 : Int32} {x6 : Int32} {x7 : Int32} {x8 : Int32} {m m2 : sh_X} {o : Outcome} {z : ((Int32 × sh_X) ⊕ (Int32 × sh_X))} (e : sf_139_19s x1 x2 x3 x4 x5 x6 x7 x8 m = some z) (tg : (sh_el (fun q => sh_Lk 139 19 [(0, .ref 45), (1, .int x1), (2, .int x2), (3, .int x3), (4, .int x4), (5, .int x5), (6, .int x6), (7, .int x7), (8, .int q.1)] [] q.2 o m2 14 336) (sh_tI o m2)) z) : sh_Lk 139 19 [(0, .ref 45), (1, .int x1), (2, .int x2), (3, .int x3), (4, .int x4), (5, .int x5), (6, .int x6), (7, .int x7), (8, .int x8)] [] m o m2 14 336 := by
  unfold sf_139_19s at e
  refine sh_Lk_lift (T := m.T) (I := m.I) (J := m.J) (s := m.s) (pc2 := 22) (lv2 := [(0, .ref 45), (1, .int x1), (2, .int x2), (3, .int x3), (4, .int x4), (5, .int x5), (6, .int x6), (7, .int x7), (8, .int x8)]) (st2 := [.int x2, .int x8]) (I2 := m.I) (J2 := m.J) (fun hT v kk => ?_) ?_
  · refine sh_w (i := (.iload 8)) (len := 2) (pc2 := 21) (lv2 := [(0, .ref 45), (1, .int x1), (2, .int x2), (3, .int x3), (4, .int x4), (5, .int x5), (6, .int x6), (7, .int x7), (8, .int x8)]) (st2 := [.int x8]) (h2 := (sh_rep m.T m.I m.J)) rfl rfl rfl ?_
    refine sh_w (i := (.iload_n 2)) (len := 1) (pc2 := 22) (lv2 := [(0, .ref 45), (1, .int x1), (2, .int x2), (3, .int x3), (4, .int x4), (5, .int x5), (6, .int x6), (7, .int x7), (8, .int x8)]) (st2 := [.int x2, .int x8]) (h2 := (sh_rep m.T m.I m.J)) rfl rfl rfl ?_
    exact kk
  refine sh_Lk_cS (r := (some (.int (sf_93 x2)))) (st2 := [.int (sf_93 x2), .int x8]) (pc2 := 25) (k2 := 93) (as := [.int x2]) (rest := [.int x8]) rfl rfl (by decide) (Nat.le_of_ble_eq_true rfl) rfl rfl ⟨Nat.le_of_ble_eq_true rfl, Nat.le_of_ble_eq_true rfl⟩ (sl_93 (m := m) rfl ⟨rfl, rfl⟩) rfl rfl (Nat.le_of_ble_eq_true rfl) (Nat.le_of_ble_eq_true rfl) ?_
  rcases sh_ite e with ⟨c, e⟩ | ⟨c, e⟩
  · refine sh_Lk_lift (T := m.T) (I := m.I) (J := m.J) (s := m.s) (pc2 := 34) (lv2 := [(0, .ref 45), (1, .int x1), (2, .int x2), (3, .int x3), (4, .int x4), (5, .int x5), (6, .int x6), (7, .int x7), (8, .int x8)]) (st2 := [.int x8, .int x4, .int x3, .ref 45]) (I2 := m.I) (J2 := m.J) (fun hT v kk => ?_) ?_
    · refine sh_jc (c := .ge) (off := (81)) (pc2 := 28) false rfl (sh_Bgef c) rfl ?_
      refine sh_w (i := (.aload_n 0)) (len := 1) (pc2 := 29) (lv2 := [(0, .ref 45), (1, .int x1), (2, .int x2), (3, .int x3), (4, .int x4), (5, .int x5), (6, .int x6), (7, .int x7), (8, .int x8)]) (st2 := [.ref 45]) (h2 := (sh_rep m.T m.I m.J)) rfl rfl rfl ?_
      refine sh_w (i := (.iload_n 3)) (len := 1) (pc2 := 30) (lv2 := [(0, .ref 45), (1, .int x1), (2, .int x2), (3, .int x3), (4, .int x4), (5, .int x5), (6, .int x6), (7, .int x7), (8, .int x8)]) (st2 := [.int x3, .ref 45]) (h2 := (sh_rep m.T m.I m.J)) rfl rfl rfl ?_
      refine sh_w (i := (.iload 4)) (len := 2) (pc2 := 32) (lv2 := [(0, .ref 45), (1, .int x1), (2, .int x2), (3, .int x3), (4, .int x4), (5, .int x5), (6, .int x6), (7, .int x7), (8, .int x8)]) (st2 := [.int x4, .int x3, .ref 45]) (h2 := (sh_rep m.T m.I m.J)) rfl rfl rfl ?_
      refine sh_w (i := (.iload 8)) (len := 2) (pc2 := 34) (lv2 := [(0, .ref 45), (1, .int x1), (2, .int x2), (3, .int x3), (4, .int x4), (5, .int x5), (6, .int x6), (7, .int x7), (8, .int x8)]) (st2 := [.int x8, .int x4, .int x3, .ref 45]) (h2 := (sh_rep m.T m.I m.J)) rfl rfl rfl ?_
      exact kk
    obtain ⟨r2, m12, e2, e⟩ := sh_bn_e e
    refine sh_Lk_cV (r := (some (.int r2))) (st2 := [.int r2]) (pc2 := 37) (k2 := 140) (a := 44) (as := [.ref 45, .int x3, .int x4, .int x8]) (rest := []) rfl rfl rfl (fun hT => (sh_s44 hT.st)) rfl rfl ⟨Nat.le_of_ble_eq_true rfl, Nat.le_of_ble_eq_true rfl⟩ (sl_140 e2 ⟨rfl, rfl⟩) rfl rfl (Nat.le_of_ble_eq_true rfl) (Nat.le_of_ble_eq_true rfl) ?_
    refine sh_Lk_lift (T := m12.T) (I := m12.I) (J := m12.J) (s := m12.s) (pc2 := 42) (lv2 := [(10, .int 0), (9, .int r2), (0, .ref 45), (1, .int x1), (2, .int x2), (3, .int x3), (4, .int x4), (5, .int x5), (6, .int x6), (7, .int x7), (8, .int x8)]) (st2 := []) (I2 := m12.I) (J2 := m12.J) (fun hT v kk => ?_) ?_
    · refine sh_w (i := (.istore 9)) (len := 2) (pc2 := 39) (lv2 := [(9, .int r2), (0, .ref 45), (1, .int x1), (2, .int x2), (3, .int x3), (4, .int x4), (5, .int x5), (6, .int x6), (7, .int x7), (8, .int x8)]) (st2 := []) (h2 := (sh_rep m12.T m12.I m12.J)) rfl rfl rfl ?_
      refine sh_w (i := (.iconst 0)) (len := 1) (pc2 := 40) (lv2 := [(9, .int r2), (0, .ref 45), (1, .int x1), (2, .int x2), (3, .int x3), (4, .int x4), (5, .int x5), (6, .int x6), (7, .int x7), (8, .int x8)]) (st2 := [.int 0]) (h2 := (sh_rep m12.T m12.I m12.J)) rfl rfl rfl ?_
      refine sh_w (i := (.istore 10)) (len := 2) (pc2 := 42) (lv2 := [(10, .int 0), (9, .int r2), (0, .ref 45), (1, .int x1), (2, .int x2), (3, .int x3), (4, .int x4), (5, .int x5), (6, .int x6), (7, .int x7), (8, .int x8)]) (st2 := []) (h2 := (sh_rep m12.T m12.I m12.J)) rfl rfl rfl ?_
      exact kk
    exact sh_Lk_sub (sh_sub_c rfl (sh_sub_c rfl (sh_sub_c rfl (sh_sub_c rfl (sh_sub_c rfl (sh_sub_c rfl (sh_sub_c rfl (sh_sub_c rfl (sh_sub_c rfl (sh_sub_c rfl (sh_sub_c rfl (sh_sub_n)))))))))))) (sl_139_42 e tg)
  · refine sh_Lk_lift (T := m.T) (I := m.I) (J := m.J) (s := m.s) (pc2 := 108) (lv2 := [(0, .ref 45), (1, .int x1), (2, .int x2), (3, .int x3), (4, .int x4), (5, .int x5), (6, .int x6), (7, .int x7), (8, .int x8)]) (st2 := [.int x7]) (I2 := m.I) (J2 := m.J) (fun hT v kk => ?_) ?_
    · refine sh_jc (c := .ge) (off := (81)) (pc2 := 106) true rfl (sh_Bget c) rfl ?_
      refine sh_w (i := (.iload 7)) (len := 2) (pc2 := 108) (lv2 := [(0, .ref 45), (1, .int x1), (2, .int x2), (3, .int x3), (4, .int x4), (5, .int x5), (6, .int x6), (7, .int x7), (8, .int x8)]) (st2 := [.int x7]) (h2 := (sh_rep m.T m.I m.J)) rfl rfl rfl ?_
      exact kk
    obtain rfl := Option.some.inj e
    obtain ⟨rfl, rfl⟩ := tg
    exact sh_Lk_ret (i := .ireturn) rfl rfl rfl (Nat.le_of_ble_eq_true rfl) (Nat.le_of_ble_eq_true rfl)
theorem sl_139_19 {x1 : Int32} {x2 : Int32} {x3 : Int32} {x4 : Int32} {x5 : Int32} {x6 : Int32} {x7 : Int32} {x8 : Int32} {m m2 : sh_X} {o : Outcome} {z : (Int32 × sh_X)} (e : sf_139_19 x1 x2 x3 x4 x5 x6 x7 x8 m = some z) (tg : (sh_tI o m2) z) : sh_Lk 139 19 [(0, .ref 45), (1, .int x1), (2, .int x2), (3, .int x3), (4, .int x4), (5, .int x5), (6, .int x6), (7, .int x7), (8, .int x8)] [] m o m2 14 336 := by
  unfold sf_139_19 at e
  exact sh_while_lk (P := fun q => sh_Lk 139 19 [(0, .ref 45), (1, .int x1), (2, .int x2), (3, .int x3), (4, .int x4), (5, .int x5), (6, .int x6), (7, .int x7), (8, .int q.1)] [] q.2 o m2 14 336) (Q := (sh_tI o m2)) (fun q z e tg => sl_139_19s (x1 := x1) (x2 := x2) (x3 := x3) (x4 := x4) (x5 := x5) (x6 := x6) (x7 := x7) (x8 := q.1) (m := q.2) e tg) (s := (x8, m)) e tg
theorem sl_139 {x1 : Int32} {x2 : Int32} {x3 : Int32} {x4 : Int32} {x5 : Int32} {m m2 : sh_X} {o : Outcome} {z : (Int32 × sh_X)} (e : sf_139 x1 x2 x3 x4 x5 m = some z) (tg : (sh_tI o m2) z) : sh_Lk 139 0 [(0, .ref 45), (1, .int x1), (2, .int x2), (3, .int x3), (4, .int x4), (5, .int x5)] [] m o m2 14 336 := by
  unfold sf_139 at e
  refine sh_Lk_lift (T := m.T) (I := m.I) (J := m.J) (s := m.s) (pc2 := 1) (lv2 := [(0, .ref 45), (1, .int x1), (2, .int x2), (3, .int x3), (4, .int x4), (5, .int x5)]) (st2 := [.int x2]) (I2 := m.I) (J2 := m.J) (fun hT v kk => ?_) ?_
  · refine sh_w (i := (.iload_n 2)) (len := 1) (pc2 := 1) (lv2 := [(0, .ref 45), (1, .int x1), (2, .int x2), (3, .int x3), (4, .int x4), (5, .int x5)]) (st2 := [.int x2]) (h2 := (sh_rep m.T m.I m.J)) rfl rfl rfl ?_
    exact kk
  refine sh_Lk_cS (r := (some (.int (sf_94 x2)))) (st2 := [.int (sf_94 x2)]) (pc2 := 4) (k2 := 94) (as := [.int x2]) (rest := []) rfl rfl (by decide) (Nat.le_of_ble_eq_true rfl) rfl rfl ⟨Nat.le_of_ble_eq_true rfl, Nat.le_of_ble_eq_true rfl⟩ (sl_94 (m := m) rfl ⟨rfl, rfl⟩) rfl rfl (Nat.le_of_ble_eq_true rfl) (Nat.le_of_ble_eq_true rfl) ?_
  refine sh_Lk_lift (T := m.T) (I := m.I) (J := m.J) (s := m.s) (pc2 := 8) (lv2 := [(6, .int (sf_94 x2)), (0, .ref 45), (1, .int x1), (2, .int x2), (3, .int x3), (4, .int x4), (5, .int x5)]) (st2 := [.int x2, .ref 45]) (I2 := m.I) (J2 := m.J) (fun hT v kk => ?_) ?_
  · refine sh_w (i := (.istore 6)) (len := 2) (pc2 := 6) (lv2 := [(6, .int (sf_94 x2)), (0, .ref 45), (1, .int x1), (2, .int x2), (3, .int x3), (4, .int x4), (5, .int x5)]) (st2 := []) (h2 := (sh_rep m.T m.I m.J)) rfl rfl rfl ?_
    refine sh_w (i := (.aload_n 0)) (len := 1) (pc2 := 7) (lv2 := [(6, .int (sf_94 x2)), (0, .ref 45), (1, .int x1), (2, .int x2), (3, .int x3), (4, .int x4), (5, .int x5)]) (st2 := [.ref 45]) (h2 := (sh_rep m.T m.I m.J)) rfl rfl rfl ?_
    refine sh_w (i := (.iload_n 2)) (len := 1) (pc2 := 8) (lv2 := [(6, .int (sf_94 x2)), (0, .ref 45), (1, .int x1), (2, .int x2), (3, .int x3), (4, .int x4), (5, .int x5)]) (st2 := [.int x2, .ref 45]) (h2 := (sh_rep m.T m.I m.J)) rfl rfl rfl ?_
    exact kk
  refine sh_Lk_cS (r := (some (.int (sf_96 x2)))) (st2 := [.int (sf_96 x2), .ref 45]) (pc2 := 11) (k2 := 96) (as := [.int x2]) (rest := [.ref 45]) rfl rfl (by decide) (Nat.le_of_ble_eq_true rfl) rfl rfl ⟨Nat.le_of_ble_eq_true rfl, Nat.le_of_ble_eq_true rfl⟩ (sl_96 (m := m) rfl ⟨rfl, rfl⟩) rfl rfl (Nat.le_of_ble_eq_true rfl) (Nat.le_of_ble_eq_true rfl) ?_
  obtain ⟨r3, m13, e3, e⟩ := sh_bn_e e
  refine sh_Lk_cV (r := (some (.int r3))) (st2 := [.int r3]) (pc2 := 14) (k2 := 98) (a := 44) (as := [.ref 45, .int (sf_96 x2)]) (rest := []) rfl rfl rfl (fun hT => (sh_s44 hT.st)) rfl rfl ⟨Nat.le_of_ble_eq_true rfl, Nat.le_of_ble_eq_true rfl⟩ (sl_98 e3 ⟨rfl, rfl⟩) rfl rfl (Nat.le_of_ble_eq_true rfl) (Nat.le_of_ble_eq_true rfl) ?_
  refine sh_Lk_lift (T := m13.T) (I := m13.I) (J := m13.J) (s := m13.s) (pc2 := 19) (lv2 := [(8, .int 0), (7, .int r3), (6, .int (sf_94 x2)), (0, .ref 45), (1, .int x1), (2, .int x2), (3, .int x3), (4, .int x4), (5, .int x5)]) (st2 := []) (I2 := m13.I) (J2 := m13.J) (fun hT v kk => ?_) ?_
  · refine sh_w (i := (.istore 7)) (len := 2) (pc2 := 16) (lv2 := [(7, .int r3), (6, .int (sf_94 x2)), (0, .ref 45), (1, .int x1), (2, .int x2), (3, .int x3), (4, .int x4), (5, .int x5)]) (st2 := []) (h2 := (sh_rep m13.T m13.I m13.J)) rfl rfl rfl ?_
    refine sh_w (i := (.iconst 0)) (len := 1) (pc2 := 17) (lv2 := [(7, .int r3), (6, .int (sf_94 x2)), (0, .ref 45), (1, .int x1), (2, .int x2), (3, .int x3), (4, .int x4), (5, .int x5)]) (st2 := [.int 0]) (h2 := (sh_rep m13.T m13.I m13.J)) rfl rfl rfl ?_
    refine sh_w (i := (.istore 8)) (len := 2) (pc2 := 19) (lv2 := [(8, .int 0), (7, .int r3), (6, .int (sf_94 x2)), (0, .ref 45), (1, .int x1), (2, .int x2), (3, .int x3), (4, .int x4), (5, .int x5)]) (st2 := []) (h2 := (sh_rep m13.T m13.I m13.J)) rfl rfl rfl ?_
    exact kk
  exact sh_Lk_sub (sh_sub_c rfl (sh_sub_c rfl (sh_sub_c rfl (sh_sub_c rfl (sh_sub_c rfl (sh_sub_c rfl (sh_sub_c rfl (sh_sub_c rfl (sh_sub_c rfl (sh_sub_n)))))))))) (sl_139_19 e tg)
theorem sl_134_187 {x1 : Int32} {x3 : Int32} {x7 : Int32} {m m2 : sh_X} {o : Outcome} {z : (Option Unit × sh_X)} (e : sf_134_187 x1 x3 x7 m = some z) (tg : (sh_tVt o m2) z) : sh_Lk 134 187 [(0, .ref 42), (1, .int x1), (3, .int x3), (7, .int x7)] [] m o m2 15 367 := by
  unfold sf_134_187 at e
  refine sh_Lk_lift (T := m.T) (I := m.I) (J := m.J) (s := m.s) (pc2 := 192) (lv2 := [(0, .ref 42), (1, .int x1), (3, .int x3), (7, .int x7)]) (st2 := [.int 1, .ref 49]) (I2 := m.I) (J2 := m.J) (fun hT v kk => ?_) ?_
  · refine sh_w (i := (.aload_n 0)) (len := 1) (pc2 := 188) (lv2 := [(0, .ref 42), (1, .int x1), (3, .int x3), (7, .int x7)]) (st2 := [.ref 42]) (h2 := (sh_rep m.T m.I m.J)) rfl rfl rfl ?_
    refine sh_gR1 (len := 3) (x := .ref 49) (pc2 := 191) rfl rfl (sh_s41 hT.st) rfl rfl ?_
    refine sh_w (i := (.iconst 1)) (len := 1) (pc2 := 192) (lv2 := [(0, .ref 42), (1, .int x1), (3, .int x3), (7, .int x7)]) (st2 := [.int 1, .ref 49]) (h2 := (sh_rep m.T m.I m.J)) rfl rfl rfl ?_
    exact kk
  obtain ⟨r1, m11, e1, e⟩ := sh_bn_e e
  refine sh_Lk_cV (r := none) (st2 := []) (pc2 := 195) (k2 := 118) (a := 48) (as := [.ref 49, .int 1]) (rest := []) rfl rfl rfl (fun hT => (sh_s48 hT.st)) rfl rfl ⟨Nat.le_of_ble_eq_true rfl, Nat.le_of_ble_eq_true rfl⟩ (sl_118 e1 ⟨rfl, rfl⟩) rfl rfl (Nat.le_of_ble_eq_true rfl) (Nat.le_of_ble_eq_true rfl) ?_
  refine sh_Lk_lift (T := m11.T) (I := m11.I) (J := m11.J) (s := m11.s) (pc2 := 200) (lv2 := [(0, .ref 42), (1, .int x1), (3, .int x3), (7, .int x7)]) (st2 := [.int x7, .int x1, .int x3, .ref 42]) (I2 := m11.I) (J2 := m11.J) (fun hT v kk => ?_) ?_
  · refine sh_w (i := (.aload_n 0)) (len := 1) (pc2 := 196) (lv2 := [(0, .ref 42), (1, .int x1), (3, .int x3), (7, .int x7)]) (st2 := [.ref 42]) (h2 := (sh_rep m11.T m11.I m11.J)) rfl rfl rfl ?_
    refine sh_w (i := (.iload_n 3)) (len := 1) (pc2 := 197) (lv2 := [(0, .ref 42), (1, .int x1), (3, .int x3), (7, .int x7)]) (st2 := [.int x3, .ref 42]) (h2 := (sh_rep m11.T m11.I m11.J)) rfl rfl rfl ?_
    refine sh_w (i := (.iload_n 1)) (len := 1) (pc2 := 198) (lv2 := [(0, .ref 42), (1, .int x1), (3, .int x3), (7, .int x7)]) (st2 := [.int x1, .int x3, .ref 42]) (h2 := (sh_rep m11.T m11.I m11.J)) rfl rfl rfl ?_
    refine sh_w (i := (.iload 7)) (len := 2) (pc2 := 200) (lv2 := [(0, .ref 42), (1, .int x1), (3, .int x3), (7, .int x7)]) (st2 := [.int x7, .int x1, .int x3, .ref 42]) (h2 := (sh_rep m11.T m11.I m11.J)) rfl rfl rfl ?_
    exact kk
  rcases sh_bt_e e with ⟨m12, e2, rfl⟩ | ⟨r2, m12, e2, e⟩
  · obtain ⟨rfl, rfl⟩ := tg
    exact sh_Lk_tV (k2 := 126) (a := 41) (as := [.ref 42, .int x3, .int x1, .int x7]) (rest := []) rfl rfl rfl (fun hT => (sh_s41 hT.st)) rfl rfl ⟨Nat.le_of_ble_eq_true rfl, Nat.le_of_ble_eq_true rfl⟩ (sl_126 e2 ⟨rfl, rfl⟩) rfl (Nat.le_of_ble_eq_true rfl) (Nat.le_of_ble_eq_true rfl) (Nat.le_of_ble_eq_true rfl) (Nat.le_of_ble_eq_true rfl) rfl
  refine sh_Lk_cV (r := none) (st2 := []) (pc2 := 203) (k2 := 126) (a := 41) (as := [.ref 42, .int x3, .int x1, .int x7]) (rest := []) rfl rfl rfl (fun hT => (sh_s41 hT.st)) rfl rfl ⟨Nat.le_of_ble_eq_true rfl, Nat.le_of_ble_eq_true rfl⟩ (sl_126 e2 ⟨rfl, rfl⟩) rfl rfl (Nat.le_of_ble_eq_true rfl) (Nat.le_of_ble_eq_true rfl) ?_
  obtain rfl := Option.some.inj e
  obtain ⟨rfl, rfl⟩ := tg
  exact sh_Lk_ret (i := .return_) rfl rfl rfl (Nat.le_of_ble_eq_true rfl) (Nat.le_of_ble_eq_true rfl)
theorem sl_134 {x1 : Int32} {x2 : Int32} {m m2 : sh_X} {o : Outcome} {z : (Option Unit × sh_X)} (e : sf_134 x1 x2 m = some z) (tg : (sh_tVt o m2) z) : sh_Lk 134 0 [(0, .ref 42), (1, .int x1), (2, .int x2)] [] m o m2 15 367 := by
  unfold sf_134 at e
  refine sh_Lk_lift (T := m.T) (I := m.I) (J := m.J) (s := m.s) (pc2 := 9) (lv2 := [(0, .ref 42), (1, .int x1), (2, .int x2)]) (st2 := [.int x1, .ref 3, .ref 54]) (I2 := m.I) (J2 := m.J) (fun hT v kk => ?_) ?_
  · refine sh_w (i := (.aload_n 0)) (len := 1) (pc2 := 1) (lv2 := [(0, .ref 42), (1, .int x1), (2, .int x2)]) (st2 := [.ref 42]) (h2 := (sh_rep m.T m.I m.J)) rfl rfl rfl ?_
    refine sh_gR1 (len := 3) (x := .ref 54) (pc2 := 4) rfl rfl (sh_s41 hT.st) rfl rfl ?_
    refine sh_w (i := (.aload_n 0)) (len := 1) (pc2 := 5) (lv2 := [(0, .ref 42), (1, .int x1), (2, .int x2)]) (st2 := [.ref 42, .ref 54]) (h2 := (sh_rep m.T m.I m.J)) rfl rfl rfl ?_
    refine sh_gR1 (len := 3) (x := .ref 3) (pc2 := 8) rfl rfl (sh_s41 hT.st) rfl rfl ?_
    refine sh_w (i := (.iload_n 1)) (len := 1) (pc2 := 9) (lv2 := [(0, .ref 42), (1, .int x1), (2, .int x2)]) (st2 := [.int x1, .ref 3, .ref 54]) (h2 := (sh_rep m.T m.I m.J)) rfl rfl rfl ?_
    exact kk
  obtain ⟨r1, e1, e⟩ := sh_bc_e e
  refine sh_Lk_cV (r := (some (.int r1))) (st2 := [.int r1, .ref 54]) (pc2 := 12) (k2 := 83) (a := 2) (as := [.ref 3, .int x1]) (rest := [.ref 54]) rfl rfl rfl (fun hT => hT.t2) rfl rfl ⟨Nat.le_of_ble_eq_true rfl, Nat.le_of_ble_eq_true rfl⟩ (sl_83 e1 ⟨rfl, rfl⟩) rfl rfl (Nat.le_of_ble_eq_true rfl) (Nat.le_of_ble_eq_true rfl) ?_
  obtain ⟨r2, e2, e⟩ := sh_bc_e e
  refine sh_Lk_cV (r := (some (.int r2))) (st2 := [.int r2]) (pc2 := 15) (k2 := 92) (a := 53) (as := [.ref 54, .int r1]) (rest := []) rfl rfl rfl (fun hT => (sh_s53 hT.st)) rfl rfl ⟨Nat.le_of_ble_eq_true rfl, Nat.le_of_ble_eq_true rfl⟩ (sl_92 e2 ⟨rfl, rfl⟩) rfl rfl (Nat.le_of_ble_eq_true rfl) (Nat.le_of_ble_eq_true rfl) ?_
  refine sh_Lk_lift (T := m.T) (I := m.I) (J := m.J) (s := m.s) (pc2 := 21) (lv2 := [(3, .int r2), (0, .ref 42), (1, .int x1), (2, .int x2)]) (st2 := [.int r2, .ref 54]) (I2 := m.I) (J2 := m.J) (fun hT v kk => ?_) ?_
  · refine sh_w (i := (.istore_n 3)) (len := 1) (pc2 := 16) (lv2 := [(3, .int r2), (0, .ref 42), (1, .int x1), (2, .int x2)]) (st2 := []) (h2 := (sh_rep m.T m.I m.J)) rfl rfl rfl ?_
    refine sh_w (i := (.aload_n 0)) (len := 1) (pc2 := 17) (lv2 := [(3, .int r2), (0, .ref 42), (1, .int x1), (2, .int x2)]) (st2 := [.ref 42]) (h2 := (sh_rep m.T m.I m.J)) rfl rfl rfl ?_
    refine sh_gR1 (len := 3) (x := .ref 54) (pc2 := 20) rfl rfl (sh_s41 hT.st) rfl rfl ?_
    refine sh_w (i := (.iload_n 3)) (len := 1) (pc2 := 21) (lv2 := [(3, .int r2), (0, .ref 42), (1, .int x1), (2, .int x2)]) (st2 := [.int r2, .ref 54]) (h2 := (sh_rep m.T m.I m.J)) rfl rfl rfl ?_
    exact kk
  obtain ⟨r3, e3, e⟩ := sh_bc_e e
  refine sh_Lk_cV (r := (some (.int r3))) (st2 := [.int r3]) (pc2 := 24) (k2 := 120) (a := 53) (as := [.ref 54, .int r2]) (rest := []) rfl rfl rfl (fun hT => (sh_s53 hT.st)) rfl rfl ⟨Nat.le_of_ble_eq_true rfl, Nat.le_of_ble_eq_true rfl⟩ (sl_120 e3 ⟨rfl, rfl⟩) rfl rfl (Nat.le_of_ble_eq_true rfl) (Nat.le_of_ble_eq_true rfl) ?_
  refine sh_Lk_lift (T := m.T) (I := m.I) (J := m.J) (s := m.s) (pc2 := 29) (lv2 := [(4, .int r3), (3, .int r2), (0, .ref 42), (1, .int x1), (2, .int x2)]) (st2 := [.int r3, .ref 42]) (I2 := m.I) (J2 := m.J) (fun hT v kk => ?_) ?_
  · refine sh_w (i := (.istore 4)) (len := 2) (pc2 := 26) (lv2 := [(4, .int r3), (3, .int r2), (0, .ref 42), (1, .int x1), (2, .int x2)]) (st2 := []) (h2 := (sh_rep m.T m.I m.J)) rfl rfl rfl ?_
    refine sh_w (i := (.aload_n 0)) (len := 1) (pc2 := 27) (lv2 := [(4, .int r3), (3, .int r2), (0, .ref 42), (1, .int x1), (2, .int x2)]) (st2 := [.ref 42]) (h2 := (sh_rep m.T m.I m.J)) rfl rfl rfl ?_
    refine sh_w (i := (.iload 4)) (len := 2) (pc2 := 29) (lv2 := [(4, .int r3), (3, .int r2), (0, .ref 42), (1, .int x1), (2, .int x2)]) (st2 := [.int r3, .ref 42]) (h2 := (sh_rep m.T m.I m.J)) rfl rfl rfl ?_
    exact kk
  refine sh_Lk_cS (r := (some (.int (sf_135 r3)))) (st2 := [.int (sf_135 r3), .ref 42]) (pc2 := 32) (k2 := 135) (as := [.int r3]) (rest := [.ref 42]) rfl rfl (by decide) (Nat.le_of_ble_eq_true rfl) rfl rfl ⟨Nat.le_of_ble_eq_true rfl, Nat.le_of_ble_eq_true rfl⟩ (sl_135 (m := m) rfl ⟨rfl, rfl⟩) rfl rfl (Nat.le_of_ble_eq_true rfl) (Nat.le_of_ble_eq_true rfl) ?_
  refine sh_Lk_lift (T := m.T) (I := m.I) (J := m.J) (s := m.s) (pc2 := 33) (lv2 := [(4, .int r3), (3, .int r2), (0, .ref 42), (1, .int x1), (2, .int x2)]) (st2 := [.int x2, .int (sf_135 r3), .ref 42]) (I2 := m.I) (J2 := m.J) (fun hT v kk => ?_) ?_
  · refine sh_w (i := (.iload_n 2)) (len := 1) (pc2 := 33) (lv2 := [(4, .int r3), (3, .int r2), (0, .ref 42), (1, .int x1), (2, .int x2)]) (st2 := [.int x2, .int (sf_135 r3), .ref 42]) (h2 := (sh_rep m.T m.I m.J)) rfl rfl rfl ?_
    exact kk
  rcases sh_bt_e e with ⟨m15, e5, rfl⟩ | ⟨r5, m15, e5, e⟩
  · obtain ⟨rfl, rfl⟩ := tg
    exact sh_Lk_tV (k2 := 125) (a := 41) (as := [.ref 42, .int (sf_135 r3), .int x2]) (rest := []) rfl rfl rfl (fun hT => (sh_s41 hT.st)) rfl rfl ⟨Nat.le_of_ble_eq_true rfl, Nat.le_of_ble_eq_true rfl⟩ (sl_125 e5 ⟨rfl, rfl⟩) rfl (Nat.le_of_ble_eq_true rfl) (Nat.le_of_ble_eq_true rfl) (Nat.le_of_ble_eq_true rfl) (Nat.le_of_ble_eq_true rfl) rfl
  refine sh_Lk_cV (r := none) (st2 := []) (pc2 := 36) (k2 := 125) (a := 41) (as := [.ref 42, .int (sf_135 r3), .int x2]) (rest := []) rfl rfl rfl (fun hT => (sh_s41 hT.st)) rfl rfl ⟨Nat.le_of_ble_eq_true rfl, Nat.le_of_ble_eq_true rfl⟩ (sl_125 e5 ⟨rfl, rfl⟩) rfl rfl (Nat.le_of_ble_eq_true rfl) (Nat.le_of_ble_eq_true rfl) ?_
  refine sh_Lk_lift (T := m15.T) (I := m15.I) (J := m15.J) (s := m15.s) (pc2 := 49) (lv2 := [(4, .int r3), (3, .int r2), (0, .ref 42), (1, .int x1), (2, .int x2)]) (st2 := [.int ((m15.I 48 4) - 1), .ref 49]) (I2 := m15.I) (J2 := m15.J) (fun hT v kk => ?_) ?_
  · refine sh_w (i := (.aload_n 0)) (len := 1) (pc2 := 37) (lv2 := [(4, .int r3), (3, .int r2), (0, .ref 42), (1, .int x1), (2, .int x2)]) (st2 := [.ref 42]) (h2 := (sh_rep m15.T m15.I m15.J)) rfl rfl rfl ?_
    refine sh_gR1 (len := 3) (x := .ref 49) (pc2 := 40) rfl rfl (sh_s41 hT.st) rfl rfl ?_
    refine sh_w (i := (.aload_n 0)) (len := 1) (pc2 := 41) (lv2 := [(4, .int r3), (3, .int r2), (0, .ref 42), (1, .int x1), (2, .int x2)]) (st2 := [.ref 42, .ref 49]) (h2 := (sh_rep m15.T m15.I m15.J)) rfl rfl rfl ?_
    refine sh_gR1 (len := 3) (x := .ref 49) (pc2 := 44) rfl rfl (sh_s41 hT.st) rfl rfl ?_
    refine sh_gI1 (len := 3) (x := m15.I 48 4) (pc2 := 47) rfl rfl (sh_s48 hT.st) rfl rfl rfl ?_
    refine sh_w (i := (.iconst 1)) (len := 1) (pc2 := 48) (lv2 := [(4, .int r3), (3, .int r2), (0, .ref 42), (1, .int x1), (2, .int x2)]) (st2 := [.int 1, .int (m15.I 48 4), .ref 49]) (h2 := (sh_rep m15.T m15.I m15.J)) rfl rfl rfl ?_
    refine sh_w (i := .isub) (len := 1) (pc2 := 49) (lv2 := [(4, .int r3), (3, .int r2), (0, .ref 42), (1, .int x1), (2, .int x2)]) (st2 := [.int ((m15.I 48 4) - 1), .ref 49]) (h2 := (sh_rep m15.T m15.I m15.J)) rfl rfl rfl ?_
    exact kk
  obtain ⟨r6, e6, e⟩ := sh_bc_e e
  refine sh_Lk_cV (r := (some (.int r6))) (st2 := [.int r6]) (pc2 := 52) (k2 := 117) (a := 48) (as := [.ref 49, .int ((m15.I 48 4) - 1)]) (rest := []) rfl rfl rfl (fun hT => (sh_s48 hT.st)) rfl rfl ⟨Nat.le_of_ble_eq_true rfl, Nat.le_of_ble_eq_true rfl⟩ (sl_117 e6 ⟨rfl, rfl⟩) rfl rfl (Nat.le_of_ble_eq_true rfl) (Nat.le_of_ble_eq_true rfl) ?_
  refine sh_Lk_lift (T := m15.T) (I := m15.I) (J := m15.J) (s := m15.s) (pc2 := 59) (lv2 := [(5, .int r6), (4, .int r3), (3, .int r2), (0, .ref 42), (1, .int x1), (2, .int x2)]) (st2 := [.int 1, .ref 49]) (I2 := m15.I) (J2 := m15.J) (fun hT v kk => ?_) ?_
  · refine sh_w (i := (.istore 5)) (len := 2) (pc2 := 54) (lv2 := [(5, .int r6), (4, .int r3), (3, .int r2), (0, .ref 42), (1, .int x1), (2, .int x2)]) (st2 := []) (h2 := (sh_rep m15.T m15.I m15.J)) rfl rfl rfl ?_
    refine sh_w (i := (.aload_n 0)) (len := 1) (pc2 := 55) (lv2 := [(5, .int r6), (4, .int r3), (3, .int r2), (0, .ref 42), (1, .int x1), (2, .int x2)]) (st2 := [.ref 42]) (h2 := (sh_rep m15.T m15.I m15.J)) rfl rfl rfl ?_
    refine sh_gR1 (len := 3) (x := .ref 49) (pc2 := 58) rfl rfl (sh_s41 hT.st) rfl rfl ?_
    refine sh_w (i := (.iconst 1)) (len := 1) (pc2 := 59) (lv2 := [(5, .int r6), (4, .int r3), (3, .int r2), (0, .ref 42), (1, .int x1), (2, .int x2)]) (st2 := [.int 1, .ref 49]) (h2 := (sh_rep m15.T m15.I m15.J)) rfl rfl rfl ?_
    exact kk
  obtain ⟨r7, m17, e7, e⟩ := sh_bn_e e
  refine sh_Lk_cV (r := none) (st2 := []) (pc2 := 62) (k2 := 118) (a := 48) (as := [.ref 49, .int 1]) (rest := []) rfl rfl rfl (fun hT => (sh_s48 hT.st)) rfl rfl ⟨Nat.le_of_ble_eq_true rfl, Nat.le_of_ble_eq_true rfl⟩ (sl_118 e7 ⟨rfl, rfl⟩) rfl rfl (Nat.le_of_ble_eq_true rfl) (Nat.le_of_ble_eq_true rfl) ?_
  refine sh_Lk_lift (T := m17.T) (I := m17.I) (J := m17.J) (s := m17.s) (pc2 := 79) (lv2 := [(6, .int ((m17.I 48 4) - 1)), (5, .int r6), (4, .int r3), (3, .int r2), (0, .ref 42), (1, .int x1), (2, .int x2)]) (st2 := [.int ((m17.I 48 4) - 1), .ref 49]) (I2 := m17.I) (J2 := m17.J) (fun hT v kk => ?_) ?_
  · refine sh_w (i := (.aload_n 0)) (len := 1) (pc2 := 63) (lv2 := [(5, .int r6), (4, .int r3), (3, .int r2), (0, .ref 42), (1, .int x1), (2, .int x2)]) (st2 := [.ref 42]) (h2 := (sh_rep m17.T m17.I m17.J)) rfl rfl rfl ?_
    refine sh_gR1 (len := 3) (x := .ref 49) (pc2 := 66) rfl rfl (sh_s41 hT.st) rfl rfl ?_
    refine sh_gI1 (len := 3) (x := m17.I 48 4) (pc2 := 69) rfl rfl (sh_s48 hT.st) rfl rfl rfl ?_
    refine sh_w (i := (.iconst 1)) (len := 1) (pc2 := 70) (lv2 := [(5, .int r6), (4, .int r3), (3, .int r2), (0, .ref 42), (1, .int x1), (2, .int x2)]) (st2 := [.int 1, .int (m17.I 48 4)]) (h2 := (sh_rep m17.T m17.I m17.J)) rfl rfl rfl ?_
    refine sh_w (i := .isub) (len := 1) (pc2 := 71) (lv2 := [(5, .int r6), (4, .int r3), (3, .int r2), (0, .ref 42), (1, .int x1), (2, .int x2)]) (st2 := [.int ((m17.I 48 4) - 1)]) (h2 := (sh_rep m17.T m17.I m17.J)) rfl rfl rfl ?_
    refine sh_w (i := (.istore 6)) (len := 2) (pc2 := 73) (lv2 := [(6, .int ((m17.I 48 4) - 1)), (5, .int r6), (4, .int r3), (3, .int r2), (0, .ref 42), (1, .int x1), (2, .int x2)]) (st2 := []) (h2 := (sh_rep m17.T m17.I m17.J)) rfl rfl rfl ?_
    refine sh_w (i := (.aload_n 0)) (len := 1) (pc2 := 74) (lv2 := [(6, .int ((m17.I 48 4) - 1)), (5, .int r6), (4, .int r3), (3, .int r2), (0, .ref 42), (1, .int x1), (2, .int x2)]) (st2 := [.ref 42]) (h2 := (sh_rep m17.T m17.I m17.J)) rfl rfl rfl ?_
    refine sh_gR1 (len := 3) (x := .ref 49) (pc2 := 77) rfl rfl (sh_s41 hT.st) rfl rfl ?_
    refine sh_w (i := (.iload 6)) (len := 2) (pc2 := 79) (lv2 := [(6, .int ((m17.I 48 4) - 1)), (5, .int r6), (4, .int r3), (3, .int r2), (0, .ref 42), (1, .int x1), (2, .int x2)]) (st2 := [.int ((m17.I 48 4) - 1), .ref 49]) (h2 := (sh_rep m17.T m17.I m17.J)) rfl rfl rfl ?_
    exact kk
  obtain ⟨r8, e8, e⟩ := sh_bc_e e
  refine sh_Lk_cV (r := (some (.int r8))) (st2 := [.int r8]) (pc2 := 82) (k2 := 108) (a := 48) (as := [.ref 49, .int ((m17.I 48 4) - 1)]) (rest := []) rfl rfl rfl (fun hT => (sh_s48 hT.st)) rfl rfl ⟨Nat.le_of_ble_eq_true rfl, Nat.le_of_ble_eq_true rfl⟩ (sl_108 e8 ⟨rfl, rfl⟩) rfl rfl (Nat.le_of_ble_eq_true rfl) (Nat.le_of_ble_eq_true rfl) ?_
  rcases sh_ite e with ⟨c, e⟩ | ⟨c, e⟩
  · refine sh_Lk_lift (T := m17.T) (I := m17.I) (J := m17.J) (s := m17.s) (pc2 := 88) (lv2 := [(6, .int ((m17.I 48 4) - 1)), (5, .int r6), (4, .int r3), (3, .int r2), (0, .ref 42), (1, .int x1), (2, .int x2)]) (st2 := [.int r3, .ref 42]) (I2 := m17.I) (J2 := m17.J) (fun hT v kk => ?_) ?_
    · refine sh_j0 (c := .ne) (off := (45)) (pc2 := 85) false rfl (sh_Bnef c) rfl ?_
      refine sh_w (i := (.aload_n 0)) (len := 1) (pc2 := 86) (lv2 := [(6, .int ((m17.I 48 4) - 1)), (5, .int r6), (4, .int r3), (3, .int r2), (0, .ref 42), (1, .int x1), (2, .int x2)]) (st2 := [.ref 42]) (h2 := (sh_rep m17.T m17.I m17.J)) rfl rfl rfl ?_
      refine sh_w (i := (.iload 4)) (len := 2) (pc2 := 88) (lv2 := [(6, .int ((m17.I 48 4) - 1)), (5, .int r6), (4, .int r3), (3, .int r2), (0, .ref 42), (1, .int x1), (2, .int x2)]) (st2 := [.int r3, .ref 42]) (h2 := (sh_rep m17.T m17.I m17.J)) rfl rfl rfl ?_
      exact kk
    refine sh_Lk_cS (r := (some (.int (sf_96 r3)))) (st2 := [.int (sf_96 r3), .ref 42]) (pc2 := 91) (k2 := 96) (as := [.int r3]) (rest := [.ref 42]) rfl rfl (by decide) (Nat.le_of_ble_eq_true rfl) rfl rfl ⟨Nat.le_of_ble_eq_true rfl, Nat.le_of_ble_eq_true rfl⟩ (sl_96 (m := m17) rfl ⟨rfl, rfl⟩) rfl rfl (Nat.le_of_ble_eq_true rfl) (Nat.le_of_ble_eq_true rfl) ?_
    refine sh_Lk_lift (T := m17.T) (I := m17.I) (J := m17.J) (s := m17.s) (pc2 := 94) (lv2 := [(6, .int ((m17.I 48 4) - 1)), (5, .int r6), (4, .int r3), (3, .int r2), (0, .ref 42), (1, .int x1), (2, .int x2)]) (st2 := [.int (x1 + 1), .int (sf_96 r3), .ref 42]) (I2 := m17.I) (J2 := m17.J) (fun hT v kk => ?_) ?_
    · refine sh_w (i := (.iload_n 1)) (len := 1) (pc2 := 92) (lv2 := [(6, .int ((m17.I 48 4) - 1)), (5, .int r6), (4, .int r3), (3, .int r2), (0, .ref 42), (1, .int x1), (2, .int x2)]) (st2 := [.int x1, .int (sf_96 r3), .ref 42]) (h2 := (sh_rep m17.T m17.I m17.J)) rfl rfl rfl ?_
      refine sh_w (i := (.iconst 1)) (len := 1) (pc2 := 93) (lv2 := [(6, .int ((m17.I 48 4) - 1)), (5, .int r6), (4, .int r3), (3, .int r2), (0, .ref 42), (1, .int x1), (2, .int x2)]) (st2 := [.int 1, .int x1, .int (sf_96 r3), .ref 42]) (h2 := (sh_rep m17.T m17.I m17.J)) rfl rfl rfl ?_
      refine sh_w (i := .iadd) (len := 1) (pc2 := 94) (lv2 := [(6, .int ((m17.I 48 4) - 1)), (5, .int r6), (4, .int r3), (3, .int r2), (0, .ref 42), (1, .int x1), (2, .int x2)]) (st2 := [.int (x1 + 1), .int (sf_96 r3), .ref 42]) (h2 := (sh_rep m17.T m17.I m17.J)) rfl rfl rfl ?_
      exact kk
    rcases sh_bt_e e with ⟨m20, e10, rfl⟩ | ⟨r10, m20, e10, e⟩
    · obtain ⟨rfl, rfl⟩ := tg
      exact sh_Lk_tV (k2 := 90) (a := 41) (as := [.ref 42, .int (sf_96 r3), .int (x1 + 1)]) (rest := []) rfl rfl rfl (fun hT => (sh_s41 hT.st)) rfl rfl ⟨Nat.le_of_ble_eq_true rfl, Nat.le_of_ble_eq_true rfl⟩ (sl_90 e10 ⟨rfl, rfl⟩) rfl (Nat.le_of_ble_eq_true rfl) (Nat.le_of_ble_eq_true rfl) (Nat.le_of_ble_eq_true rfl) (Nat.le_of_ble_eq_true rfl) rfl
    refine sh_Lk_cV (r := none) (st2 := []) (pc2 := 97) (k2 := 90) (a := 41) (as := [.ref 42, .int (sf_96 r3), .int (x1 + 1)]) (rest := []) rfl rfl rfl (fun hT => (sh_s41 hT.st)) rfl rfl ⟨Nat.le_of_ble_eq_true rfl, Nat.le_of_ble_eq_true rfl⟩ (sl_90 e10 ⟨rfl, rfl⟩) rfl rfl (Nat.le_of_ble_eq_true rfl) (Nat.le_of_ble_eq_true rfl) ?_
    refine sh_Lk_lift (T := m20.T) (I := m20.I) (J := m20.J) (s := m20.s) (pc2 := 103) (lv2 := [(6, .int ((m17.I 48 4) - 1)), (5, .int r6), (4, .int r3), (3, .int r2), (0, .ref 42), (1, .int x1), (2, .int x2)]) (st2 := [.int r2, .ref 54, .ref 42]) (I2 := m20.I) (J2 := m20.J) (fun hT v kk => ?_) ?_
    · refine sh_w (i := (.aload_n 0)) (len := 1) (pc2 := 98) (lv2 := [(6, .int ((m17.I 48 4) - 1)), (5, .int r6), (4, .int r3), (3, .int r2), (0, .ref 42), (1, .int x1), (2, .int x2)]) (st2 := [.ref 42]) (h2 := (sh_rep m20.T m20.I m20.J)) rfl rfl rfl ?_
      refine sh_w (i := (.aload_n 0)) (len := 1) (pc2 := 99) (lv2 := [(6, .int ((m17.I 48 4) - 1)), (5, .int r6), (4, .int r3), (3, .int r2), (0, .ref 42), (1, .int x1), (2, .int x2)]) (st2 := [.ref 42, .ref 42]) (h2 := (sh_rep m20.T m20.I m20.J)) rfl rfl rfl ?_
      refine sh_gR1 (len := 3) (x := .ref 54) (pc2 := 102) rfl rfl (sh_s41 hT.st) rfl rfl ?_
      refine sh_w (i := (.iload_n 3)) (len := 1) (pc2 := 103) (lv2 := [(6, .int ((m17.I 48 4) - 1)), (5, .int r6), (4, .int r3), (3, .int r2), (0, .ref 42), (1, .int x1), (2, .int x2)]) (st2 := [.int r2, .ref 54, .ref 42]) (h2 := (sh_rep m20.T m20.I m20.J)) rfl rfl rfl ?_
      exact kk
    obtain ⟨r11, e11, e⟩ := sh_bc_e e
    refine sh_Lk_cV (r := (some (.int r11))) (st2 := [.int r11, .ref 42]) (pc2 := 106) (k2 := 127) (a := 53) (as := [.ref 54, .int r2]) (rest := [.ref 42]) rfl rfl rfl (fun hT => (sh_s53 hT.st)) rfl rfl ⟨Nat.le_of_ble_eq_true rfl, Nat.le_of_ble_eq_true rfl⟩ (sl_127 e11 ⟨rfl, rfl⟩) rfl rfl (Nat.le_of_ble_eq_true rfl) (Nat.le_of_ble_eq_true rfl) ?_
    refine sh_Lk_lift (T := m20.T) (I := m20.I) (J := m20.J) (s := m20.s) (pc2 := 114) (lv2 := [(6, .int ((m17.I 48 4) - 1)), (5, .int r6), (4, .int r3), (3, .int r2), (0, .ref 42), (1, .int x1), (2, .int x2)]) (st2 := [.int ((m17.I 48 4) - 1), .ref 49, .int r3, .int r11, .ref 42]) (I2 := m20.I) (J2 := m20.J) (fun hT v kk => ?_) ?_
    · refine sh_w (i := (.iload 4)) (len := 2) (pc2 := 108) (lv2 := [(6, .int ((m17.I 48 4) - 1)), (5, .int r6), (4, .int r3), (3, .int r2), (0, .ref 42), (1, .int x1), (2, .int x2)]) (st2 := [.int r3, .int r11, .ref 42]) (h2 := (sh_rep m20.T m20.I m20.J)) rfl rfl rfl ?_
      refine sh_w (i := (.aload_n 0)) (len := 1) (pc2 := 109) (lv2 := [(6, .int ((m17.I 48 4) - 1)), (5, .int r6), (4, .int r3), (3, .int r2), (0, .ref 42), (1, .int x1), (2, .int x2)]) (st2 := [.ref 42, .int r3, .int r11, .ref 42]) (h2 := (sh_rep m20.T m20.I m20.J)) rfl rfl rfl ?_
      refine sh_gR1 (len := 3) (x := .ref 49) (pc2 := 112) rfl rfl (sh_s41 hT.st) rfl rfl ?_
      refine sh_w (i := (.iload 6)) (len := 2) (pc2 := 114) (lv2 := [(6, .int ((m17.I 48 4) - 1)), (5, .int r6), (4, .int r3), (3, .int r2), (0, .ref 42), (1, .int x1), (2, .int x2)]) (st2 := [.int ((m17.I 48 4) - 1), .ref 49, .int r3, .int r11, .ref 42]) (h2 := (sh_rep m20.T m20.I m20.J)) rfl rfl rfl ?_
      exact kk
    obtain ⟨r12, e12, e⟩ := sh_bc_e e
    refine sh_Lk_cV (r := (some (.long r12))) (st2 := [.long r12, .int r3, .int r11, .ref 42]) (pc2 := 117) (k2 := 111) (a := 48) (as := [.ref 49, .int ((m17.I 48 4) - 1)]) (rest := [.int r3, .int r11, .ref 42]) rfl rfl rfl (fun hT => (sh_s48 hT.st)) rfl rfl ⟨Nat.le_of_ble_eq_true rfl, Nat.le_of_ble_eq_true rfl⟩ (sl_111 e12 ⟨rfl, rfl⟩) rfl rfl (Nat.le_of_ble_eq_true rfl) (Nat.le_of_ble_eq_true rfl) ?_
    refine sh_Lk_lift (T := m20.T) (I := m20.I) (J := m20.J) (s := m20.s) (pc2 := 119) (lv2 := [(6, .int ((m17.I 48 4) - 1)), (5, .int r6), (4, .int r3), (3, .int r2), (0, .ref 42), (1, .int x1), (2, .int x2)]) (st2 := [.int r6, .long r12, .int r3, .int r11, .ref 42]) (I2 := m20.I) (J2 := m20.J) (fun hT v kk => ?_) ?_
    · refine sh_w (i := (.iload 5)) (len := 2) (pc2 := 119) (lv2 := [(6, .int ((m17.I 48 4) - 1)), (5, .int r6), (4, .int r3), (3, .int r2), (0, .ref 42), (1, .int x1), (2, .int x2)]) (st2 := [.int r6, .long r12, .int r3, .int r11, .ref 42]) (h2 := (sh_rep m20.T m20.I m20.J)) rfl rfl rfl ?_
      exact kk
    obtain ⟨r13, m23, e13, e⟩ := sh_bn_e e
    refine sh_Lk_cV (r := (some (.int r13))) (st2 := [.int r13]) (pc2 := 122) (k2 := 136) (a := 41) (as := [.ref 42, .int r11, .int r3, .long r12, .int r6]) (rest := []) rfl rfl rfl (fun hT => (sh_s41 hT.st)) rfl rfl ⟨Nat.le_of_ble_eq_true rfl, Nat.le_of_ble_eq_true rfl⟩ (sl_136 e13 ⟨rfl, rfl⟩) rfl rfl (Nat.le_of_ble_eq_true rfl) (Nat.le_of_ble_eq_true rfl) ?_
    refine sh_Lk_lift (T := m23.T) (I := m23.I) (J := m23.J) (s := m23.s) (pc2 := 187) (lv2 := [(7, .int r13), (6, .int ((m17.I 48 4) - 1)), (5, .int r6), (4, .int r3), (3, .int r2), (0, .ref 42), (1, .int x1), (2, .int x2)]) (st2 := []) (I2 := m23.I) (J2 := m23.J) (fun hT v kk => ?_) ?_
    · refine sh_w (i := (.istore 7)) (len := 2) (pc2 := 124) (lv2 := [(7, .int r13), (6, .int ((m17.I 48 4) - 1)), (5, .int r6), (4, .int r3), (3, .int r2), (0, .ref 42), (1, .int x1), (2, .int x2)]) (st2 := []) (h2 := (sh_rep m23.T m23.I m23.J)) rfl rfl rfl ?_
      refine sh_w (i := (.goto 63)) (len := 3) (pc2 := 187) (lv2 := [(7, .int r13), (6, .int ((m17.I 48 4) - 1)), (5, .int r6), (4, .int r3), (3, .int r2), (0, .ref 42), (1, .int x1), (2, .int x2)]) (st2 := []) (h2 := (sh_rep m23.T m23.I m23.J)) rfl rfl rfl ?_
      exact kk
    exact sh_Lk_sub (sh_sub_c rfl (sh_sub_c rfl (sh_sub_c rfl (sh_sub_c rfl (sh_sub_n))))) (sl_134_187 e tg)
  · refine sh_Lk_lift (T := m17.T) (I := m17.I) (J := m17.J) (s := m17.s) (pc2 := 136) (lv2 := [(6, .int ((m17.I 48 4) - 1)), (5, .int r6), (4, .int r3), (3, .int r2), (0, .ref 42), (1, .int x1), (2, .int x2)]) (st2 := [.int ((m17.I 48 4) - 1), .ref 49, .int r3, .ref 42]) (I2 := m17.I) (J2 := m17.J) (fun hT v kk => ?_) ?_
    · refine sh_j0 (c := .ne) (off := (45)) (pc2 := 127) true rfl (sh_Bnet c) rfl ?_
      refine sh_w (i := (.aload_n 0)) (len := 1) (pc2 := 128) (lv2 := [(6, .int ((m17.I 48 4) - 1)), (5, .int r6), (4, .int r3), (3, .int r2), (0, .ref 42), (1, .int x1), (2, .int x2)]) (st2 := [.ref 42]) (h2 := (sh_rep m17.T m17.I m17.J)) rfl rfl rfl ?_
      refine sh_w (i := (.iload 4)) (len := 2) (pc2 := 130) (lv2 := [(6, .int ((m17.I 48 4) - 1)), (5, .int r6), (4, .int r3), (3, .int r2), (0, .ref 42), (1, .int x1), (2, .int x2)]) (st2 := [.int r3, .ref 42]) (h2 := (sh_rep m17.T m17.I m17.J)) rfl rfl rfl ?_
      refine sh_w (i := (.aload_n 0)) (len := 1) (pc2 := 131) (lv2 := [(6, .int ((m17.I 48 4) - 1)), (5, .int r6), (4, .int r3), (3, .int r2), (0, .ref 42), (1, .int x1), (2, .int x2)]) (st2 := [.ref 42, .int r3, .ref 42]) (h2 := (sh_rep m17.T m17.I m17.J)) rfl rfl rfl ?_
      refine sh_gR1 (len := 3) (x := .ref 49) (pc2 := 134) rfl rfl (sh_s41 hT.st) rfl rfl ?_
      refine sh_w (i := (.iload 6)) (len := 2) (pc2 := 136) (lv2 := [(6, .int ((m17.I 48 4) - 1)), (5, .int r6), (4, .int r3), (3, .int r2), (0, .ref 42), (1, .int x1), (2, .int x2)]) (st2 := [.int ((m17.I 48 4) - 1), .ref 49, .int r3, .ref 42]) (h2 := (sh_rep m17.T m17.I m17.J)) rfl rfl rfl ?_
      exact kk
    obtain ⟨r14, e14, e⟩ := sh_bc_e e
    refine sh_Lk_cV (r := (some (.int r14))) (st2 := [.int r14, .int r3, .ref 42]) (pc2 := 139) (k2 := 108) (a := 48) (as := [.ref 49, .int ((m17.I 48 4) - 1)]) (rest := [.int r3, .ref 42]) rfl rfl rfl (fun hT => (sh_s48 hT.st)) rfl rfl ⟨Nat.le_of_ble_eq_true rfl, Nat.le_of_ble_eq_true rfl⟩ (sl_108 e14 ⟨rfl, rfl⟩) rfl rfl (Nat.le_of_ble_eq_true rfl) (Nat.le_of_ble_eq_true rfl) ?_
    refine sh_Lk_cS (r := (some (.int (sf_138 r3 r14)))) (st2 := [.int (sf_138 r3 r14), .ref 42]) (pc2 := 142) (k2 := 138) (as := [.int r3, .int r14]) (rest := [.ref 42]) rfl rfl (by decide) (Nat.le_of_ble_eq_true rfl) rfl rfl ⟨Nat.le_of_ble_eq_true rfl, Nat.le_of_ble_eq_true rfl⟩ (sl_138 (m := m17) rfl ⟨rfl, rfl⟩) rfl rfl (Nat.le_of_ble_eq_true rfl) (Nat.le_of_ble_eq_true rfl) ?_
    refine sh_Lk_lift (T := m17.T) (I := m17.I) (J := m17.J) (s := m17.s) (pc2 := 145) (lv2 := [(6, .int ((m17.I 48 4) - 1)), (5, .int r6), (4, .int r3), (3, .int r2), (0, .ref 42), (1, .int x1), (2, .int x2)]) (st2 := [.int (x1 + 1), .int (sf_138 r3 r14), .ref 42]) (I2 := m17.I) (J2 := m17.J) (fun hT v kk => ?_) ?_
    · refine sh_w (i := (.iload_n 1)) (len := 1) (pc2 := 143) (lv2 := [(6, .int ((m17.I 48 4) - 1)), (5, .int r6), (4, .int r3), (3, .int r2), (0, .ref 42), (1, .int x1), (2, .int x2)]) (st2 := [.int x1, .int (sf_138 r3 r14), .ref 42]) (h2 := (sh_rep m17.T m17.I m17.J)) rfl rfl rfl ?_
      refine sh_w (i := (.iconst 1)) (len := 1) (pc2 := 144) (lv2 := [(6, .int ((m17.I 48 4) - 1)), (5, .int r6), (4, .int r3), (3, .int r2), (0, .ref 42), (1, .int x1), (2, .int x2)]) (st2 := [.int 1, .int x1, .int (sf_138 r3 r14), .ref 42]) (h2 := (sh_rep m17.T m17.I m17.J)) rfl rfl rfl ?_
      refine sh_w (i := .iadd) (len := 1) (pc2 := 145) (lv2 := [(6, .int ((m17.I 48 4) - 1)), (5, .int r6), (4, .int r3), (3, .int r2), (0, .ref 42), (1, .int x1), (2, .int x2)]) (st2 := [.int (x1 + 1), .int (sf_138 r3 r14), .ref 42]) (h2 := (sh_rep m17.T m17.I m17.J)) rfl rfl rfl ?_
      exact kk
    rcases sh_bt_e e with ⟨m26, e16, rfl⟩ | ⟨r16, m26, e16, e⟩
    · obtain ⟨rfl, rfl⟩ := tg
      exact sh_Lk_tV (k2 := 90) (a := 41) (as := [.ref 42, .int (sf_138 r3 r14), .int (x1 + 1)]) (rest := []) rfl rfl rfl (fun hT => (sh_s41 hT.st)) rfl rfl ⟨Nat.le_of_ble_eq_true rfl, Nat.le_of_ble_eq_true rfl⟩ (sl_90 e16 ⟨rfl, rfl⟩) rfl (Nat.le_of_ble_eq_true rfl) (Nat.le_of_ble_eq_true rfl) (Nat.le_of_ble_eq_true rfl) (Nat.le_of_ble_eq_true rfl) rfl
    refine sh_Lk_cV (r := none) (st2 := []) (pc2 := 148) (k2 := 90) (a := 41) (as := [.ref 42, .int (sf_138 r3 r14), .int (x1 + 1)]) (rest := []) rfl rfl rfl (fun hT => (sh_s41 hT.st)) rfl rfl ⟨Nat.le_of_ble_eq_true rfl, Nat.le_of_ble_eq_true rfl⟩ (sl_90 e16 ⟨rfl, rfl⟩) rfl rfl (Nat.le_of_ble_eq_true rfl) (Nat.le_of_ble_eq_true rfl) ?_
    refine sh_Lk_lift (T := m26.T) (I := m26.I) (J := m26.J) (s := m26.s) (pc2 := 157) (lv2 := [(6, .int ((m17.I 48 4) - 1)), (5, .int r6), (4, .int r3), (3, .int r2), (0, .ref 42), (1, .int x1), (2, .int x2)]) (st2 := [.int r2, .ref 54, .ref 45]) (I2 := m26.I) (J2 := m26.J) (fun hT v kk => ?_) ?_
    · refine sh_w (i := (.aload_n 0)) (len := 1) (pc2 := 149) (lv2 := [(6, .int ((m17.I 48 4) - 1)), (5, .int r6), (4, .int r3), (3, .int r2), (0, .ref 42), (1, .int x1), (2, .int x2)]) (st2 := [.ref 42]) (h2 := (sh_rep m26.T m26.I m26.J)) rfl rfl rfl ?_
      refine sh_gR1 (len := 3) (x := .ref 45) (pc2 := 152) rfl rfl (sh_s41 hT.st) rfl rfl ?_
      refine sh_w (i := (.aload_n 0)) (len := 1) (pc2 := 153) (lv2 := [(6, .int ((m17.I 48 4) - 1)), (5, .int r6), (4, .int r3), (3, .int r2), (0, .ref 42), (1, .int x1), (2, .int x2)]) (st2 := [.ref 42, .ref 45]) (h2 := (sh_rep m26.T m26.I m26.J)) rfl rfl rfl ?_
      refine sh_gR1 (len := 3) (x := .ref 54) (pc2 := 156) rfl rfl (sh_s41 hT.st) rfl rfl ?_
      refine sh_w (i := (.iload_n 3)) (len := 1) (pc2 := 157) (lv2 := [(6, .int ((m17.I 48 4) - 1)), (5, .int r6), (4, .int r3), (3, .int r2), (0, .ref 42), (1, .int x1), (2, .int x2)]) (st2 := [.int r2, .ref 54, .ref 45]) (h2 := (sh_rep m26.T m26.I m26.J)) rfl rfl rfl ?_
      exact kk
    obtain ⟨r17, e17, e⟩ := sh_bc_e e
    refine sh_Lk_cV (r := (some (.int r17))) (st2 := [.int r17, .ref 45]) (pc2 := 160) (k2 := 127) (a := 53) (as := [.ref 54, .int r2]) (rest := [.ref 45]) rfl rfl rfl (fun hT => (sh_s53 hT.st)) rfl rfl ⟨Nat.le_of_ble_eq_true rfl, Nat.le_of_ble_eq_true rfl⟩ (sl_127 e17 ⟨rfl, rfl⟩) rfl rfl (Nat.le_of_ble_eq_true rfl) (Nat.le_of_ble_eq_true rfl) ?_
    refine sh_Lk_lift (T := m26.T) (I := m26.I) (J := m26.J) (s := m26.s) (pc2 := 168) (lv2 := [(6, .int ((m17.I 48 4) - 1)), (5, .int r6), (4, .int r3), (3, .int r2), (0, .ref 42), (1, .int x1), (2, .int x2)]) (st2 := [.int ((m17.I 48 4) - 1), .ref 49, .int r3, .int r17, .ref 45]) (I2 := m26.I) (J2 := m26.J) (fun hT v kk => ?_) ?_
    · refine sh_w (i := (.iload 4)) (len := 2) (pc2 := 162) (lv2 := [(6, .int ((m17.I 48 4) - 1)), (5, .int r6), (4, .int r3), (3, .int r2), (0, .ref 42), (1, .int x1), (2, .int x2)]) (st2 := [.int r3, .int r17, .ref 45]) (h2 := (sh_rep m26.T m26.I m26.J)) rfl rfl rfl ?_
      refine sh_w (i := (.aload_n 0)) (len := 1) (pc2 := 163) (lv2 := [(6, .int ((m17.I 48 4) - 1)), (5, .int r6), (4, .int r3), (3, .int r2), (0, .ref 42), (1, .int x1), (2, .int x2)]) (st2 := [.ref 42, .int r3, .int r17, .ref 45]) (h2 := (sh_rep m26.T m26.I m26.J)) rfl rfl rfl ?_
      refine sh_gR1 (len := 3) (x := .ref 49) (pc2 := 166) rfl rfl (sh_s41 hT.st) rfl rfl ?_
      refine sh_w (i := (.iload 6)) (len := 2) (pc2 := 168) (lv2 := [(6, .int ((m17.I 48 4) - 1)), (5, .int r6), (4, .int r3), (3, .int r2), (0, .ref 42), (1, .int x1), (2, .int x2)]) (st2 := [.int ((m17.I 48 4) - 1), .ref 49, .int r3, .int r17, .ref 45]) (h2 := (sh_rep m26.T m26.I m26.J)) rfl rfl rfl ?_
      exact kk
    obtain ⟨r18, e18, e⟩ := sh_bc_e e
    refine sh_Lk_cV (r := (some (.int r18))) (st2 := [.int r18, .int r3, .int r17, .ref 45]) (pc2 := 171) (k2 := 117) (a := 48) (as := [.ref 49, .int ((m17.I 48 4) - 1)]) (rest := [.int r3, .int r17, .ref 45]) rfl rfl rfl (fun hT => (sh_s48 hT.st)) rfl rfl ⟨Nat.le_of_ble_eq_true rfl, Nat.le_of_ble_eq_true rfl⟩ (sl_117 e18 ⟨rfl, rfl⟩) rfl rfl (Nat.le_of_ble_eq_true rfl) (Nat.le_of_ble_eq_true rfl) ?_
    refine sh_Lk_lift (T := m26.T) (I := m26.I) (J := m26.J) (s := m26.s) (pc2 := 177) (lv2 := [(6, .int ((m17.I 48 4) - 1)), (5, .int r6), (4, .int r3), (3, .int r2), (0, .ref 42), (1, .int x1), (2, .int x2)]) (st2 := [.int ((m17.I 48 4) - 1), .ref 49, .int r18, .int r3, .int r17, .ref 45]) (I2 := m26.I) (J2 := m26.J) (fun hT v kk => ?_) ?_
    · refine sh_w (i := (.aload_n 0)) (len := 1) (pc2 := 172) (lv2 := [(6, .int ((m17.I 48 4) - 1)), (5, .int r6), (4, .int r3), (3, .int r2), (0, .ref 42), (1, .int x1), (2, .int x2)]) (st2 := [.ref 42, .int r18, .int r3, .int r17, .ref 45]) (h2 := (sh_rep m26.T m26.I m26.J)) rfl rfl rfl ?_
      refine sh_gR1 (len := 3) (x := .ref 49) (pc2 := 175) rfl rfl (sh_s41 hT.st) rfl rfl ?_
      refine sh_w (i := (.iload 6)) (len := 2) (pc2 := 177) (lv2 := [(6, .int ((m17.I 48 4) - 1)), (5, .int r6), (4, .int r3), (3, .int r2), (0, .ref 42), (1, .int x1), (2, .int x2)]) (st2 := [.int ((m17.I 48 4) - 1), .ref 49, .int r18, .int r3, .int r17, .ref 45]) (h2 := (sh_rep m26.T m26.I m26.J)) rfl rfl rfl ?_
      exact kk
    obtain ⟨r19, e19, e⟩ := sh_bc_e e
    refine sh_Lk_cV (r := (some (.int r19))) (st2 := [.int r19, .int r18, .int r3, .int r17, .ref 45]) (pc2 := 180) (k2 := 108) (a := 48) (as := [.ref 49, .int ((m17.I 48 4) - 1)]) (rest := [.int r18, .int r3, .int r17, .ref 45]) rfl rfl rfl (fun hT => (sh_s48 hT.st)) rfl rfl ⟨Nat.le_of_ble_eq_true rfl, Nat.le_of_ble_eq_true rfl⟩ (sl_108 e19 ⟨rfl, rfl⟩) rfl rfl (Nat.le_of_ble_eq_true rfl) (Nat.le_of_ble_eq_true rfl) ?_
    refine sh_Lk_lift (T := m26.T) (I := m26.I) (J := m26.J) (s := m26.s) (pc2 := 182) (lv2 := [(6, .int ((m17.I 48 4) - 1)), (5, .int r6), (4, .int r3), (3, .int r2), (0, .ref 42), (1, .int x1), (2, .int x2)]) (st2 := [.int r6, .int r19, .int r18, .int r3, .int r17, .ref 45]) (I2 := m26.I) (J2 := m26.J) (fun hT v kk => ?_) ?_
    · refine sh_w (i := (.iload 5)) (len := 2) (pc2 := 182) (lv2 := [(6, .int ((m17.I 48 4) - 1)), (5, .int r6), (4, .int r3), (3, .int r2), (0, .ref 42), (1, .int x1), (2, .int x2)]) (st2 := [.int r6, .int r19, .int r18, .int r3, .int r17, .ref 45]) (h2 := (sh_rep m26.T m26.I m26.J)) rfl rfl rfl ?_
      exact kk
    obtain ⟨r20, m30, e20, e⟩ := sh_bn_e e
    refine sh_Lk_cV (r := (some (.int r20))) (st2 := [.int r20]) (pc2 := 185) (k2 := 139) (a := 44) (as := [.ref 45, .int r17, .int r3, .int r18, .int r19, .int r6]) (rest := []) rfl rfl rfl (fun hT => (sh_s44 hT.st)) rfl rfl ⟨Nat.le_of_ble_eq_true rfl, Nat.le_of_ble_eq_true rfl⟩ (sl_139 e20 ⟨rfl, rfl⟩) rfl rfl (Nat.le_of_ble_eq_true rfl) (Nat.le_of_ble_eq_true rfl) ?_
    refine sh_Lk_lift (T := m30.T) (I := m30.I) (J := m30.J) (s := m30.s) (pc2 := 187) (lv2 := [(7, .int r20), (6, .int ((m17.I 48 4) - 1)), (5, .int r6), (4, .int r3), (3, .int r2), (0, .ref 42), (1, .int x1), (2, .int x2)]) (st2 := []) (I2 := m30.I) (J2 := m30.J) (fun hT v kk => ?_) ?_
    · refine sh_w (i := (.istore 7)) (len := 2) (pc2 := 187) (lv2 := [(7, .int r20), (6, .int ((m17.I 48 4) - 1)), (5, .int r6), (4, .int r3), (3, .int r2), (0, .ref 42), (1, .int x1), (2, .int x2)]) (st2 := []) (h2 := (sh_rep m30.T m30.I m30.J)) rfl rfl rfl ?_
      exact kk
    exact sh_Lk_sub (sh_sub_c rfl (sh_sub_c rfl (sh_sub_c rfl (sh_sub_c rfl (sh_sub_n))))) (sl_134_187 e tg)
theorem sl_143 {x1 : Int32} {m m2 : sh_X} {o : Outcome} {z : (Unit × sh_X)} (e : sf_143 x1 m = some z) (tg : (sh_tV o m2) z) : sh_Lk 143 0 [(0, .ref 42), (1, .int x1)] [] m o m2 8 200 := by
  unfold sf_143 at e
  refine sh_Lk_lift (T := m.T) (I := m.I) (J := m.J) (s := m.s) (pc2 := 7) (lv2 := [(0, .ref 42), (1, .int x1)]) (st2 := [.int 1024, .int (m.I 41 11)]) (I2 := m.I) (J2 := m.J) (fun hT v kk => ?_) ?_
  · refine sh_w (i := (.aload_n 0)) (len := 1) (pc2 := 1) (lv2 := [(0, .ref 42), (1, .int x1)]) (st2 := [.ref 42]) (h2 := (sh_rep m.T m.I m.J)) rfl rfl rfl ?_
    refine sh_gI1 (len := 3) (x := m.I 41 11) (pc2 := 4) rfl rfl (sh_s41 hT.st) rfl rfl rfl ?_
    refine sh_w (i := (.sipush 1024)) (len := 3) (pc2 := 7) (lv2 := [(0, .ref 42), (1, .int x1)]) (st2 := [.int 1024, .int (m.I 41 11)]) (h2 := (sh_rep m.T m.I m.J)) rfl rfl rfl ?_
    exact kk
  rcases sh_ite e with ⟨c, e⟩ | ⟨c, e⟩
  · refine sh_Lk_lift (T := m.T) (I := m.I) (J := m.J) (s := m.s) (pc2 := 19) (lv2 := [(0, .ref 42), (1, .int x1)]) (st2 := [.int x1, .int (m.I 41 11), .ref 43]) (I2 := m.I) (J2 := m.J) (fun hT v kk => ?_) ?_
    · refine sh_jc (c := .ge) (off := (23)) (pc2 := 10) false rfl (sh_Bgef c) rfl ?_
      refine sh_w (i := (.aload_n 0)) (len := 1) (pc2 := 11) (lv2 := [(0, .ref 42), (1, .int x1)]) (st2 := [.ref 42]) (h2 := (sh_rep m.T m.I m.J)) rfl rfl rfl ?_
      refine sh_gR1 (len := 3) (x := .ref 43) (pc2 := 14) rfl rfl (sh_s41 hT.st) rfl rfl ?_
      refine sh_w (i := (.aload_n 0)) (len := 1) (pc2 := 15) (lv2 := [(0, .ref 42), (1, .int x1)]) (st2 := [.ref 42, .ref 43]) (h2 := (sh_rep m.T m.I m.J)) rfl rfl rfl ?_
      refine sh_gI1 (len := 3) (x := m.I 41 11) (pc2 := 18) rfl rfl (sh_s41 hT.st) rfl rfl rfl ?_
      refine sh_w (i := (.iload_n 1)) (len := 1) (pc2 := 19) (lv2 := [(0, .ref 42), (1, .int x1)]) (st2 := [.int x1, .int (m.I 41 11), .ref 43]) (h2 := (sh_rep m.T m.I m.J)) rfl rfl rfl ?_
      exact kk
    obtain ⟨c, e⟩ := sh_gd e
    refine sh_Lk_lift (T := m.T) (I := m.I) (J := m.J) (s := m.s) (pc2 := 30) (lv2 := [(0, .ref 42), (1, .int x1)]) (st2 := []) (I2 := sh_u2 (sh_u2 m.I 42 (Int32.toNatClampNeg (m.I 41 11)) x1) 41 11 ((m.I 41 11) + 1)) (J2 := m.J) (fun hT v kk => ?_) ?_
    · refine sh_is1 (x := x1) (i := m.I 41 11) (pc2 := 20) rfl (sh_s42 hT.st) (sh_okb1 c) (sh_okb2 c) rfl ?_
      refine sh_w (i := (.aload_n 0)) (len := 1) (pc2 := 21) (lv2 := [(0, .ref 42), (1, .int x1)]) (st2 := [.ref 42]) (h2 := (sh_rep m.T (sh_u2 m.I 42 (Int32.toNatClampNeg (m.I 41 11)) x1) m.J)) rfl rfl rfl ?_
      refine sh_w (i := .dup) (len := 1) (pc2 := 22) (lv2 := [(0, .ref 42), (1, .int x1)]) (st2 := [.ref 42, .ref 42]) (h2 := (sh_rep m.T (sh_u2 m.I 42 (Int32.toNatClampNeg (m.I 41 11)) x1) m.J)) rfl rfl rfl ?_
      refine sh_gI1 (len := 3) (x := m.I 41 11) (pc2 := 25) rfl rfl (sh_s41 hT.st) rfl rfl rfl ?_
      refine sh_w (i := (.iconst 1)) (len := 1) (pc2 := 26) (lv2 := [(0, .ref 42), (1, .int x1)]) (st2 := [.int 1, .int (m.I 41 11), .ref 42]) (h2 := (sh_rep m.T (sh_u2 m.I 42 (Int32.toNatClampNeg (m.I 41 11)) x1) m.J)) rfl rfl rfl ?_
      refine sh_w (i := .iadd) (len := 1) (pc2 := 27) (lv2 := [(0, .ref 42), (1, .int x1)]) (st2 := [.int ((m.I 41 11) + 1), .ref 42]) (h2 := (sh_rep m.T (sh_u2 m.I 42 (Int32.toNatClampNeg (m.I 41 11)) x1) m.J)) rfl rfl rfl ?_
      refine sh_pI1 (x := (m.I 41 11) + 1) (pc2 := 30) rfl rfl (sh_s41 hT.st) rfl rfl rfl rfl ?_
      exact kk
    obtain rfl := Option.some.inj e
    obtain ⟨rfl, rfl⟩ := tg
    exact sh_Lk_ret (i := .return_) rfl rfl rfl (Nat.le_of_ble_eq_true rfl) (Nat.le_of_ble_eq_true rfl)
  · refine sh_Lk_lift (T := m.T) (I := m.I) (J := m.J) (s := m.s) (pc2 := 30) (lv2 := [(0, .ref 42), (1, .int x1)]) (st2 := []) (I2 := m.I) (J2 := m.J) (fun hT v kk => ?_) ?_
    · refine sh_jc (c := .ge) (off := (23)) (pc2 := 30) true rfl (sh_Bget c) rfl ?_
      exact kk
    obtain rfl := Option.some.inj e
    obtain ⟨rfl, rfl⟩ := tg
    exact sh_Lk_ret (i := .return_) rfl rfl rfl (Nat.le_of_ble_eq_true rfl) (Nat.le_of_ble_eq_true rfl)
theorem sl_142 {x1 : Int32} {m m2 : sh_X} {o : Outcome} {z : (Option Unit × sh_X)} (e : sf_142 x1 m = some z) (tg : (sh_tVt o m2) z) : sh_Lk 142 0 [(0, .ref 42), (1, .int x1)] [] m o m2 12 294 := by
  unfold sf_142 at e
  refine sh_Lk_lift (T := m.T) (I := m.I) (J := m.J) (s := m.s) (pc2 := 13) (lv2 := [(0, .ref 42), (1, .int x1)]) (st2 := [.int 160, .int ((m.I 48 4) - 1), .ref 42]) (I2 := m.I) (J2 := m.J) (fun hT v kk => ?_) ?_
  · refine sh_w (i := (.aload_n 0)) (len := 1) (pc2 := 1) (lv2 := [(0, .ref 42), (1, .int x1)]) (st2 := [.ref 42]) (h2 := (sh_rep m.T m.I m.J)) rfl rfl rfl ?_
    refine sh_w (i := (.aload_n 0)) (len := 1) (pc2 := 2) (lv2 := [(0, .ref 42), (1, .int x1)]) (st2 := [.ref 42, .ref 42]) (h2 := (sh_rep m.T m.I m.J)) rfl rfl rfl ?_
    refine sh_gR1 (len := 3) (x := .ref 49) (pc2 := 5) rfl rfl (sh_s41 hT.st) rfl rfl ?_
    refine sh_gI1 (len := 3) (x := m.I 48 4) (pc2 := 8) rfl rfl (sh_s48 hT.st) rfl rfl rfl ?_
    refine sh_w (i := (.iconst 1)) (len := 1) (pc2 := 9) (lv2 := [(0, .ref 42), (1, .int x1)]) (st2 := [.int 1, .int (m.I 48 4), .ref 42]) (h2 := (sh_rep m.T m.I m.J)) rfl rfl rfl ?_
    refine sh_w (i := .isub) (len := 1) (pc2 := 10) (lv2 := [(0, .ref 42), (1, .int x1)]) (st2 := [.int ((m.I 48 4) - 1), .ref 42]) (h2 := (sh_rep m.T m.I m.J)) rfl rfl rfl ?_
    refine sh_w (i := (.sipush 160)) (len := 3) (pc2 := 13) (lv2 := [(0, .ref 42), (1, .int x1)]) (st2 := [.int 160, .int ((m.I 48 4) - 1), .ref 42]) (h2 := (sh_rep m.T m.I m.J)) rfl rfl rfl ?_
    exact kk
  rcases sh_bt_e e with ⟨m11, e1, rfl⟩ | ⟨r1, m11, e1, e⟩
  · obtain ⟨rfl, rfl⟩ := tg
    exact sh_Lk_tV (k2 := 107) (a := 41) (as := [.ref 42, .int ((m.I 48 4) - 1), .int 160]) (rest := []) rfl rfl rfl (fun hT => (sh_s41 hT.st)) rfl rfl ⟨Nat.le_of_ble_eq_true rfl, Nat.le_of_ble_eq_true rfl⟩ (sl_107 e1 ⟨rfl, rfl⟩) rfl (Nat.le_of_ble_eq_true rfl) (Nat.le_of_ble_eq_true rfl) (Nat.le_of_ble_eq_true rfl) (Nat.le_of_ble_eq_true rfl) rfl
  refine sh_Lk_cV (r := none) (st2 := []) (pc2 := 16) (k2 := 107) (a := 41) (as := [.ref 42, .int ((m.I 48 4) - 1), .int 160]) (rest := []) rfl rfl rfl (fun hT => (sh_s41 hT.st)) rfl rfl ⟨Nat.le_of_ble_eq_true rfl, Nat.le_of_ble_eq_true rfl⟩ (sl_107 e1 ⟨rfl, rfl⟩) rfl rfl (Nat.le_of_ble_eq_true rfl) (Nat.le_of_ble_eq_true rfl) ?_
  refine sh_Lk_lift (T := m11.T) (I := m11.I) (J := m11.J) (s := m11.s) (pc2 := 21) (lv2 := [(0, .ref 42), (1, .int x1)]) (st2 := [.int x1, .int 257, .ref 42]) (I2 := m11.I) (J2 := m11.J) (fun hT v kk => ?_) ?_
  · refine sh_w (i := (.aload_n 0)) (len := 1) (pc2 := 17) (lv2 := [(0, .ref 42), (1, .int x1)]) (st2 := [.ref 42]) (h2 := (sh_rep m11.T m11.I m11.J)) rfl rfl rfl ?_
    refine sh_w (i := (.sipush 257)) (len := 3) (pc2 := 20) (lv2 := [(0, .ref 42), (1, .int x1)]) (st2 := [.int 257, .ref 42]) (h2 := (sh_rep m11.T m11.I m11.J)) rfl rfl rfl ?_
    refine sh_w (i := (.iload_n 1)) (len := 1) (pc2 := 21) (lv2 := [(0, .ref 42), (1, .int x1)]) (st2 := [.int x1, .int 257, .ref 42]) (h2 := (sh_rep m11.T m11.I m11.J)) rfl rfl rfl ?_
    exact kk
  rcases sh_bt_e e with ⟨m12, e2, rfl⟩ | ⟨r2, m12, e2, e⟩
  · obtain ⟨rfl, rfl⟩ := tg
    exact sh_Lk_tV (k2 := 125) (a := 41) (as := [.ref 42, .int 257, .int x1]) (rest := []) rfl rfl rfl (fun hT => (sh_s41 hT.st)) rfl rfl ⟨Nat.le_of_ble_eq_true rfl, Nat.le_of_ble_eq_true rfl⟩ (sl_125 e2 ⟨rfl, rfl⟩) rfl (Nat.le_of_ble_eq_true rfl) (Nat.le_of_ble_eq_true rfl) (Nat.le_of_ble_eq_true rfl) (Nat.le_of_ble_eq_true rfl) rfl
  refine sh_Lk_cV (r := none) (st2 := []) (pc2 := 24) (k2 := 125) (a := 41) (as := [.ref 42, .int 257, .int x1]) (rest := []) rfl rfl rfl (fun hT => (sh_s41 hT.st)) rfl rfl ⟨Nat.le_of_ble_eq_true rfl, Nat.le_of_ble_eq_true rfl⟩ (sl_125 e2 ⟨rfl, rfl⟩) rfl rfl (Nat.le_of_ble_eq_true rfl) (Nat.le_of_ble_eq_true rfl) ?_
  refine sh_Lk_lift (T := m12.T) (I := m12.I) (J := m12.J) (s := m12.s) (pc2 := 41) (lv2 := [(0, .ref 42), (1, .int x1)]) (st2 := [.int ((m12.I 48 4) - 1), .ref 49, .ref 45]) (I2 := m12.I) (J2 := m12.J) (fun hT v kk => ?_) ?_
  · refine sh_w (i := (.aload_n 0)) (len := 1) (pc2 := 25) (lv2 := [(0, .ref 42), (1, .int x1)]) (st2 := [.ref 42]) (h2 := (sh_rep m12.T m12.I m12.J)) rfl rfl rfl ?_
    refine sh_gR1 (len := 3) (x := .ref 45) (pc2 := 28) rfl rfl (sh_s41 hT.st) rfl rfl ?_
    refine sh_w (i := (.aload_n 0)) (len := 1) (pc2 := 29) (lv2 := [(0, .ref 42), (1, .int x1)]) (st2 := [.ref 42, .ref 45]) (h2 := (sh_rep m12.T m12.I m12.J)) rfl rfl rfl ?_
    refine sh_gR1 (len := 3) (x := .ref 49) (pc2 := 32) rfl rfl (sh_s41 hT.st) rfl rfl ?_
    refine sh_w (i := (.aload_n 0)) (len := 1) (pc2 := 33) (lv2 := [(0, .ref 42), (1, .int x1)]) (st2 := [.ref 42, .ref 49, .ref 45]) (h2 := (sh_rep m12.T m12.I m12.J)) rfl rfl rfl ?_
    refine sh_gR1 (len := 3) (x := .ref 49) (pc2 := 36) rfl rfl (sh_s41 hT.st) rfl rfl ?_
    refine sh_gI1 (len := 3) (x := m12.I 48 4) (pc2 := 39) rfl rfl (sh_s48 hT.st) rfl rfl rfl ?_
    refine sh_w (i := (.iconst 1)) (len := 1) (pc2 := 40) (lv2 := [(0, .ref 42), (1, .int x1)]) (st2 := [.int 1, .int (m12.I 48 4), .ref 49, .ref 45]) (h2 := (sh_rep m12.T m12.I m12.J)) rfl rfl rfl ?_
    refine sh_w (i := .isub) (len := 1) (pc2 := 41) (lv2 := [(0, .ref 42), (1, .int x1)]) (st2 := [.int ((m12.I 48 4) - 1), .ref 49, .ref 45]) (h2 := (sh_rep m12.T m12.I m12.J)) rfl rfl rfl ?_
    exact kk
  obtain ⟨r3, e3, e⟩ := sh_bc_e e
  refine sh_Lk_cV (r := (some (.int r3))) (st2 := [.int r3, .ref 45]) (pc2 := 44) (k2 := 117) (a := 48) (as := [.ref 49, .int ((m12.I 48 4) - 1)]) (rest := [.ref 45]) rfl rfl rfl (fun hT => (sh_s48 hT.st)) rfl rfl ⟨Nat.le_of_ble_eq_true rfl, Nat.le_of_ble_eq_true rfl⟩ (sl_117 e3 ⟨rfl, rfl⟩) rfl rfl (Nat.le_of_ble_eq_true rfl) (Nat.le_of_ble_eq_true rfl) ?_
  obtain ⟨r4, e4, e⟩ := sh_bc_e e
  refine sh_Lk_cV (r := (some (.int r4))) (st2 := [.int r4]) (pc2 := 47) (k2 := 103) (a := 44) (as := [.ref 45, .int r3]) (rest := []) rfl rfl rfl (fun hT => (sh_s44 hT.st)) rfl rfl ⟨Nat.le_of_ble_eq_true rfl, Nat.le_of_ble_eq_true rfl⟩ (sl_103 e4 ⟨rfl, rfl⟩) rfl rfl (Nat.le_of_ble_eq_true rfl) (Nat.le_of_ble_eq_true rfl) ?_
  refine sh_Lk_lift (T := m12.T) (I := m12.I) (J := m12.J) (s := m12.s) (pc2 := 53) (lv2 := [(2, .int r4), (0, .ref 42), (1, .int x1)]) (st2 := [.int 1, .ref 49]) (I2 := m12.I) (J2 := m12.J) (fun hT v kk => ?_) ?_
  · refine sh_w (i := (.istore_n 2)) (len := 1) (pc2 := 48) (lv2 := [(2, .int r4), (0, .ref 42), (1, .int x1)]) (st2 := []) (h2 := (sh_rep m12.T m12.I m12.J)) rfl rfl rfl ?_
    refine sh_w (i := (.aload_n 0)) (len := 1) (pc2 := 49) (lv2 := [(2, .int r4), (0, .ref 42), (1, .int x1)]) (st2 := [.ref 42]) (h2 := (sh_rep m12.T m12.I m12.J)) rfl rfl rfl ?_
    refine sh_gR1 (len := 3) (x := .ref 49) (pc2 := 52) rfl rfl (sh_s41 hT.st) rfl rfl ?_
    refine sh_w (i := (.iconst 1)) (len := 1) (pc2 := 53) (lv2 := [(2, .int r4), (0, .ref 42), (1, .int x1)]) (st2 := [.int 1, .ref 49]) (h2 := (sh_rep m12.T m12.I m12.J)) rfl rfl rfl ?_
    exact kk
  obtain ⟨r5, m15, e5, e⟩ := sh_bn_e e
  refine sh_Lk_cV (r := none) (st2 := []) (pc2 := 56) (k2 := 118) (a := 48) (as := [.ref 49, .int 1]) (rest := []) rfl rfl rfl (fun hT => (sh_s48 hT.st)) rfl rfl ⟨Nat.le_of_ble_eq_true rfl, Nat.le_of_ble_eq_true rfl⟩ (sl_118 e5 ⟨rfl, rfl⟩) rfl rfl (Nat.le_of_ble_eq_true rfl) (Nat.le_of_ble_eq_true rfl) ?_
  refine sh_Lk_lift (T := m15.T) (I := m15.I) (J := m15.J) (s := m15.s) (pc2 := 58) (lv2 := [(2, .int r4), (0, .ref 42), (1, .int x1)]) (st2 := [.int r4, .ref 42]) (I2 := m15.I) (J2 := m15.J) (fun hT v kk => ?_) ?_
  · refine sh_w (i := (.aload_n 0)) (len := 1) (pc2 := 57) (lv2 := [(2, .int r4), (0, .ref 42), (1, .int x1)]) (st2 := [.ref 42]) (h2 := (sh_rep m15.T m15.I m15.J)) rfl rfl rfl ?_
    refine sh_w (i := (.iload_n 2)) (len := 1) (pc2 := 58) (lv2 := [(2, .int r4), (0, .ref 42), (1, .int x1)]) (st2 := [.int r4, .ref 42]) (h2 := (sh_rep m15.T m15.I m15.J)) rfl rfl rfl ?_
    exact kk
  obtain ⟨r6, m16, e6, e⟩ := sh_bn_e e
  refine sh_Lk_cV (r := none) (st2 := []) (pc2 := 61) (k2 := 143) (a := 41) (as := [.ref 42, .int r4]) (rest := []) rfl rfl rfl (fun hT => (sh_s41 hT.st)) rfl rfl ⟨Nat.le_of_ble_eq_true rfl, Nat.le_of_ble_eq_true rfl⟩ (sl_143 e6 ⟨rfl, rfl⟩) rfl rfl (Nat.le_of_ble_eq_true rfl) (Nat.le_of_ble_eq_true rfl) ?_
  refine sh_Lk_lift (T := m16.T) (I := m16.I) (J := m16.J) (s := m16.s) (pc2 := 66) (lv2 := [(2, .int r4), (0, .ref 42), (1, .int x1)]) (st2 := [.int (m16.I 41 15), .ref 42]) (I2 := m16.I) (J2 := m16.J) (fun hT v kk => ?_) ?_
  · refine sh_w (i := (.aload_n 0)) (len := 1) (pc2 := 62) (lv2 := [(2, .int r4), (0, .ref 42), (1, .int x1)]) (st2 := [.ref 42]) (h2 := (sh_rep m16.T m16.I m16.J)) rfl rfl rfl ?_
    refine sh_w (i := (.aload_n 0)) (len := 1) (pc2 := 63) (lv2 := [(2, .int r4), (0, .ref 42), (1, .int x1)]) (st2 := [.ref 42, .ref 42]) (h2 := (sh_rep m16.T m16.I m16.J)) rfl rfl rfl ?_
    refine sh_gI1 (len := 3) (x := m16.I 41 15) (pc2 := 66) rfl rfl (sh_s41 hT.st) rfl rfl rfl ?_
    exact kk
  obtain ⟨r7, m17, e7, e⟩ := sh_bn_e e
  refine sh_Lk_cV (r := none) (st2 := []) (pc2 := 69) (k2 := 143) (a := 41) (as := [.ref 42, .int (m16.I 41 15)]) (rest := []) rfl rfl rfl (fun hT => (sh_s41 hT.st)) rfl rfl ⟨Nat.le_of_ble_eq_true rfl, Nat.le_of_ble_eq_true rfl⟩ (sl_143 e7 ⟨rfl, rfl⟩) rfl rfl (Nat.le_of_ble_eq_true rfl) (Nat.le_of_ble_eq_true rfl) ?_
  refine sh_Lk_lift (T := m17.T) (I := m17.I) (J := m17.J) (s := m17.s) (pc2 := 77) (lv2 := [(2, .int r4), (0, .ref 42), (1, .int x1)]) (st2 := [.int (m17.I 53 4), .ref 42]) (I2 := m17.I) (J2 := m17.J) (fun hT v kk => ?_) ?_
  · refine sh_w (i := (.aload_n 0)) (len := 1) (pc2 := 70) (lv2 := [(2, .int r4), (0, .ref 42), (1, .int x1)]) (st2 := [.ref 42]) (h2 := (sh_rep m17.T m17.I m17.J)) rfl rfl rfl ?_
    refine sh_w (i := (.aload_n 0)) (len := 1) (pc2 := 71) (lv2 := [(2, .int r4), (0, .ref 42), (1, .int x1)]) (st2 := [.ref 42, .ref 42]) (h2 := (sh_rep m17.T m17.I m17.J)) rfl rfl rfl ?_
    refine sh_gR1 (len := 3) (x := .ref 54) (pc2 := 74) rfl rfl (sh_s41 hT.st) rfl rfl ?_
    refine sh_gI1 (len := 3) (x := m17.I 53 4) (pc2 := 77) rfl rfl (sh_s53 hT.st) rfl rfl rfl ?_
    exact kk
  obtain ⟨r8, m18, e8, e⟩ := sh_bn_e e
  refine sh_Lk_cV (r := none) (st2 := []) (pc2 := 80) (k2 := 143) (a := 41) (as := [.ref 42, .int (m17.I 53 4)]) (rest := []) rfl rfl rfl (fun hT => (sh_s41 hT.st)) rfl rfl ⟨Nat.le_of_ble_eq_true rfl, Nat.le_of_ble_eq_true rfl⟩ (sl_143 e8 ⟨rfl, rfl⟩) rfl rfl (Nat.le_of_ble_eq_true rfl) (Nat.le_of_ble_eq_true rfl) ?_
  refine sh_Lk_lift (T := m18.T) (I := m18.I) (J := m18.J) (s := m18.s) (pc2 := 90) (lv2 := [(2, .int r4), (0, .ref 42), (1, .int x1)]) (st2 := [.int r4, .int (m18.I 41 15), .ref 10, .ref 42]) (I2 := m18.I) (J2 := m18.J) (fun hT v kk => ?_) ?_
  · refine sh_w (i := (.aload_n 0)) (len := 1) (pc2 := 81) (lv2 := [(2, .int r4), (0, .ref 42), (1, .int x1)]) (st2 := [.ref 42]) (h2 := (sh_rep m18.T m18.I m18.J)) rfl rfl rfl ?_
    refine sh_w (i := (.aload_n 0)) (len := 1) (pc2 := 82) (lv2 := [(2, .int r4), (0, .ref 42), (1, .int x1)]) (st2 := [.ref 42, .ref 42]) (h2 := (sh_rep m18.T m18.I m18.J)) rfl rfl rfl ?_
    refine sh_gR1 (len := 3) (x := .ref 10) (pc2 := 85) rfl rfl (sh_s41 hT.st) rfl rfl ?_
    refine sh_w (i := (.aload_n 0)) (len := 1) (pc2 := 86) (lv2 := [(2, .int r4), (0, .ref 42), (1, .int x1)]) (st2 := [.ref 42, .ref 10, .ref 42]) (h2 := (sh_rep m18.T m18.I m18.J)) rfl rfl rfl ?_
    refine sh_gI1 (len := 3) (x := m18.I 41 15) (pc2 := 89) rfl rfl (sh_s41 hT.st) rfl rfl rfl ?_
    refine sh_w (i := (.iload_n 2)) (len := 1) (pc2 := 90) (lv2 := [(2, .int r4), (0, .ref 42), (1, .int x1)]) (st2 := [.int r4, .int (m18.I 41 15), .ref 10, .ref 42]) (h2 := (sh_rep m18.T m18.I m18.J)) rfl rfl rfl ?_
    exact kk
  obtain ⟨r9, m19, e9, e⟩ := sh_bn_e e
  refine sh_Lk_cV (r := (some (.int r9))) (st2 := [.int r9, .ref 42]) (pc2 := 93) (k2 := 132) (a := 9) (as := [.ref 10, .int (m18.I 41 15), .int r4]) (rest := [.ref 42]) rfl rfl rfl (fun hT => hT.t9) rfl rfl ⟨Nat.le_of_ble_eq_true rfl, Nat.le_of_ble_eq_true rfl⟩ (sl_132 e9 ⟨rfl, rfl⟩) rfl rfl (Nat.le_of_ble_eq_true rfl) (Nat.le_of_ble_eq_true rfl) ?_
  refine sh_Lk_lift (T := m19.T) (I := m19.I) (J := m19.J) (s := m19.s) (pc2 := 106) (lv2 := [(2, .int r4), (0, .ref 42), (1, .int x1)]) (st2 := []) (I2 := sh_u2 (sh_u2 m19.I 41 15 r9) 41 16 ((m19.I 41 16) + 1)) (J2 := m19.J) (fun hT v kk => ?_) ?_
  · refine sh_pI1 (x := r9) (pc2 := 96) rfl rfl (sh_s41 hT.st) rfl rfl rfl rfl ?_
    refine sh_w (i := (.aload_n 0)) (len := 1) (pc2 := 97) (lv2 := [(2, .int r4), (0, .ref 42), (1, .int x1)]) (st2 := [.ref 42]) (h2 := (sh_rep m19.T (sh_u2 m19.I 41 15 r9) m19.J)) rfl rfl rfl ?_
    refine sh_w (i := .dup) (len := 1) (pc2 := 98) (lv2 := [(2, .int r4), (0, .ref 42), (1, .int x1)]) (st2 := [.ref 42, .ref 42]) (h2 := (sh_rep m19.T (sh_u2 m19.I 41 15 r9) m19.J)) rfl rfl rfl ?_
    refine sh_gI1 (len := 3) (x := m19.I 41 16) (pc2 := 101) rfl rfl (sh_s41 hT.st) rfl rfl rfl ?_
    refine sh_w (i := (.iconst 1)) (len := 1) (pc2 := 102) (lv2 := [(2, .int r4), (0, .ref 42), (1, .int x1)]) (st2 := [.int 1, .int (m19.I 41 16), .ref 42]) (h2 := (sh_rep m19.T (sh_u2 m19.I 41 15 r9) m19.J)) rfl rfl rfl ?_
    refine sh_w (i := .iadd) (len := 1) (pc2 := 103) (lv2 := [(2, .int r4), (0, .ref 42), (1, .int x1)]) (st2 := [.int ((m19.I 41 16) + 1), .ref 42]) (h2 := (sh_rep m19.T (sh_u2 m19.I 41 15 r9) m19.J)) rfl rfl rfl ?_
    refine sh_pI1 (x := (m19.I 41 16) + 1) (pc2 := 106) rfl rfl (sh_s41 hT.st) rfl rfl rfl rfl ?_
    exact kk
  obtain rfl := Option.some.inj e
  obtain ⟨rfl, rfl⟩ := tg
  exact sh_Lk_ret (i := .return_) rfl rfl rfl (Nat.le_of_ble_eq_true rfl) (Nat.le_of_ble_eq_true rfl)
theorem sl_145 {x1 : Int32} {m m2 : sh_X} {o : Outcome} {z : Int32} (e : sf_145 x1 m = some z) (tg : (sh_tIc m o m2) z) : sh_Lk 145 0 [(0, .ref 42), (1, .int x1)] [] m o m2 8 200 := by
  unfold sf_145 at e
  refine sh_Lk_lift (T := m.T) (I := m.I) (J := m.J) (s := m.s) (pc2 := 1) (lv2 := [(0, .ref 42), (1, .int x1)]) (st2 := [.int x1]) (I2 := m.I) (J2 := m.J) (fun hT v kk => ?_) ?_
  · refine sh_w (i := (.iload_n 1)) (len := 1) (pc2 := 1) (lv2 := [(0, .ref 42), (1, .int x1)]) (st2 := [.int x1]) (h2 := (sh_rep m.T m.I m.J)) rfl rfl rfl ?_
    exact kk
  rcases sh_ite e with ⟨c, e⟩ | ⟨c, e⟩
  · refine sh_Lk_lift (T := m.T) (I := m.I) (J := m.J) (s := m.s) (pc2 := 9) (lv2 := [(0, .ref 42), (1, .int x1)]) (st2 := [.int (m.I 41 11), .int x1]) (I2 := m.I) (J2 := m.J) (fun hT v kk => ?_) ?_
    · refine sh_j0 (c := .le) (off := (25)) (pc2 := 4) false rfl (sh_Blef c) rfl ?_
      refine sh_w (i := (.iload_n 1)) (len := 1) (pc2 := 5) (lv2 := [(0, .ref 42), (1, .int x1)]) (st2 := [.int x1]) (h2 := (sh_rep m.T m.I m.J)) rfl rfl rfl ?_
      refine sh_w (i := (.aload_n 0)) (len := 1) (pc2 := 6) (lv2 := [(0, .ref 42), (1, .int x1)]) (st2 := [.ref 42, .int x1]) (h2 := (sh_rep m.T m.I m.J)) rfl rfl rfl ?_
      refine sh_gI1 (len := 3) (x := m.I 41 11) (pc2 := 9) rfl rfl (sh_s41 hT.st) rfl rfl rfl ?_
      exact kk
    rcases sh_ite e with ⟨c, e⟩ | ⟨c, e⟩
    · refine sh_Lk_lift (T := m.T) (I := m.I) (J := m.J) (s := m.s) (pc2 := 27) (lv2 := [(0, .ref 42), (1, .int x1)]) (st2 := [.int 0]) (I2 := m.I) (J2 := m.J) (fun hT v kk => ?_) ?_
      · refine sh_jc (c := .gt) (off := (17)) (pc2 := 26) true rfl (sh_Bgtt c) rfl ?_
        refine sh_w (i := (.iconst 0)) (len := 1) (pc2 := 27) (lv2 := [(0, .ref 42), (1, .int x1)]) (st2 := [.int 0]) (h2 := (sh_rep m.T m.I m.J)) rfl rfl rfl ?_
        exact kk
      obtain rfl := Option.some.inj e
      obtain ⟨rfl, rfl⟩ := tg
      exact sh_Lk_ret (i := .ireturn) rfl rfl rfl (Nat.le_of_ble_eq_true rfl) (Nat.le_of_ble_eq_true rfl)
    · refine sh_Lk_lift (T := m.T) (I := m.I) (J := m.J) (s := m.s) (pc2 := 22) (lv2 := [(0, .ref 42), (1, .int x1)]) (st2 := [.int ((m.I 41 11) - x1), .ref 43]) (I2 := m.I) (J2 := m.J) (fun hT v kk => ?_) ?_
      · refine sh_jc (c := .gt) (off := (17)) (pc2 := 12) false rfl (sh_Bgtf c) rfl ?_
        refine sh_w (i := (.aload_n 0)) (len := 1) (pc2 := 13) (lv2 := [(0, .ref 42), (1, .int x1)]) (st2 := [.ref 42]) (h2 := (sh_rep m.T m.I m.J)) rfl rfl rfl ?_
        refine sh_gR1 (len := 3) (x := .ref 43) (pc2 := 16) rfl rfl (sh_s41 hT.st) rfl rfl ?_
        refine sh_w (i := (.aload_n 0)) (len := 1) (pc2 := 17) (lv2 := [(0, .ref 42), (1, .int x1)]) (st2 := [.ref 42, .ref 43]) (h2 := (sh_rep m.T m.I m.J)) rfl rfl rfl ?_
        refine sh_gI1 (len := 3) (x := m.I 41 11) (pc2 := 20) rfl rfl (sh_s41 hT.st) rfl rfl rfl ?_
        refine sh_w (i := (.iload_n 1)) (len := 1) (pc2 := 21) (lv2 := [(0, .ref 42), (1, .int x1)]) (st2 := [.int x1, .int (m.I 41 11), .ref 43]) (h2 := (sh_rep m.T m.I m.J)) rfl rfl rfl ?_
        refine sh_w (i := .isub) (len := 1) (pc2 := 22) (lv2 := [(0, .ref 42), (1, .int x1)]) (st2 := [.int ((m.I 41 11) - x1), .ref 43]) (h2 := (sh_rep m.T m.I m.J)) rfl rfl rfl ?_
        exact kk
      obtain ⟨c, e⟩ := sh_gd e
      refine sh_Lk_lift (T := m.T) (I := m.I) (J := m.J) (s := m.s) (pc2 := 27) (lv2 := [(0, .ref 42), (1, .int x1)]) (st2 := [.int (m.I 42 (Int32.toNatClampNeg ((m.I 41 11) - x1)))]) (I2 := m.I) (J2 := m.J) (fun hT v kk => ?_) ?_
      · refine sh_ia1 (x := m.I 42 (Int32.toNatClampNeg ((m.I 41 11) - x1))) (pc2 := 23) rfl (sh_s42 hT.st) (sh_okb1 c) (sh_okb2 c) rfl rfl ?_
        refine sh_w (i := (.goto 4)) (len := 3) (pc2 := 27) (lv2 := [(0, .ref 42), (1, .int x1)]) (st2 := [.int (m.I 42 (Int32.toNatClampNeg ((m.I 41 11) - x1)))]) (h2 := (sh_rep m.T m.I m.J)) rfl rfl rfl ?_
        exact kk
      obtain rfl := Option.some.inj e
      obtain ⟨rfl, rfl⟩ := tg
      exact sh_Lk_ret (i := .ireturn) rfl rfl rfl (Nat.le_of_ble_eq_true rfl) (Nat.le_of_ble_eq_true rfl)
  · refine sh_Lk_lift (T := m.T) (I := m.I) (J := m.J) (s := m.s) (pc2 := 27) (lv2 := [(0, .ref 42), (1, .int x1)]) (st2 := [.int 0]) (I2 := m.I) (J2 := m.J) (fun hT v kk => ?_) ?_
    · refine sh_j0 (c := .le) (off := (25)) (pc2 := 26) true rfl (sh_Blet c) rfl ?_
      refine sh_w (i := (.iconst 0)) (len := 1) (pc2 := 27) (lv2 := [(0, .ref 42), (1, .int x1)]) (st2 := [.int 0]) (h2 := (sh_rep m.T m.I m.J)) rfl rfl rfl ?_
      exact kk
    obtain rfl := Option.some.inj e
    obtain ⟨rfl, rfl⟩ := tg
    exact sh_Lk_ret (i := .ireturn) rfl rfl rfl (Nat.le_of_ble_eq_true rfl) (Nat.le_of_ble_eq_true rfl)
theorem sl_146 {x1 : Int32} {m m2 : sh_X} {o : Outcome} {z : (Unit × sh_X)} (e : sf_146 x1 m = some z) (tg : (sh_tV o m2) z) : sh_Lk 146 0 [(0, .ref 54), (1, .int x1)] [] m o m2 9 221 := by
  unfold sf_146 at e
  refine sh_Lk_lift (T := m.T) (I := m.I) (J := m.J) (s := m.s) (pc2 := 7) (lv2 := [(0, .ref 54), (1, .int x1)]) (st2 := [.int x1, .int (m.I 53 4), .int 0, .ref 54]) (I2 := m.I) (J2 := m.J) (fun hT v kk => ?_) ?_
  · refine sh_w (i := (.aload_n 0)) (len := 1) (pc2 := 1) (lv2 := [(0, .ref 54), (1, .int x1)]) (st2 := [.ref 54]) (h2 := (sh_rep m.T m.I m.J)) rfl rfl rfl ?_
    refine sh_w (i := (.iconst 0)) (len := 1) (pc2 := 2) (lv2 := [(0, .ref 54), (1, .int x1)]) (st2 := [.int 0, .ref 54]) (h2 := (sh_rep m.T m.I m.J)) rfl rfl rfl ?_
    refine sh_w (i := (.aload_n 0)) (len := 1) (pc2 := 3) (lv2 := [(0, .ref 54), (1, .int x1)]) (st2 := [.ref 54, .int 0, .ref 54]) (h2 := (sh_rep m.T m.I m.J)) rfl rfl rfl ?_
    refine sh_gI1 (len := 3) (x := m.I 53 4) (pc2 := 6) rfl rfl (sh_s53 hT.st) rfl rfl rfl ?_
    refine sh_w (i := (.iload_n 1)) (len := 1) (pc2 := 7) (lv2 := [(0, .ref 54), (1, .int x1)]) (st2 := [.int x1, .int (m.I 53 4), .int 0, .ref 54]) (h2 := (sh_rep m.T m.I m.J)) rfl rfl rfl ?_
    exact kk
  refine sh_Lk_cS (r := (some (.int (sf_21 (m.I 53 4) x1)))) (st2 := [.int (sf_21 (m.I 53 4) x1), .int 0, .ref 54]) (pc2 := 10) (k2 := 21) (as := [.int (m.I 53 4), .int x1]) (rest := [.int 0, .ref 54]) rfl rfl (by decide) (Nat.le_of_ble_eq_true rfl) rfl rfl ⟨Nat.le_of_ble_eq_true rfl, Nat.le_of_ble_eq_true rfl⟩ (sl_21 (m := m) rfl ⟨rfl, rfl⟩) rfl rfl (Nat.le_of_ble_eq_true rfl) (Nat.le_of_ble_eq_true rfl) ?_
  refine sh_Lk_cS (r := (some (.int (sf_42 0 (sf_21 (m.I 53 4) x1))))) (st2 := [.int (sf_42 0 (sf_21 (m.I 53 4) x1)), .ref 54]) (pc2 := 13) (k2 := 42) (as := [.int 0, .int (sf_21 (m.I 53 4) x1)]) (rest := [.ref 54]) rfl rfl (by decide) (Nat.le_of_ble_eq_true rfl) rfl rfl ⟨Nat.le_of_ble_eq_true rfl, Nat.le_of_ble_eq_true rfl⟩ (sl_42 (m := m) rfl ⟨rfl, rfl⟩) rfl rfl (Nat.le_of_ble_eq_true rfl) (Nat.le_of_ble_eq_true rfl) ?_
  refine sh_Lk_lift (T := m.T) (I := m.I) (J := m.J) (s := m.s) (pc2 := 16) (lv2 := [(0, .ref 54), (1, .int x1)]) (st2 := []) (I2 := sh_u2 m.I 53 4 (sf_42 0 (sf_21 (m.I 53 4) x1))) (J2 := m.J) (fun hT v kk => ?_) ?_
  · refine sh_pI1 (x := sf_42 0 (sf_21 (m.I 53 4) x1)) (pc2 := 16) rfl rfl (sh_s53 hT.st) rfl rfl rfl rfl ?_
    exact kk
  obtain rfl := Option.some.inj e
  obtain ⟨rfl, rfl⟩ := tg
  exact sh_Lk_ret (i := .return_) rfl rfl rfl (Nat.le_of_ble_eq_true rfl) (Nat.le_of_ble_eq_true rfl)
theorem sl_144 {m m2 : sh_X} {o : Outcome} {z : (Unit × sh_X)} (e : sf_144 m = some z) (tg : (sh_tV o m2) z) : sh_Lk 144 0 [(0, .ref 42)] [] m o m2 13 309 := by
  unfold sf_144 at e
  refine sh_Lk_lift (T := m.T) (I := m.I) (J := m.J) (s := m.s) (pc2 := 6) (lv2 := [(0, .ref 42)]) (st2 := [.int 1, .ref 42, .ref 54]) (I2 := m.I) (J2 := m.J) (fun hT v kk => ?_) ?_
  · refine sh_w (i := (.aload_n 0)) (len := 1) (pc2 := 1) (lv2 := [(0, .ref 42)]) (st2 := [.ref 42]) (h2 := (sh_rep m.T m.I m.J)) rfl rfl rfl ?_
    refine sh_gR1 (len := 3) (x := .ref 54) (pc2 := 4) rfl rfl (sh_s41 hT.st) rfl rfl ?_
    refine sh_w (i := (.aload_n 0)) (len := 1) (pc2 := 5) (lv2 := [(0, .ref 42)]) (st2 := [.ref 42, .ref 54]) (h2 := (sh_rep m.T m.I m.J)) rfl rfl rfl ?_
    refine sh_w (i := (.iconst 1)) (len := 1) (pc2 := 6) (lv2 := [(0, .ref 42)]) (st2 := [.int 1, .ref 42, .ref 54]) (h2 := (sh_rep m.T m.I m.J)) rfl rfl rfl ?_
    exact kk
  obtain ⟨r1, e1, e⟩ := sh_bc_e e
  refine sh_Lk_cV (r := (some (.int r1))) (st2 := [.int r1, .ref 54]) (pc2 := 9) (k2 := 145) (a := 41) (as := [.ref 42, .int 1]) (rest := [.ref 54]) rfl rfl rfl (fun hT => (sh_s41 hT.st)) rfl rfl ⟨Nat.le_of_ble_eq_true rfl, Nat.le_of_ble_eq_true rfl⟩ (sl_145 e1 ⟨rfl, rfl⟩) rfl rfl (Nat.le_of_ble_eq_true rfl) (Nat.le_of_ble_eq_true rfl) ?_
  obtain ⟨r2, m12, e2, e⟩ := sh_bn_e e
  refine sh_Lk_cV (r := none) (st2 := []) (pc2 := 12) (k2 := 146) (a := 53) (as := [.ref 54, .int r1]) (rest := []) rfl rfl rfl (fun hT => (sh_s53 hT.st)) rfl rfl ⟨Nat.le_of_ble_eq_true rfl, Nat.le_of_ble_eq_true rfl⟩ (sl_146 e2 ⟨rfl, rfl⟩) rfl rfl (Nat.le_of_ble_eq_true rfl) (Nat.le_of_ble_eq_true rfl) ?_
  refine sh_Lk_lift (T := m12.T) (I := m12.I) (J := m12.J) (s := m12.s) (pc2 := 19) (lv2 := [(0, .ref 42)]) (st2 := [.int 2, .ref 42, .ref 10, .ref 42]) (I2 := m12.I) (J2 := m12.J) (fun hT v kk => ?_) ?_
  · refine sh_w (i := (.aload_n 0)) (len := 1) (pc2 := 13) (lv2 := [(0, .ref 42)]) (st2 := [.ref 42]) (h2 := (sh_rep m12.T m12.I m12.J)) rfl rfl rfl ?_
    refine sh_w (i := (.aload_n 0)) (len := 1) (pc2 := 14) (lv2 := [(0, .ref 42)]) (st2 := [.ref 42, .ref 42]) (h2 := (sh_rep m12.T m12.I m12.J)) rfl rfl rfl ?_
    refine sh_gR1 (len := 3) (x := .ref 10) (pc2 := 17) rfl rfl (sh_s41 hT.st) rfl rfl ?_
    refine sh_w (i := (.aload_n 0)) (len := 1) (pc2 := 18) (lv2 := [(0, .ref 42)]) (st2 := [.ref 42, .ref 10, .ref 42]) (h2 := (sh_rep m12.T m12.I m12.J)) rfl rfl rfl ?_
    refine sh_w (i := (.iconst 2)) (len := 1) (pc2 := 19) (lv2 := [(0, .ref 42)]) (st2 := [.int 2, .ref 42, .ref 10, .ref 42]) (h2 := (sh_rep m12.T m12.I m12.J)) rfl rfl rfl ?_
    exact kk
  obtain ⟨r3, e3, e⟩ := sh_bc_e e
  refine sh_Lk_cV (r := (some (.int r3))) (st2 := [.int r3, .ref 10, .ref 42]) (pc2 := 22) (k2 := 145) (a := 41) (as := [.ref 42, .int 2]) (rest := [.ref 10, .ref 42]) rfl rfl rfl (fun hT => (sh_s41 hT.st)) rfl rfl ⟨Nat.le_of_ble_eq_true rfl, Nat.le_of_ble_eq_true rfl⟩ (sl_145 e3 ⟨rfl, rfl⟩) rfl rfl (Nat.le_of_ble_eq_true rfl) (Nat.le_of_ble_eq_true rfl) ?_
  refine sh_Lk_lift (T := m12.T) (I := m12.I) (J := m12.J) (s := m12.s) (pc2 := 28) (lv2 := [(0, .ref 42)]) (st2 := [.int 3, .ref 42, .ref 10, .int r3, .ref 10, .ref 42]) (I2 := m12.I) (J2 := m12.J) (fun hT v kk => ?_) ?_
  · refine sh_w (i := (.aload_n 0)) (len := 1) (pc2 := 23) (lv2 := [(0, .ref 42)]) (st2 := [.ref 42, .int r3, .ref 10, .ref 42]) (h2 := (sh_rep m12.T m12.I m12.J)) rfl rfl rfl ?_
    refine sh_gR1 (len := 3) (x := .ref 10) (pc2 := 26) rfl rfl (sh_s41 hT.st) rfl rfl ?_
    refine sh_w (i := (.aload_n 0)) (len := 1) (pc2 := 27) (lv2 := [(0, .ref 42)]) (st2 := [.ref 42, .ref 10, .int r3, .ref 10, .ref 42]) (h2 := (sh_rep m12.T m12.I m12.J)) rfl rfl rfl ?_
    refine sh_w (i := (.iconst 3)) (len := 1) (pc2 := 28) (lv2 := [(0, .ref 42)]) (st2 := [.int 3, .ref 42, .ref 10, .int r3, .ref 10, .ref 42]) (h2 := (sh_rep m12.T m12.I m12.J)) rfl rfl rfl ?_
    exact kk
  obtain ⟨r4, e4, e⟩ := sh_bc_e e
  refine sh_Lk_cV (r := (some (.int r4))) (st2 := [.int r4, .ref 10, .int r3, .ref 10, .ref 42]) (pc2 := 31) (k2 := 145) (a := 41) (as := [.ref 42, .int 3]) (rest := [.ref 10, .int r3, .ref 10, .ref 42]) rfl rfl rfl (fun hT => (sh_s41 hT.st)) rfl rfl ⟨Nat.le_of_ble_eq_true rfl, Nat.le_of_ble_eq_true rfl⟩ (sl_145 e4 ⟨rfl, rfl⟩) rfl rfl (Nat.le_of_ble_eq_true rfl) (Nat.le_of_ble_eq_true rfl) ?_
  obtain ⟨r5, m15, e5, e⟩ := sh_bn_e e
  refine sh_Lk_cV (r := (some (.int r5))) (st2 := [.int r5, .int r3, .ref 10, .ref 42]) (pc2 := 34) (k2 := 141) (a := 9) (as := [.ref 10, .int r4]) (rest := [.int r3, .ref 10, .ref 42]) rfl rfl rfl (fun hT => hT.t9) rfl rfl ⟨Nat.le_of_ble_eq_true rfl, Nat.le_of_ble_eq_true rfl⟩ (sl_141 e5 ⟨rfl, rfl⟩) rfl rfl (Nat.le_of_ble_eq_true rfl) (Nat.le_of_ble_eq_true rfl) ?_
  obtain ⟨r6, m16, e6, e⟩ := sh_bn_e e
  refine sh_Lk_cV (r := (some (.int r6))) (st2 := [.int r6, .ref 42]) (pc2 := 37) (k2 := 132) (a := 9) (as := [.ref 10, .int r3, .int r5]) (rest := [.ref 42]) rfl rfl rfl (fun hT => hT.t9) rfl rfl ⟨Nat.le_of_ble_eq_true rfl, Nat.le_of_ble_eq_true rfl⟩ (sl_132 e6 ⟨rfl, rfl⟩) rfl rfl (Nat.le_of_ble_eq_true rfl) (Nat.le_of_ble_eq_true rfl) ?_
  refine sh_Lk_lift (T := m16.T) (I := m16.I) (J := m16.J) (s := m16.s) (pc2 := 40) (lv2 := [(0, .ref 42)]) (st2 := []) (I2 := sh_u2 m16.I 41 15 r6) (J2 := m16.J) (fun hT v kk => ?_) ?_
  · refine sh_pI1 (x := r6) (pc2 := 40) rfl rfl (sh_s41 hT.st) rfl rfl rfl rfl ?_
    exact kk
  obtain rfl := Option.some.inj e
  obtain ⟨rfl, rfl⟩ := tg
  exact sh_Lk_ret (i := .return_) rfl rfl rfl (Nat.le_of_ble_eq_true rfl) (Nat.le_of_ble_eq_true rfl)
theorem sl_148_17 {m m2 : sh_X} {o : Outcome} {z : (Int32 × sh_X)} (e : sf_148_17 m = some z) (tg : (sh_tI o m2) z) : sh_Lk 148 17 [(0, .ref 42)] [] m o m2 8 200 := by
  unfold sf_148_17 at e
  refine sh_Lk_lift (T := m.T) (I := m.I) (J := m.J) (s := m.s) (pc2 := 25) (lv2 := [(0, .ref 42)]) (st2 := [.int (m.I 41 11), .ref 43]) (I2 := m.I) (J2 := m.J) (fun hT v kk => ?_) ?_
  · refine sh_w (i := (.aload_n 0)) (len := 1) (pc2 := 18) (lv2 := [(0, .ref 42)]) (st2 := [.ref 42]) (h2 := (sh_rep m.T m.I m.J)) rfl rfl rfl ?_
    refine sh_gR1 (len := 3) (x := .ref 43) (pc2 := 21) rfl rfl (sh_s41 hT.st) rfl rfl ?_
    refine sh_w (i := (.aload_n 0)) (len := 1) (pc2 := 22) (lv2 := [(0, .ref 42)]) (st2 := [.ref 42, .ref 43]) (h2 := (sh_rep m.T m.I m.J)) rfl rfl rfl ?_
    refine sh_gI1 (len := 3) (x := m.I 41 11) (pc2 := 25) rfl rfl (sh_s41 hT.st) rfl rfl rfl ?_
    exact kk
  obtain ⟨c, e⟩ := sh_gd e
  refine sh_Lk_lift (T := m.T) (I := m.I) (J := m.J) (s := m.s) (pc2 := 26) (lv2 := [(0, .ref 42)]) (st2 := [.int (m.I 42 (Int32.toNatClampNeg (m.I 41 11)))]) (I2 := m.I) (J2 := m.J) (fun hT v kk => ?_) ?_
  · refine sh_ia1 (x := m.I 42 (Int32.toNatClampNeg (m.I 41 11))) (pc2 := 26) rfl (sh_s42 hT.st) (sh_okb1 c) (sh_okb2 c) rfl rfl ?_
    exact kk
  obtain rfl := Option.some.inj e
  obtain ⟨rfl, rfl⟩ := tg
  exact sh_Lk_ret (i := .ireturn) rfl rfl rfl (Nat.le_of_ble_eq_true rfl) (Nat.le_of_ble_eq_true rfl)
theorem sl_148 {m m2 : sh_X} {o : Outcome} {z : (Int32 × sh_X)} (e : sf_148 m = some z) (tg : (sh_tI o m2) z) : sh_Lk 148 0 [(0, .ref 42)] [] m o m2 8 200 := by
  unfold sf_148 at e
  refine sh_Lk_lift (T := m.T) (I := m.I) (J := m.J) (s := m.s) (pc2 := 4) (lv2 := [(0, .ref 42)]) (st2 := [.int (m.I 41 11)]) (I2 := m.I) (J2 := m.J) (fun hT v kk => ?_) ?_
  · refine sh_w (i := (.aload_n 0)) (len := 1) (pc2 := 1) (lv2 := [(0, .ref 42)]) (st2 := [.ref 42]) (h2 := (sh_rep m.T m.I m.J)) rfl rfl rfl ?_
    refine sh_gI1 (len := 3) (x := m.I 41 11) (pc2 := 4) rfl rfl (sh_s41 hT.st) rfl rfl rfl ?_
    exact kk
  rcases sh_ite e with ⟨c, e⟩ | ⟨c, e⟩
  · refine sh_Lk_lift (T := m.T) (I := m.I) (J := m.J) (s := m.s) (pc2 := 17) (lv2 := [(0, .ref 42)]) (st2 := []) (I2 := sh_u2 m.I 41 11 ((m.I 41 11) - 1)) (J2 := m.J) (fun hT v kk => ?_) ?_
    · refine sh_j0 (c := .le) (off := (13)) (pc2 := 7) false rfl (sh_Blef c) rfl ?_
      refine sh_w (i := (.aload_n 0)) (len := 1) (pc2 := 8) (lv2 := [(0, .ref 42)]) (st2 := [.ref 42]) (h2 := (sh_rep m.T m.I m.J)) rfl rfl rfl ?_
      refine sh_w (i := .dup) (len := 1) (pc2 := 9) (lv2 := [(0, .ref 42)]) (st2 := [.ref 42, .ref 42]) (h2 := (sh_rep m.T m.I m.J)) rfl rfl rfl ?_
      refine sh_gI1 (len := 3) (x := m.I 41 11) (pc2 := 12) rfl rfl (sh_s41 hT.st) rfl rfl rfl ?_
      refine sh_w (i := (.iconst 1)) (len := 1) (pc2 := 13) (lv2 := [(0, .ref 42)]) (st2 := [.int 1, .int (m.I 41 11), .ref 42]) (h2 := (sh_rep m.T m.I m.J)) rfl rfl rfl ?_
      refine sh_w (i := .isub) (len := 1) (pc2 := 14) (lv2 := [(0, .ref 42)]) (st2 := [.int ((m.I 41 11) - 1), .ref 42]) (h2 := (sh_rep m.T m.I m.J)) rfl rfl rfl ?_
      refine sh_pI1 (x := (m.I 41 11) - 1) (pc2 := 17) rfl rfl (sh_s41 hT.st) rfl rfl rfl rfl ?_
      exact kk
    exact sh_Lk_sub (sh_sub_c rfl (sh_sub_n)) (sl_148_17 e tg)
  · refine sh_Lk_lift (T := m.T) (I := m.I) (J := m.J) (s := m.s) (pc2 := 17) (lv2 := [(0, .ref 42)]) (st2 := []) (I2 := m.I) (J2 := m.J) (fun hT v kk => ?_) ?_
    · refine sh_j0 (c := .le) (off := (13)) (pc2 := 17) true rfl (sh_Blet c) rfl ?_
      exact kk
    exact sh_Lk_sub (sh_sub_c rfl (sh_sub_n)) (sl_148_17 e tg)
theorem sl_147 {m m2 : sh_X} {o : Outcome} {z : (Unit × sh_X)} (e : sf_147 m = some z) (tg : (sh_tV o m2) z) : sh_Lk 147 0 [(0, .ref 42)] [] m o m2 10 242 := by
  unfold sf_147 at e
  refine sh_Lk_lift (T := m.T) (I := m.I) (J := m.J) (s := m.s) (pc2 := 5) (lv2 := [(0, .ref 42)]) (st2 := [.ref 42, .ref 54]) (I2 := m.I) (J2 := m.J) (fun hT v kk => ?_) ?_
  · refine sh_w (i := (.aload_n 0)) (len := 1) (pc2 := 1) (lv2 := [(0, .ref 42)]) (st2 := [.ref 42]) (h2 := (sh_rep m.T m.I m.J)) rfl rfl rfl ?_
    refine sh_gR1 (len := 3) (x := .ref 54) (pc2 := 4) rfl rfl (sh_s41 hT.st) rfl rfl ?_
    refine sh_w (i := (.aload_n 0)) (len := 1) (pc2 := 5) (lv2 := [(0, .ref 42)]) (st2 := [.ref 42, .ref 54]) (h2 := (sh_rep m.T m.I m.J)) rfl rfl rfl ?_
    exact kk
  obtain ⟨r1, m11, e1, e⟩ := sh_bn_e e
  refine sh_Lk_cV (r := (some (.int r1))) (st2 := [.int r1, .ref 54]) (pc2 := 8) (k2 := 148) (a := 41) (as := [.ref 42]) (rest := [.ref 54]) rfl rfl rfl (fun hT => (sh_s41 hT.st)) rfl rfl ⟨Nat.le_of_ble_eq_true rfl, Nat.le_of_ble_eq_true rfl⟩ (sl_148 e1 ⟨rfl, rfl⟩) rfl rfl (Nat.le_of_ble_eq_true rfl) (Nat.le_of_ble_eq_true rfl) ?_
  obtain ⟨r2, m12, e2, e⟩ := sh_bn_e e
  refine sh_Lk_cV (r := none) (st2 := []) (pc2 := 11) (k2 := 146) (a := 53) (as := [.ref 54, .int r1]) (rest := []) rfl rfl rfl (fun hT => (sh_s53 hT.st)) rfl rfl ⟨Nat.le_of_ble_eq_true rfl, Nat.le_of_ble_eq_true rfl⟩ (sl_146 e2 ⟨rfl, rfl⟩) rfl rfl (Nat.le_of_ble_eq_true rfl) (Nat.le_of_ble_eq_true rfl) ?_
  refine sh_Lk_lift (T := m12.T) (I := m12.I) (J := m12.J) (s := m12.s) (pc2 := 13) (lv2 := [(0, .ref 42)]) (st2 := [.ref 42, .ref 42]) (I2 := m12.I) (J2 := m12.J) (fun hT v kk => ?_) ?_
  · refine sh_w (i := (.aload_n 0)) (len := 1) (pc2 := 12) (lv2 := [(0, .ref 42)]) (st2 := [.ref 42]) (h2 := (sh_rep m12.T m12.I m12.J)) rfl rfl rfl ?_
    refine sh_w (i := (.aload_n 0)) (len := 1) (pc2 := 13) (lv2 := [(0, .ref 42)]) (st2 := [.ref 42, .ref 42]) (h2 := (sh_rep m12.T m12.I m12.J)) rfl rfl rfl ?_
    exact kk
  obtain ⟨r3, m13, e3, e⟩ := sh_bn_e e
  refine sh_Lk_cV (r := (some (.int r3))) (st2 := [.int r3, .ref 42]) (pc2 := 16) (k2 := 148) (a := 41) (as := [.ref 42]) (rest := [.ref 42]) rfl rfl rfl (fun hT => (sh_s41 hT.st)) rfl rfl ⟨Nat.le_of_ble_eq_true rfl, Nat.le_of_ble_eq_true rfl⟩ (sl_148 e3 ⟨rfl, rfl⟩) rfl rfl (Nat.le_of_ble_eq_true rfl) (Nat.le_of_ble_eq_true rfl) ?_
  refine sh_Lk_lift (T := m13.T) (I := m13.I) (J := m13.J) (s := m13.s) (pc2 := 20) (lv2 := [(0, .ref 42)]) (st2 := [.ref 42]) (I2 := sh_u2 m13.I 41 15 r3) (J2 := m13.J) (fun hT v kk => ?_) ?_
  · refine sh_pI1 (x := r3) (pc2 := 19) rfl rfl (sh_s41 hT.st) rfl rfl rfl rfl ?_
    refine sh_w (i := (.aload_n 0)) (len := 1) (pc2 := 20) (lv2 := [(0, .ref 42)]) (st2 := [.ref 42]) (h2 := (sh_rep m13.T (sh_u2 m13.I 41 15 r3) m13.J)) rfl rfl rfl ?_
    exact kk
  obtain ⟨r4, m14, e4, e⟩ := sh_bn_e e
  refine sh_Lk_cV (r := (some (.int r4))) (st2 := [.int r4]) (pc2 := 23) (k2 := 148) (a := 41) (as := [.ref 42]) (rest := []) rfl rfl rfl (fun hT => (sh_s41 hT.st)) rfl rfl ⟨Nat.le_of_ble_eq_true rfl, Nat.le_of_ble_eq_true rfl⟩ (sl_148 e4 ⟨rfl, rfl⟩) rfl rfl (Nat.le_of_ble_eq_true rfl) (Nat.le_of_ble_eq_true rfl) ?_
  refine sh_Lk_lift (T := m14.T) (I := m14.I) (J := m14.J) (s := m14.s) (pc2 := 34) (lv2 := [(0, .ref 42)]) (st2 := []) (I2 := sh_u2 m14.I 41 16 ((m14.I 41 16) - 1)) (J2 := m14.J) (fun hT v kk => ?_) ?_
  · refine sh_w (i := .pop) (len := 1) (pc2 := 24) (lv2 := [(0, .ref 42)]) (st2 := []) (h2 := (sh_rep m14.T m14.I m14.J)) rfl rfl rfl ?_
    refine sh_w (i := (.aload_n 0)) (len := 1) (pc2 := 25) (lv2 := [(0, .ref 42)]) (st2 := [.ref 42]) (h2 := (sh_rep m14.T m14.I m14.J)) rfl rfl rfl ?_
    refine sh_w (i := .dup) (len := 1) (pc2 := 26) (lv2 := [(0, .ref 42)]) (st2 := [.ref 42, .ref 42]) (h2 := (sh_rep m14.T m14.I m14.J)) rfl rfl rfl ?_
    refine sh_gI1 (len := 3) (x := m14.I 41 16) (pc2 := 29) rfl rfl (sh_s41 hT.st) rfl rfl rfl ?_
    refine sh_w (i := (.iconst 1)) (len := 1) (pc2 := 30) (lv2 := [(0, .ref 42)]) (st2 := [.int 1, .int (m14.I 41 16), .ref 42]) (h2 := (sh_rep m14.T m14.I m14.J)) rfl rfl rfl ?_
    refine sh_w (i := .isub) (len := 1) (pc2 := 31) (lv2 := [(0, .ref 42)]) (st2 := [.int ((m14.I 41 16) - 1), .ref 42]) (h2 := (sh_rep m14.T m14.I m14.J)) rfl rfl rfl ?_
    refine sh_pI1 (x := (m14.I 41 16) - 1) (pc2 := 34) rfl rfl (sh_s41 hT.st) rfl rfl rfl rfl ?_
    exact kk
  obtain rfl := Option.some.inj e
  obtain ⟨rfl, rfl⟩ := tg
  exact sh_Lk_ret (i := .return_) rfl rfl rfl (Nat.le_of_ble_eq_true rfl) (Nat.le_of_ble_eq_true rfl)
theorem sl_150 {x1 : Int32} {x2 : Int64} {m m2 : sh_X} {o : Outcome} {z : (Option Unit × sh_X)} (e : sf_150 x1 x2 m = some z) (tg : (sh_tVt o m2) z) : sh_Lk 150 0 [(0, .ref 42), (1, .int x1), (2, .long x2)] [] m o m2 10 244 := by
  unfold sf_150 at e
  refine sh_Lk_lift (T := m.T) (I := m.I) (J := m.J) (s := m.s) (pc2 := 3) (lv2 := [(0, .ref 42), (1, .int x1), (2, .long x2)]) (st2 := [.int x1, .int 1, .ref 42]) (I2 := m.I) (J2 := m.J) (fun hT v kk => ?_) ?_
  · refine sh_w (i := (.aload_n 0)) (len := 1) (pc2 := 1) (lv2 := [(0, .ref 42), (1, .int x1), (2, .long x2)]) (st2 := [.ref 42]) (h2 := (sh_rep m.T m.I m.J)) rfl rfl rfl ?_
    refine sh_w (i := (.iconst 1)) (len := 1) (pc2 := 2) (lv2 := [(0, .ref 42), (1, .int x1), (2, .long x2)]) (st2 := [.int 1, .ref 42]) (h2 := (sh_rep m.T m.I m.J)) rfl rfl rfl ?_
    refine sh_w (i := (.iload_n 1)) (len := 1) (pc2 := 3) (lv2 := [(0, .ref 42), (1, .int x1), (2, .long x2)]) (st2 := [.int x1, .int 1, .ref 42]) (h2 := (sh_rep m.T m.I m.J)) rfl rfl rfl ?_
    exact kk
  rcases sh_bt_e e with ⟨m11, e1, rfl⟩ | ⟨r1, m11, e1, e⟩
  · obtain ⟨rfl, rfl⟩ := tg
    exact sh_Lk_tV (k2 := 90) (a := 41) (as := [.ref 42, .int 1, .int x1]) (rest := []) rfl rfl rfl (fun hT => (sh_s41 hT.st)) rfl rfl ⟨Nat.le_of_ble_eq_true rfl, Nat.le_of_ble_eq_true rfl⟩ (sl_90 e1 ⟨rfl, rfl⟩) rfl (Nat.le_of_ble_eq_true rfl) (Nat.le_of_ble_eq_true rfl) (Nat.le_of_ble_eq_true rfl) (Nat.le_of_ble_eq_true rfl) rfl
  refine sh_Lk_cV (r := none) (st2 := []) (pc2 := 6) (k2 := 90) (a := 41) (as := [.ref 42, .int 1, .int x1]) (rest := []) rfl rfl rfl (fun hT => (sh_s41 hT.st)) rfl rfl ⟨Nat.le_of_ble_eq_true rfl, Nat.le_of_ble_eq_true rfl⟩ (sl_90 e1 ⟨rfl, rfl⟩) rfl rfl (Nat.le_of_ble_eq_true rfl) (Nat.le_of_ble_eq_true rfl) ?_
  refine sh_Lk_lift (T := m11.T) (I := m11.I) (J := m11.J) (s := m11.s) (pc2 := 15) (lv2 := [(0, .ref 42), (1, .int x1), (2, .long x2)]) (st2 := [.int x1, .ref 3, .ref 54]) (I2 := m11.I) (J2 := m11.J) (fun hT v kk => ?_) ?_
  · refine sh_w (i := (.aload_n 0)) (len := 1) (pc2 := 7) (lv2 := [(0, .ref 42), (1, .int x1), (2, .long x2)]) (st2 := [.ref 42]) (h2 := (sh_rep m11.T m11.I m11.J)) rfl rfl rfl ?_
    refine sh_gR1 (len := 3) (x := .ref 54) (pc2 := 10) rfl rfl (sh_s41 hT.st) rfl rfl ?_
    refine sh_w (i := (.aload_n 0)) (len := 1) (pc2 := 11) (lv2 := [(0, .ref 42), (1, .int x1), (2, .long x2)]) (st2 := [.ref 42, .ref 54]) (h2 := (sh_rep m11.T m11.I m11.J)) rfl rfl rfl ?_
    refine sh_gR1 (len := 3) (x := .ref 3) (pc2 := 14) rfl rfl (sh_s41 hT.st) rfl rfl ?_
    refine sh_w (i := (.iload_n 1)) (len := 1) (pc2 := 15) (lv2 := [(0, .ref 42), (1, .int x1), (2, .long x2)]) (st2 := [.int x1, .ref 3, .ref 54]) (h2 := (sh_rep m11.T m11.I m11.J)) rfl rfl rfl ?_
    exact kk
  obtain ⟨r2, e2, e⟩ := sh_bc_e e
  refine sh_Lk_cV (r := (some (.int r2))) (st2 := [.int r2, .ref 54]) (pc2 := 18) (k2 := 83) (a := 2) (as := [.ref 3, .int x1]) (rest := [.ref 54]) rfl rfl rfl (fun hT => hT.t2) rfl rfl ⟨Nat.le_of_ble_eq_true rfl, Nat.le_of_ble_eq_true rfl⟩ (sl_83 e2 ⟨rfl, rfl⟩) rfl rfl (Nat.le_of_ble_eq_true rfl) (Nat.le_of_ble_eq_true rfl) ?_
  refine sh_Lk_lift (T := m11.T) (I := m11.I) (J := m11.J) (s := m11.s) (pc2 := 21) (lv2 := [(0, .ref 42), (1, .int x1), (2, .long x2)]) (st2 := [.long x2, .int 0, .int 0, .int r2, .ref 54]) (I2 := m11.I) (J2 := m11.J) (fun hT v kk => ?_) ?_
  · refine sh_w (i := (.iconst 0)) (len := 1) (pc2 := 19) (lv2 := [(0, .ref 42), (1, .int x1), (2, .long x2)]) (st2 := [.int 0, .int r2, .ref 54]) (h2 := (sh_rep m11.T m11.I m11.J)) rfl rfl rfl ?_
    refine sh_w (i := (.iconst 0)) (len := 1) (pc2 := 20) (lv2 := [(0, .ref 42), (1, .int x1), (2, .long x2)]) (st2 := [.int 0, .int 0, .int r2, .ref 54]) (h2 := (sh_rep m11.T m11.I m11.J)) rfl rfl rfl ?_
    refine sh_w (i := (.lload_n 2)) (len := 1) (pc2 := 21) (lv2 := [(0, .ref 42), (1, .int x1), (2, .long x2)]) (st2 := [.long x2, .int 0, .int 0, .int r2, .ref 54]) (h2 := (sh_rep m11.T m11.I m11.J)) rfl rfl rfl ?_
    exact kk
  obtain ⟨r3, m13, e3, e⟩ := sh_bn_e e
  refine sh_Lk_cV (r := none) (st2 := []) (pc2 := 24) (k2 := 105) (a := 53) (as := [.ref 54, .int r2, .int 0, .int 0, .long x2]) (rest := []) rfl rfl rfl (fun hT => (sh_s53 hT.st)) rfl rfl ⟨Nat.le_of_ble_eq_true rfl, Nat.le_of_ble_eq_true rfl⟩ (sl_105 e3 ⟨rfl, rfl⟩) rfl rfl (Nat.le_of_ble_eq_true rfl) (Nat.le_of_ble_eq_true rfl) ?_
  obtain rfl := Option.some.inj e
  obtain ⟨rfl, rfl⟩ := tg
  exact sh_Lk_ret (i := .return_) rfl rfl rfl (Nat.le_of_ble_eq_true rfl) (Nat.le_of_ble_eq_true rfl)
theorem sl_149_71 {x1 : Int32} {x2 : Int32} {x3 : Int64} {x5 : Int64} {m m2 : sh_X} {o : Outcome} {z : (Option Unit × sh_X)} (e : sf_149_71 x1 x2 x3 x5 m = some z) (tg : (sh_tVt o m2) z) : sh_Lk 149 71 [(0, .ref 42), (1, .int x1), (2, .int x2), (3, .long x3), (5, .long x5)] [] m o m2 11 267 := by
  unfold sf_149_71 at e
  refine sh_Lk_lift (T := m.T) (I := m.I) (J := m.J) (s := m.s) (pc2 := 75) (lv2 := [(0, .ref 42), (1, .int x1), (2, .int x2), (3, .long x3), (5, .long x5)]) (st2 := [.int (lg_cmp x3 x5)]) (I2 := m.I) (J2 := m.J) (fun hT v kk => ?_) ?_
  · refine sh_w (i := (.lload_n 3)) (len := 1) (pc2 := 72) (lv2 := [(0, .ref 42), (1, .int x1), (2, .int x2), (3, .long x3), (5, .long x5)]) (st2 := [.long x3]) (h2 := (sh_rep m.T m.I m.J)) rfl rfl rfl ?_
    refine sh_w (i := (.lload 5)) (len := 2) (pc2 := 74) (lv2 := [(0, .ref 42), (1, .int x1), (2, .int x2), (3, .long x3), (5, .long x5)]) (st2 := [.long x5, .long x3]) (h2 := (sh_rep m.T m.I m.J)) rfl rfl rfl ?_
    refine sh_w (i := .lcmp) (len := 1) (pc2 := 75) (lv2 := [(0, .ref 42), (1, .int x1), (2, .int x2), (3, .long x3), (5, .long x5)]) (st2 := [.int (lg_cmp x3 x5)]) (h2 := (sh_rep m.T m.I m.J)) rfl rfl rfl ?_
    exact kk
  rcases sh_ite e with ⟨c, e⟩ | ⟨c, e⟩
  · refine sh_Lk_lift (T := m.T) (I := m.I) (J := m.J) (s := m.s) (pc2 := 92) (lv2 := [(0, .ref 42), (1, .int x1), (2, .int x2), (3, .long x3), (5, .long x5)]) (st2 := [.int (m.I 53 4), .ref 42]) (I2 := m.I) (J2 := m.J) (fun hT v kk => ?_) ?_
    · refine sh_j0 (c := .lt) (off := (9)) (pc2 := 84) true rfl (sh_Cltt c) rfl ?_
      refine sh_w (i := (.aload_n 0)) (len := 1) (pc2 := 85) (lv2 := [(0, .ref 42), (1, .int x1), (2, .int x2), (3, .long x3), (5, .long x5)]) (st2 := [.ref 42]) (h2 := (sh_rep m.T m.I m.J)) rfl rfl rfl ?_
      refine sh_w (i := (.aload_n 0)) (len := 1) (pc2 := 86) (lv2 := [(0, .ref 42), (1, .int x1), (2, .int x2), (3, .long x3), (5, .long x5)]) (st2 := [.ref 42, .ref 42]) (h2 := (sh_rep m.T m.I m.J)) rfl rfl rfl ?_
      refine sh_gR1 (len := 3) (x := .ref 54) (pc2 := 89) rfl rfl (sh_s41 hT.st) rfl rfl ?_
      refine sh_gI1 (len := 3) (x := m.I 53 4) (pc2 := 92) rfl rfl (sh_s53 hT.st) rfl rfl rfl ?_
      exact kk
    obtain ⟨r1, m11, e1, e⟩ := sh_bn_e e
    refine sh_Lk_cV (r := none) (st2 := []) (pc2 := 95) (k2 := 143) (a := 41) (as := [.ref 42, .int (m.I 53 4)]) (rest := []) rfl rfl rfl (fun hT => (sh_s41 hT.st)) rfl rfl ⟨Nat.le_of_ble_eq_true rfl, Nat.le_of_ble_eq_true rfl⟩ (sl_143 e1 ⟨rfl, rfl⟩) rfl rfl (Nat.le_of_ble_eq_true rfl) (Nat.le_of_ble_eq_true rfl) ?_
    refine sh_Lk_lift (T := m11.T) (I := m11.I) (J := m11.J) (s := m11.s) (pc2 := 98) (lv2 := [(0, .ref 42), (1, .int x1), (2, .int x2), (3, .long x3), (5, .long x5)]) (st2 := [.long x3, .int x1, .ref 42]) (I2 := m11.I) (J2 := m11.J) (fun hT v kk => ?_) ?_
    · refine sh_w (i := (.aload_n 0)) (len := 1) (pc2 := 96) (lv2 := [(0, .ref 42), (1, .int x1), (2, .int x2), (3, .long x3), (5, .long x5)]) (st2 := [.ref 42]) (h2 := (sh_rep m11.T m11.I m11.J)) rfl rfl rfl ?_
      refine sh_w (i := (.iload_n 1)) (len := 1) (pc2 := 97) (lv2 := [(0, .ref 42), (1, .int x1), (2, .int x2), (3, .long x3), (5, .long x5)]) (st2 := [.int x1, .ref 42]) (h2 := (sh_rep m11.T m11.I m11.J)) rfl rfl rfl ?_
      refine sh_w (i := (.lload_n 3)) (len := 1) (pc2 := 98) (lv2 := [(0, .ref 42), (1, .int x1), (2, .int x2), (3, .long x3), (5, .long x5)]) (st2 := [.long x3, .int x1, .ref 42]) (h2 := (sh_rep m11.T m11.I m11.J)) rfl rfl rfl ?_
      exact kk
    rcases sh_bt_e e with ⟨m12, e2, rfl⟩ | ⟨r2, m12, e2, e⟩
    · obtain ⟨rfl, rfl⟩ := tg
      exact sh_Lk_tV (k2 := 150) (a := 41) (as := [.ref 42, .int x1, .long x3]) (rest := []) rfl rfl rfl (fun hT => (sh_s41 hT.st)) rfl rfl ⟨Nat.le_of_ble_eq_true rfl, Nat.le_of_ble_eq_true rfl⟩ (sl_150 e2 ⟨rfl, rfl⟩) rfl (Nat.le_of_ble_eq_true rfl) (Nat.le_of_ble_eq_true rfl) (Nat.le_of_ble_eq_true rfl) (Nat.le_of_ble_eq_true rfl) rfl
    refine sh_Lk_cV (r := none) (st2 := []) (pc2 := 101) (k2 := 150) (a := 41) (as := [.ref 42, .int x1, .long x3]) (rest := []) rfl rfl rfl (fun hT => (sh_s41 hT.st)) rfl rfl ⟨Nat.le_of_ble_eq_true rfl, Nat.le_of_ble_eq_true rfl⟩ (sl_150 e2 ⟨rfl, rfl⟩) rfl rfl (Nat.le_of_ble_eq_true rfl) (Nat.le_of_ble_eq_true rfl) ?_
    obtain rfl := Option.some.inj e
    obtain ⟨rfl, rfl⟩ := tg
    exact sh_Lk_ret (i := .return_) rfl rfl rfl (Nat.le_of_ble_eq_true rfl) (Nat.le_of_ble_eq_true rfl)
  · refine sh_Lk_lift (T := m.T) (I := m.I) (J := m.J) (s := m.s) (pc2 := 83) (lv2 := [(0, .ref 42), (1, .int x1), (2, .int x2), (3, .long x3), (5, .long x5)]) (st2 := []) (I2 := sh_u2 m.I 41 13 x2) (J2 := m.J) (fun hT v kk => ?_) ?_
    · refine sh_j0 (c := .lt) (off := (9)) (pc2 := 78) false rfl (sh_Cltf c) rfl ?_
      refine sh_w (i := (.aload_n 0)) (len := 1) (pc2 := 79) (lv2 := [(0, .ref 42), (1, .int x1), (2, .int x2), (3, .long x3), (5, .long x5)]) (st2 := [.ref 42]) (h2 := (sh_rep m.T m.I m.J)) rfl rfl rfl ?_
      refine sh_w (i := (.iload_n 2)) (len := 1) (pc2 := 80) (lv2 := [(0, .ref 42), (1, .int x1), (2, .int x2), (3, .long x3), (5, .long x5)]) (st2 := [.int x2, .ref 42]) (h2 := (sh_rep m.T m.I m.J)) rfl rfl rfl ?_
      refine sh_pI1 (x := x2) (pc2 := 83) rfl rfl (sh_s41 hT.st) rfl rfl rfl rfl ?_
      exact kk
    obtain rfl := Option.some.inj e
    obtain ⟨rfl, rfl⟩ := tg
    exact sh_Lk_ret (i := .return_) rfl rfl rfl (Nat.le_of_ble_eq_true rfl) (Nat.le_of_ble_eq_true rfl)
theorem sl_149_28 {x1 : Int32} {x2 : Int32} {m m2 : sh_X} {o : Outcome} {z : (Option Unit × sh_X)} (e : sf_149_28 x1 x2 m = some z) (tg : (sh_tVt o m2) z) : sh_Lk 149 28 [(0, .ref 42), (1, .int x1), (2, .int x2)] [] m o m2 11 267 := by
  unfold sf_149_28 at e
  refine sh_Lk_lift (T := m.T) (I := m.I) (J := m.J) (s := m.s) (pc2 := 35) (lv2 := [(0, .ref 42), (1, .int x1), (2, .int x2)]) (st2 := [.int (x1 + 2), .ref 3]) (I2 := m.I) (J2 := m.J) (fun hT v kk => ?_) ?_
  · refine sh_w (i := (.aload_n 0)) (len := 1) (pc2 := 29) (lv2 := [(0, .ref 42), (1, .int x1), (2, .int x2)]) (st2 := [.ref 42]) (h2 := (sh_rep m.T m.I m.J)) rfl rfl rfl ?_
    refine sh_gR1 (len := 3) (x := .ref 3) (pc2 := 32) rfl rfl (sh_s41 hT.st) rfl rfl ?_
    refine sh_w (i := (.iload_n 1)) (len := 1) (pc2 := 33) (lv2 := [(0, .ref 42), (1, .int x1), (2, .int x2)]) (st2 := [.int x1, .ref 3]) (h2 := (sh_rep m.T m.I m.J)) rfl rfl rfl ?_
    refine sh_w (i := (.iconst 2)) (len := 1) (pc2 := 34) (lv2 := [(0, .ref 42), (1, .int x1), (2, .int x2)]) (st2 := [.int 2, .int x1, .ref 3]) (h2 := (sh_rep m.T m.I m.J)) rfl rfl rfl ?_
    refine sh_w (i := .iadd) (len := 1) (pc2 := 35) (lv2 := [(0, .ref 42), (1, .int x1), (2, .int x2)]) (st2 := [.int (x1 + 2), .ref 3]) (h2 := (sh_rep m.T m.I m.J)) rfl rfl rfl ?_
    exact kk
  obtain ⟨r1, e1, e⟩ := sh_bc_e e
  refine sh_Lk_cV (r := (some (.long r1))) (st2 := [.long r1]) (pc2 := 38) (k2 := 66) (a := 2) (as := [.ref 3, .int (x1 + 2)]) (rest := []) rfl rfl rfl (fun hT => hT.t2) rfl rfl ⟨Nat.le_of_ble_eq_true rfl, Nat.le_of_ble_eq_true rfl⟩ (sl_66 e1 ⟨rfl, rfl⟩) rfl rfl (Nat.le_of_ble_eq_true rfl) (Nat.le_of_ble_eq_true rfl) ?_
  refine sh_Lk_lift (T := m.T) (I := m.I) (J := m.J) (s := m.s) (pc2 := 46) (lv2 := [(3, .long r1), (0, .ref 42), (1, .int x1), (2, .int x2)]) (st2 := [.int (x1 + 4), .ref 3]) (I2 := m.I) (J2 := m.J) (fun hT v kk => ?_) ?_
  · refine sh_w (i := (.lstore_n 3)) (len := 1) (pc2 := 39) (lv2 := [(3, .long r1), (0, .ref 42), (1, .int x1), (2, .int x2)]) (st2 := []) (h2 := (sh_rep m.T m.I m.J)) rfl rfl rfl ?_
    refine sh_w (i := (.aload_n 0)) (len := 1) (pc2 := 40) (lv2 := [(3, .long r1), (0, .ref 42), (1, .int x1), (2, .int x2)]) (st2 := [.ref 42]) (h2 := (sh_rep m.T m.I m.J)) rfl rfl rfl ?_
    refine sh_gR1 (len := 3) (x := .ref 3) (pc2 := 43) rfl rfl (sh_s41 hT.st) rfl rfl ?_
    refine sh_w (i := (.iload_n 1)) (len := 1) (pc2 := 44) (lv2 := [(3, .long r1), (0, .ref 42), (1, .int x1), (2, .int x2)]) (st2 := [.int x1, .ref 3]) (h2 := (sh_rep m.T m.I m.J)) rfl rfl rfl ?_
    refine sh_w (i := (.iconst 4)) (len := 1) (pc2 := 45) (lv2 := [(3, .long r1), (0, .ref 42), (1, .int x1), (2, .int x2)]) (st2 := [.int 4, .int x1, .ref 3]) (h2 := (sh_rep m.T m.I m.J)) rfl rfl rfl ?_
    refine sh_w (i := .iadd) (len := 1) (pc2 := 46) (lv2 := [(3, .long r1), (0, .ref 42), (1, .int x1), (2, .int x2)]) (st2 := [.int (x1 + 4), .ref 3]) (h2 := (sh_rep m.T m.I m.J)) rfl rfl rfl ?_
    exact kk
  obtain ⟨r2, e2, e⟩ := sh_bc_e e
  refine sh_Lk_cV (r := (some (.long r2))) (st2 := [.long r2]) (pc2 := 49) (k2 := 66) (a := 2) (as := [.ref 3, .int (x1 + 4)]) (rest := []) rfl rfl rfl (fun hT => hT.t2) rfl rfl ⟨Nat.le_of_ble_eq_true rfl, Nat.le_of_ble_eq_true rfl⟩ (sl_66 e2 ⟨rfl, rfl⟩) rfl rfl (Nat.le_of_ble_eq_true rfl) (Nat.le_of_ble_eq_true rfl) ?_
  refine sh_Lk_lift (T := m.T) (I := m.I) (J := m.J) (s := m.s) (pc2 := 59) (lv2 := [(5, .long r2), (3, .long r1), (0, .ref 42), (1, .int x1), (2, .int x2)]) (st2 := [.int (lg_cmp (r2 - r1) 256)]) (I2 := m.I) (J2 := m.J) (fun hT v kk => ?_) ?_
  · refine sh_w (i := (.lstore 5)) (len := 2) (pc2 := 51) (lv2 := [(5, .long r2), (3, .long r1), (0, .ref 42), (1, .int x1), (2, .int x2)]) (st2 := []) (h2 := (sh_rep m.T m.I m.J)) rfl rfl rfl ?_
    refine sh_w (i := (.lload 5)) (len := 2) (pc2 := 53) (lv2 := [(5, .long r2), (3, .long r1), (0, .ref 42), (1, .int x1), (2, .int x2)]) (st2 := [.long r2]) (h2 := (sh_rep m.T m.I m.J)) rfl rfl rfl ?_
    refine sh_w (i := (.lload_n 3)) (len := 1) (pc2 := 54) (lv2 := [(5, .long r2), (3, .long r1), (0, .ref 42), (1, .int x1), (2, .int x2)]) (st2 := [.long r1, .long r2]) (h2 := (sh_rep m.T m.I m.J)) rfl rfl rfl ?_
    refine sh_w (i := .lsub) (len := 1) (pc2 := 55) (lv2 := [(5, .long r2), (3, .long r1), (0, .ref 42), (1, .int x1), (2, .int x2)]) (st2 := [.long (r2 - r1)]) (h2 := (sh_rep m.T m.I m.J)) rfl rfl rfl ?_
    refine sh_w (i := (.ldc2_w 391)) (len := 3) (pc2 := 58) (lv2 := [(5, .long r2), (3, .long r1), (0, .ref 42), (1, .int x1), (2, .int x2)]) (st2 := [.long 256, .long (r2 - r1)]) (h2 := (sh_rep m.T m.I m.J)) rfl rfl rfl ?_
    refine sh_w (i := .lcmp) (len := 1) (pc2 := 59) (lv2 := [(5, .long r2), (3, .long r1), (0, .ref 42), (1, .int x1), (2, .int x2)]) (st2 := [.int (lg_cmp (r2 - r1) 256)]) (h2 := (sh_rep m.T m.I m.J)) rfl rfl rfl ?_
    exact kk
  rcases sh_ite e with ⟨c, e⟩ | ⟨c, e⟩
  · refine sh_Lk_lift (T := m.T) (I := m.I) (J := m.J) (s := m.s) (pc2 := 68) (lv2 := [(5, .long r2), (3, .long r1), (0, .ref 42), (1, .int x1), (2, .int x2)]) (st2 := [.int x1, .int 4, .ref 3]) (I2 := m.I) (J2 := m.J) (fun hT v kk => ?_) ?_
    · refine sh_j0 (c := .le) (off := (12)) (pc2 := 62) false rfl (sh_Clef c) rfl ?_
      refine sh_w (i := (.aload_n 0)) (len := 1) (pc2 := 63) (lv2 := [(5, .long r2), (3, .long r1), (0, .ref 42), (1, .int x1), (2, .int x2)]) (st2 := [.ref 42]) (h2 := (sh_rep m.T m.I m.J)) rfl rfl rfl ?_
      refine sh_gR1 (len := 3) (x := .ref 3) (pc2 := 66) rfl rfl (sh_s41 hT.st) rfl rfl ?_
      refine sh_w (i := (.iconst 4)) (len := 1) (pc2 := 67) (lv2 := [(5, .long r2), (3, .long r1), (0, .ref 42), (1, .int x1), (2, .int x2)]) (st2 := [.int 4, .ref 3]) (h2 := (sh_rep m.T m.I m.J)) rfl rfl rfl ?_
      refine sh_w (i := (.iload_n 1)) (len := 1) (pc2 := 68) (lv2 := [(5, .long r2), (3, .long r1), (0, .ref 42), (1, .int x1), (2, .int x2)]) (st2 := [.int x1, .int 4, .ref 3]) (h2 := (sh_rep m.T m.I m.J)) rfl rfl rfl ?_
      exact kk
    rcases sh_bt_e e with ⟨m13, e3, rfl⟩ | ⟨r3, m13, e3, e⟩
    · obtain ⟨rfl, rfl⟩ := tg
      exact sh_Lk_tV (k2 := 50) (a := 2) (as := [.ref 3, .int 4, .int x1]) (rest := []) rfl rfl rfl (fun hT => hT.t2) rfl rfl ⟨Nat.le_of_ble_eq_true rfl, Nat.le_of_ble_eq_true rfl⟩ (sl_50 e3 ⟨rfl, rfl⟩) rfl (Nat.le_of_ble_eq_true rfl) (Nat.le_of_ble_eq_true rfl) (Nat.le_of_ble_eq_true rfl) (Nat.le_of_ble_eq_true rfl) rfl
    refine sh_Lk_cV (r := none) (st2 := []) (pc2 := 71) (k2 := 50) (a := 2) (as := [.ref 3, .int 4, .int x1]) (rest := []) rfl rfl rfl (fun hT => hT.t2) rfl rfl ⟨Nat.le_of_ble_eq_true rfl, Nat.le_of_ble_eq_true rfl⟩ (sl_50 e3 ⟨rfl, rfl⟩) rfl rfl (Nat.le_of_ble_eq_true rfl) (Nat.le_of_ble_eq_true rfl) ?_
    exact sh_Lk_sub (sh_sub_c rfl (sh_sub_c rfl (sh_sub_c rfl (sh_sub_c rfl (sh_sub_c rfl (sh_sub_n)))))) (sl_149_71 e tg)
  · refine sh_Lk_lift (T := m.T) (I := m.I) (J := m.J) (s := m.s) (pc2 := 71) (lv2 := [(5, .long r2), (3, .long r1), (0, .ref 42), (1, .int x1), (2, .int x2)]) (st2 := []) (I2 := m.I) (J2 := m.J) (fun hT v kk => ?_) ?_
    · refine sh_j0 (c := .le) (off := (12)) (pc2 := 71) true rfl (sh_Clet c) rfl ?_
      exact kk
    exact sh_Lk_sub (sh_sub_c rfl (sh_sub_c rfl (sh_sub_c rfl (sh_sub_c rfl (sh_sub_c rfl (sh_sub_n)))))) (sl_149_71 e tg)
theorem sl_149 {x1 : Int32} {x2 : Int32} {m m2 : sh_X} {o : Outcome} {z : (Option Unit × sh_X)} (e : sf_149 x1 x2 m = some z) (tg : (sh_tVt o m2) z) : sh_Lk 149 0 [(0, .ref 42), (1, .int x1), (2, .int x2)] [] m o m2 11 267 := by
  unfold sf_149 at e
  refine sh_Lk_lift (T := m.T) (I := m.I) (J := m.J) (s := m.s) (pc2 := 9) (lv2 := [(0, .ref 42), (1, .int x1), (2, .int x2)]) (st2 := [.int x1, .ref 3, .ref 54]) (I2 := m.I) (J2 := m.J) (fun hT v kk => ?_) ?_
  · refine sh_w (i := (.aload_n 0)) (len := 1) (pc2 := 1) (lv2 := [(0, .ref 42), (1, .int x1), (2, .int x2)]) (st2 := [.ref 42]) (h2 := (sh_rep m.T m.I m.J)) rfl rfl rfl ?_
    refine sh_gR1 (len := 3) (x := .ref 54) (pc2 := 4) rfl rfl (sh_s41 hT.st) rfl rfl ?_
    refine sh_w (i := (.aload_n 0)) (len := 1) (pc2 := 5) (lv2 := [(0, .ref 42), (1, .int x1), (2, .int x2)]) (st2 := [.ref 42, .ref 54]) (h2 := (sh_rep m.T m.I m.J)) rfl rfl rfl ?_
    refine sh_gR1 (len := 3) (x := .ref 3) (pc2 := 8) rfl rfl (sh_s41 hT.st) rfl rfl ?_
    refine sh_w (i := (.iload_n 1)) (len := 1) (pc2 := 9) (lv2 := [(0, .ref 42), (1, .int x1), (2, .int x2)]) (st2 := [.int x1, .ref 3, .ref 54]) (h2 := (sh_rep m.T m.I m.J)) rfl rfl rfl ?_
    exact kk
  obtain ⟨r1, e1, e⟩ := sh_bc_e e
  refine sh_Lk_cV (r := (some (.int r1))) (st2 := [.int r1, .ref 54]) (pc2 := 12) (k2 := 83) (a := 2) (as := [.ref 3, .int x1]) (rest := [.ref 54]) rfl rfl rfl (fun hT => hT.t2) rfl rfl ⟨Nat.le_of_ble_eq_true rfl, Nat.le_of_ble_eq_true rfl⟩ (sl_83 e1 ⟨rfl, rfl⟩) rfl rfl (Nat.le_of_ble_eq_true rfl) (Nat.le_of_ble_eq_true rfl) ?_
  obtain ⟨r2, e2, e⟩ := sh_bc_e e
  refine sh_Lk_cV (r := (some (.int r2))) (st2 := [.int r2]) (pc2 := 15) (k2 := 92) (a := 53) (as := [.ref 54, .int r1]) (rest := []) rfl rfl rfl (fun hT => (sh_s53 hT.st)) rfl rfl ⟨Nat.le_of_ble_eq_true rfl, Nat.le_of_ble_eq_true rfl⟩ (sl_92 e2 ⟨rfl, rfl⟩) rfl rfl (Nat.le_of_ble_eq_true rfl) (Nat.le_of_ble_eq_true rfl) ?_
  refine sh_Lk_lift (T := m.T) (I := m.I) (J := m.J) (s := m.s) (pc2 := 16) (lv2 := [(0, .ref 42), (1, .int x1), (2, .int x2)]) (st2 := [.int (-1), .int r2]) (I2 := m.I) (J2 := m.J) (fun hT v kk => ?_) ?_
  · refine sh_w (i := (.iconst (-1))) (len := 1) (pc2 := 16) (lv2 := [(0, .ref 42), (1, .int x1), (2, .int x2)]) (st2 := [.int (-1), .int r2]) (h2 := (sh_rep m.T m.I m.J)) rfl rfl rfl ?_
    exact kk
  rcases sh_ite e with ⟨c, e⟩ | ⟨c, e⟩
  · refine sh_Lk_lift (T := m.T) (I := m.I) (J := m.J) (s := m.s) (pc2 := 28) (lv2 := [(0, .ref 42), (1, .int x1), (2, .int x2)]) (st2 := []) (I2 := m.I) (J2 := m.J) (fun hT v kk => ?_) ?_
    · refine sh_jc (c := .eq) (off := (12)) (pc2 := 28) true rfl (sh_Beqt c) rfl ?_
      exact kk
    exact sh_Lk_sub (sh_sub_c rfl (sh_sub_c rfl (sh_sub_c rfl (sh_sub_n)))) (sl_149_28 e tg)
  · refine sh_Lk_lift (T := m.T) (I := m.I) (J := m.J) (s := m.s) (pc2 := 25) (lv2 := [(0, .ref 42), (1, .int x1), (2, .int x2)]) (st2 := [.int x1, .int 3, .ref 3]) (I2 := m.I) (J2 := m.J) (fun hT v kk => ?_) ?_
    · refine sh_jc (c := .eq) (off := (12)) (pc2 := 19) false rfl (sh_Beqf c) rfl ?_
      refine sh_w (i := (.aload_n 0)) (len := 1) (pc2 := 20) (lv2 := [(0, .ref 42), (1, .int x1), (2, .int x2)]) (st2 := [.ref 42]) (h2 := (sh_rep m.T m.I m.J)) rfl rfl rfl ?_
      refine sh_gR1 (len := 3) (x := .ref 3) (pc2 := 23) rfl rfl (sh_s41 hT.st) rfl rfl ?_
      refine sh_w (i := (.iconst 3)) (len := 1) (pc2 := 24) (lv2 := [(0, .ref 42), (1, .int x1), (2, .int x2)]) (st2 := [.int 3, .ref 3]) (h2 := (sh_rep m.T m.I m.J)) rfl rfl rfl ?_
      refine sh_w (i := (.iload_n 1)) (len := 1) (pc2 := 25) (lv2 := [(0, .ref 42), (1, .int x1), (2, .int x2)]) (st2 := [.int x1, .int 3, .ref 3]) (h2 := (sh_rep m.T m.I m.J)) rfl rfl rfl ?_
      exact kk
    rcases sh_bt_e e with ⟨m13, e3, rfl⟩ | ⟨r3, m13, e3, e⟩
    · obtain ⟨rfl, rfl⟩ := tg
      exact sh_Lk_tV (k2 := 50) (a := 2) (as := [.ref 3, .int 3, .int x1]) (rest := []) rfl rfl rfl (fun hT => hT.t2) rfl rfl ⟨Nat.le_of_ble_eq_true rfl, Nat.le_of_ble_eq_true rfl⟩ (sl_50 e3 ⟨rfl, rfl⟩) rfl (Nat.le_of_ble_eq_true rfl) (Nat.le_of_ble_eq_true rfl) (Nat.le_of_ble_eq_true rfl) (Nat.le_of_ble_eq_true rfl) rfl
    refine sh_Lk_cV (r := none) (st2 := []) (pc2 := 28) (k2 := 50) (a := 2) (as := [.ref 3, .int 3, .int x1]) (rest := []) rfl rfl rfl (fun hT => hT.t2) rfl rfl ⟨Nat.le_of_ble_eq_true rfl, Nat.le_of_ble_eq_true rfl⟩ (sl_50 e3 ⟨rfl, rfl⟩) rfl rfl (Nat.le_of_ble_eq_true rfl) (Nat.le_of_ble_eq_true rfl) ?_
    exact sh_Lk_sub (sh_sub_c rfl (sh_sub_c rfl (sh_sub_c rfl (sh_sub_n)))) (sl_149_28 e tg)
