/-! LINKS, printed by gen27.py -/
theorem sl_296 {x1 : Int32} {m m2 : sh_X} {o : Outcome} {z : (Bool × sh_X)} (e : sf_296 x1 m = some z) (tg : (sh_tZ o m2) z) : sh_Lk 296 0 [(0, .ref 67), (1, .int x1)] [] m o m2 13 314 := by
  unfold sf_296 at e
  refine sh_Lk_lift (T := m.T) (I := m.I) (J := m.J) (s := m.s) (pc2 := 12) (lv2 := [(2, .int ((m.I 66 73) - 1)), (0, .ref 67), (1, .int x1)]) (st2 := [.int ((m.I 66 73) - 1), .ref 107]) (I2 := m.I) (J2 := m.J) (fun hT v kk => ?_) ?_
  · refine sh_w (i := (.aload_n 0)) (len := 1) (pc2 := 1) (lv2 := [(0, .ref 67), (1, .int x1)]) (st2 := [.ref 67]) (h2 := (sh_rep m.T m.I m.J)) rfl rfl rfl ?_
    refine sh_gI1 (len := 3) (x := m.I 66 73) (pc2 := 4) rfl rfl (sh_s66 hT.st) rfl rfl rfl ?_
    refine sh_w (i := (.iconst 1)) (len := 1) (pc2 := 5) (lv2 := [(0, .ref 67), (1, .int x1)]) (st2 := [.int 1, .int (m.I 66 73)]) (h2 := (sh_rep m.T m.I m.J)) rfl rfl rfl ?_
    refine sh_w (i := .isub) (len := 1) (pc2 := 6) (lv2 := [(0, .ref 67), (1, .int x1)]) (st2 := [.int ((m.I 66 73) - 1)]) (h2 := (sh_rep m.T m.I m.J)) rfl rfl rfl ?_
    refine sh_w (i := (.istore_n 2)) (len := 1) (pc2 := 7) (lv2 := [(2, .int ((m.I 66 73) - 1)), (0, .ref 67), (1, .int x1)]) (st2 := []) (h2 := (sh_rep m.T m.I m.J)) rfl rfl rfl ?_
    refine sh_w (i := (.aload_n 0)) (len := 1) (pc2 := 8) (lv2 := [(2, .int ((m.I 66 73) - 1)), (0, .ref 67), (1, .int x1)]) (st2 := [.ref 67]) (h2 := (sh_rep m.T m.I m.J)) rfl rfl rfl ?_
    refine sh_gR1 (len := 3) (x := .ref 107) (pc2 := 11) rfl rfl (sh_s66 hT.st) rfl rfl ?_
    refine sh_w (i := (.iload_n 2)) (len := 1) (pc2 := 12) (lv2 := [(2, .int ((m.I 66 73) - 1)), (0, .ref 67), (1, .int x1)]) (st2 := [.int ((m.I 66 73) - 1), .ref 107]) (h2 := (sh_rep m.T m.I m.J)) rfl rfl rfl ?_
    exact kk
  obtain ⟨c, e⟩ := sh_gd e
  refine sh_Lk_lift (T := m.T) (I := m.I) (J := m.J) (s := m.s) (pc2 := 13) (lv2 := [(2, .int ((m.I 66 73) - 1)), (0, .ref 67), (1, .int x1)]) (st2 := [.int (m.I 106 (Int32.toNatClampNeg ((m.I 66 73) - 1)))]) (I2 := m.I) (J2 := m.J) (fun hT v kk => ?_) ?_
  · refine sh_ia1 (x := m.I 106 (Int32.toNatClampNeg ((m.I 66 73) - 1))) (pc2 := 13) rfl (sh_s106 hT.st) (sh_okb1 c) (sh_okb2 c) rfl rfl ?_
    exact kk
  rcases sh_ite e with ⟨c, e⟩ | ⟨c, e⟩
  · refine sh_Lk_lift (T := m.T) (I := m.I) (J := m.J) (s := m.s) (pc2 := 22) (lv2 := [(2, .int ((m.I 66 73) - 1)), (0, .ref 67), (1, .int x1)]) (st2 := [.int 1, .int ((m.I 66 73) - 1), .ref 107]) (I2 := m.I) (J2 := m.J) (fun hT v kk => ?_) ?_
    · refine sh_j0 (c := .ne) (off := (22)) (pc2 := 16) false rfl (sh_Bnef c) rfl ?_
      refine sh_w (i := (.aload_n 0)) (len := 1) (pc2 := 17) (lv2 := [(2, .int ((m.I 66 73) - 1)), (0, .ref 67), (1, .int x1)]) (st2 := [.ref 67]) (h2 := (sh_rep m.T m.I m.J)) rfl rfl rfl ?_
      refine sh_gR1 (len := 3) (x := .ref 107) (pc2 := 20) rfl rfl (sh_s66 hT.st) rfl rfl ?_
      refine sh_w (i := (.iload_n 2)) (len := 1) (pc2 := 21) (lv2 := [(2, .int ((m.I 66 73) - 1)), (0, .ref 67), (1, .int x1)]) (st2 := [.int ((m.I 66 73) - 1), .ref 107]) (h2 := (sh_rep m.T m.I m.J)) rfl rfl rfl ?_
      refine sh_w (i := (.iconst 1)) (len := 1) (pc2 := 22) (lv2 := [(2, .int ((m.I 66 73) - 1)), (0, .ref 67), (1, .int x1)]) (st2 := [.int 1, .int ((m.I 66 73) - 1), .ref 107]) (h2 := (sh_rep m.T m.I m.J)) rfl rfl rfl ?_
      exact kk
    obtain ⟨c, e⟩ := sh_gd e
    refine sh_Lk_lift (T := m.T) (I := m.I) (J := m.J) (s := m.s) (pc2 := 29) (lv2 := [(2, .int ((m.I 66 73) - 1)), (0, .ref 67), (1, .int x1)]) (st2 := [.int x1, .ref 75, .ref 67]) (I2 := sh_u2 m.I 106 (Int32.toNatClampNeg ((m.I 66 73) - 1)) 1) (J2 := m.J) (fun hT v kk => ?_) ?_
    · refine sh_is1 (x := 1) (i := (m.I 66 73) - 1) (pc2 := 23) rfl (sh_s106 hT.st) (sh_okb1 c) (sh_okb2 c) rfl ?_
      refine sh_w (i := (.aload_n 0)) (len := 1) (pc2 := 24) (lv2 := [(2, .int ((m.I 66 73) - 1)), (0, .ref 67), (1, .int x1)]) (st2 := [.ref 67]) (h2 := (sh_rep m.T (sh_u2 m.I 106 (Int32.toNatClampNeg ((m.I 66 73) - 1)) 1) m.J)) rfl rfl rfl ?_
      refine sh_w (i := (.aload_n 0)) (len := 1) (pc2 := 25) (lv2 := [(2, .int ((m.I 66 73) - 1)), (0, .ref 67), (1, .int x1)]) (st2 := [.ref 67, .ref 67]) (h2 := (sh_rep m.T (sh_u2 m.I 106 (Int32.toNatClampNeg ((m.I 66 73) - 1)) 1) m.J)) rfl rfl rfl ?_
      refine sh_gR1 (len := 3) (x := .ref 75) (pc2 := 28) rfl rfl (sh_s66 hT.st) rfl rfl ?_
      refine sh_w (i := (.iload_n 1)) (len := 1) (pc2 := 29) (lv2 := [(2, .int ((m.I 66 73) - 1)), (0, .ref 67), (1, .int x1)]) (st2 := [.int x1, .ref 75, .ref 67]) (h2 := (sh_rep m.T (sh_u2 m.I 106 (Int32.toNatClampNeg ((m.I 66 73) - 1)) 1) m.J)) rfl rfl rfl ?_
      exact kk
    obtain ⟨c, e⟩ := sh_gd e
    refine sh_Lk_lift (T := m.T) (I := sh_u2 m.I 106 (Int32.toNatClampNeg ((m.I 66 73) - 1)) 1) (J := m.J) (s := m.s) (pc2 := 30) (lv2 := [(2, .int ((m.I 66 73) - 1)), (0, .ref 67), (1, .int x1)]) (st2 := [.int (m.I 74 (Int32.toNatClampNeg x1)), .ref 67]) (I2 := sh_u2 m.I 106 (Int32.toNatClampNeg ((m.I 66 73) - 1)) 1) (J2 := m.J) (fun hT v kk => ?_) ?_
    · refine sh_ia1 (x := m.I 74 (Int32.toNatClampNeg x1)) (pc2 := 30) rfl (sh_s74 hT.st) (sh_okb1 c) (sh_okb2 c) rfl rfl ?_
      exact kk
    obtain ⟨r1, m11, e1, e⟩ := sh_bn_e e
    refine sh_Lk_cV (r := none) (st2 := []) (pc2 := 33) (k2 := 295) (a := 66) (as := [.ref 67, .int (m.I 74 (Int32.toNatClampNeg x1))]) (rest := []) rfl rfl rfl (fun hT => (sh_s66 hT.st)) rfl rfl ⟨Nat.le_of_ble_eq_true rfl, Nat.le_of_ble_eq_true rfl⟩ (sl_295 e1 ⟨rfl, rfl⟩) rfl rfl (Nat.le_of_ble_eq_true rfl) (Nat.le_of_ble_eq_true rfl) ?_
    refine sh_Lk_lift (T := m11.T) (I := m11.I) (J := m11.J) (s := m11.s) (pc2 := 34) (lv2 := [(2, .int ((m.I 66 73) - 1)), (0, .ref 67), (1, .int x1)]) (st2 := [.int 1]) (I2 := m11.I) (J2 := m11.J) (fun hT v kk => ?_) ?_
    · refine sh_w (i := (.iconst 1)) (len := 1) (pc2 := 34) (lv2 := [(2, .int ((m.I 66 73) - 1)), (0, .ref 67), (1, .int x1)]) (st2 := [.int 1]) (h2 := (sh_rep m11.T m11.I m11.J)) rfl rfl rfl ?_
      exact kk
    obtain rfl := Option.some.inj e
    obtain ⟨rfl, rfl⟩ := tg
    exact sh_Lk_ret (i := .ireturn) rfl rfl rfl (Nat.le_of_ble_eq_true rfl) (Nat.le_of_ble_eq_true rfl)
  · refine sh_Lk_lift (T := m.T) (I := m.I) (J := m.J) (s := m.s) (pc2 := 50) (lv2 := [(2, .int ((m.I 66 73) - 1)), (0, .ref 67), (1, .int x1)]) (st2 := [.int x1, .ref 73]) (I2 := sh_u2 m.I 66 73 ((m.I 66 73) - 1)) (J2 := m.J) (fun hT v kk => ?_) ?_
    · refine sh_j0 (c := .ne) (off := (22)) (pc2 := 35) true rfl (sh_Bnet c) rfl ?_
      refine sh_w (i := (.aload_n 0)) (len := 1) (pc2 := 36) (lv2 := [(2, .int ((m.I 66 73) - 1)), (0, .ref 67), (1, .int x1)]) (st2 := [.ref 67]) (h2 := (sh_rep m.T m.I m.J)) rfl rfl rfl ?_
      refine sh_w (i := .dup) (len := 1) (pc2 := 37) (lv2 := [(2, .int ((m.I 66 73) - 1)), (0, .ref 67), (1, .int x1)]) (st2 := [.ref 67, .ref 67]) (h2 := (sh_rep m.T m.I m.J)) rfl rfl rfl ?_
      refine sh_gI1 (len := 3) (x := m.I 66 73) (pc2 := 40) rfl rfl (sh_s66 hT.st) rfl rfl rfl ?_
      refine sh_w (i := (.iconst 1)) (len := 1) (pc2 := 41) (lv2 := [(2, .int ((m.I 66 73) - 1)), (0, .ref 67), (1, .int x1)]) (st2 := [.int 1, .int (m.I 66 73), .ref 67]) (h2 := (sh_rep m.T m.I m.J)) rfl rfl rfl ?_
      refine sh_w (i := .isub) (len := 1) (pc2 := 42) (lv2 := [(2, .int ((m.I 66 73) - 1)), (0, .ref 67), (1, .int x1)]) (st2 := [.int ((m.I 66 73) - 1), .ref 67]) (h2 := (sh_rep m.T m.I m.J)) rfl rfl rfl ?_
      refine sh_pI1 (x := (m.I 66 73) - 1) (pc2 := 45) rfl rfl (sh_s66 hT.st) rfl rfl rfl rfl ?_
      refine sh_w (i := (.aload_n 0)) (len := 1) (pc2 := 46) (lv2 := [(2, .int ((m.I 66 73) - 1)), (0, .ref 67), (1, .int x1)]) (st2 := [.ref 67]) (h2 := (sh_rep m.T (sh_u2 m.I 66 73 ((m.I 66 73) - 1)) m.J)) rfl rfl rfl ?_
      refine sh_gR1 (len := 3) (x := .ref 73) (pc2 := 49) rfl rfl (sh_s66 hT.st) rfl rfl ?_
      refine sh_w (i := (.iload_n 1)) (len := 1) (pc2 := 50) (lv2 := [(2, .int ((m.I 66 73) - 1)), (0, .ref 67), (1, .int x1)]) (st2 := [.int x1, .ref 73]) (h2 := (sh_rep m.T (sh_u2 m.I 66 73 ((m.I 66 73) - 1)) m.J)) rfl rfl rfl ?_
      exact kk
    obtain ⟨c, e⟩ := sh_gd e
    refine sh_Lk_lift (T := m.T) (I := sh_u2 m.I 66 73 ((m.I 66 73) - 1)) (J := m.J) (s := m.s) (pc2 := 53) (lv2 := [(2, .int ((m.I 66 73) - 1)), (0, .ref 67), (1, .int x1)]) (st2 := [.int 6, .int (m.I 72 (Int32.toNatClampNeg x1))]) (I2 := sh_u2 m.I 66 73 ((m.I 66 73) - 1)) (J2 := m.J) (fun hT v kk => ?_) ?_
    · refine sh_ia1 (x := m.I 72 (Int32.toNatClampNeg x1)) (pc2 := 51) rfl (sh_s72 hT.st) (sh_okb1 c) (sh_okb2 c) rfl rfl ?_
      refine sh_w (i := (.bipush 6)) (len := 2) (pc2 := 53) (lv2 := [(2, .int ((m.I 66 73) - 1)), (0, .ref 67), (1, .int x1)]) (st2 := [.int 6, .int (m.I 72 (Int32.toNatClampNeg x1))]) (h2 := (sh_rep m.T (sh_u2 m.I 66 73 ((m.I 66 73) - 1)) m.J)) rfl rfl rfl ?_
      exact kk
    rcases sh_ite e with ⟨c, e⟩ | ⟨c, e⟩
    · refine sh_Lk_lift (T := m.T) (I := sh_u2 m.I 66 73 ((m.I 66 73) - 1)) (J := m.J) (s := m.s) (pc2 := 58) (lv2 := [(2, .int ((m.I 66 73) - 1)), (0, .ref 67), (1, .int x1)]) (st2 := [.int x1, .ref 67]) (I2 := sh_u2 m.I 66 73 ((m.I 66 73) - 1)) (J2 := m.J) (fun hT v kk => ?_) ?_
      · refine sh_jc (c := .ne) (off := (11)) (pc2 := 56) false rfl (sh_Bnef c) rfl ?_
        refine sh_w (i := (.aload_n 0)) (len := 1) (pc2 := 57) (lv2 := [(2, .int ((m.I 66 73) - 1)), (0, .ref 67), (1, .int x1)]) (st2 := [.ref 67]) (h2 := (sh_rep m.T (sh_u2 m.I 66 73 ((m.I 66 73) - 1)) m.J)) rfl rfl rfl ?_
        refine sh_w (i := (.iload_n 1)) (len := 1) (pc2 := 58) (lv2 := [(2, .int ((m.I 66 73) - 1)), (0, .ref 67), (1, .int x1)]) (st2 := [.int x1, .ref 67]) (h2 := (sh_rep m.T (sh_u2 m.I 66 73 ((m.I 66 73) - 1)) m.J)) rfl rfl rfl ?_
        exact kk
      obtain ⟨r2, m12, e2, e⟩ := sh_bn_e e
      refine sh_Lk_cV (r := (some (.int (sh_b2 r2)))) (st2 := [.int (sh_b2 r2)]) (pc2 := 61) (k2 := 297) (a := 66) (as := [.ref 67, .int x1]) (rest := []) rfl rfl rfl (fun hT => (sh_s66 hT.st)) rfl rfl ⟨Nat.le_of_ble_eq_true rfl, Nat.le_of_ble_eq_true rfl⟩ (sl_297 e2 ⟨rfl, rfl⟩) rfl rfl (Nat.le_of_ble_eq_true rfl) (Nat.le_of_ble_eq_true rfl) ?_
      refine sh_Lk_lift (T := m12.T) (I := m12.I) (J := m12.J) (s := m12.s) (pc2 := 69) (lv2 := [(2, .int ((m.I 66 73) - 1)), (0, .ref 67), (1, .int x1)]) (st2 := [.int (sh_b2 r2)]) (I2 := m12.I) (J2 := m12.J) (fun hT v kk => ?_) ?_
      · refine sh_w (i := (.goto 8)) (len := 3) (pc2 := 69) (lv2 := [(2, .int ((m.I 66 73) - 1)), (0, .ref 67), (1, .int x1)]) (st2 := [.int (sh_b2 r2)]) (h2 := (sh_rep m12.T m12.I m12.J)) rfl rfl rfl ?_
        exact kk
      obtain rfl := Option.some.inj e
      obtain ⟨rfl, rfl⟩ := tg
      exact sh_Lk_ret (i := .ireturn) rfl rfl (sh_rb rfl _) (Nat.le_of_ble_eq_true rfl) (Nat.le_of_ble_eq_true rfl)
    · refine sh_Lk_lift (T := m.T) (I := sh_u2 m.I 66 73 ((m.I 66 73) - 1)) (J := m.J) (s := m.s) (pc2 := 66) (lv2 := [(2, .int ((m.I 66 73) - 1)), (0, .ref 67), (1, .int x1)]) (st2 := [.int x1, .ref 67]) (I2 := sh_u2 m.I 66 73 ((m.I 66 73) - 1)) (J2 := m.J) (fun hT v kk => ?_) ?_
      · refine sh_jc (c := .ne) (off := (11)) (pc2 := 64) true rfl (sh_Bnet c) rfl ?_
        refine sh_w (i := (.aload_n 0)) (len := 1) (pc2 := 65) (lv2 := [(2, .int ((m.I 66 73) - 1)), (0, .ref 67), (1, .int x1)]) (st2 := [.ref 67]) (h2 := (sh_rep m.T (sh_u2 m.I 66 73 ((m.I 66 73) - 1)) m.J)) rfl rfl rfl ?_
        refine sh_w (i := (.iload_n 1)) (len := 1) (pc2 := 66) (lv2 := [(2, .int ((m.I 66 73) - 1)), (0, .ref 67), (1, .int x1)]) (st2 := [.int x1, .ref 67]) (h2 := (sh_rep m.T (sh_u2 m.I 66 73 ((m.I 66 73) - 1)) m.J)) rfl rfl rfl ?_
        exact kk
      obtain ⟨r3, m13, e3, e⟩ := sh_bn_e e
      refine sh_Lk_cV (r := (some (.int (sh_b2 r3)))) (st2 := [.int (sh_b2 r3)]) (pc2 := 69) (k2 := 301) (a := 66) (as := [.ref 67, .int x1]) (rest := []) rfl rfl rfl (fun hT => (sh_s66 hT.st)) rfl rfl ⟨Nat.le_of_ble_eq_true rfl, Nat.le_of_ble_eq_true rfl⟩ (sl_301 e3 ⟨rfl, rfl⟩) rfl rfl (Nat.le_of_ble_eq_true rfl) (Nat.le_of_ble_eq_true rfl) ?_
      obtain rfl := Option.some.inj e
      obtain ⟨rfl, rfl⟩ := tg
      exact sh_Lk_ret (i := .ireturn) rfl rfl (sh_rb rfl _) (Nat.le_of_ble_eq_true rfl) (Nat.le_of_ble_eq_true rfl)
theorem sl_304_118 {x1 : Int32} {m m2 : sh_X} {o : Outcome} {z : (Bool × sh_X)} (e : sf_304_118 x1 m = some z) (tg : (sh_tZ o m2) z) : sh_Lk 304 118 [(0, .ref 67), (1, .int x1)] [] m o m2 12 289 := by
  unfold sf_304_118 at e
  refine sh_Lk_lift (T := m.T) (I := m.I) (J := m.J) (s := m.s) (pc2 := 129) (lv2 := [(0, .ref 67), (1, .int x1)]) (st2 := [.int x1, .ref 74, .ref 70, .int 4, .ref 67]) (I2 := m.I) (J2 := m.J) (fun hT v kk => ?_) ?_
  · refine sh_w (i := (.aload_n 0)) (len := 1) (pc2 := 119) (lv2 := [(0, .ref 67), (1, .int x1)]) (st2 := [.ref 67]) (h2 := (sh_rep m.T m.I m.J)) rfl rfl rfl ?_
    refine sh_w (i := (.iconst 4)) (len := 1) (pc2 := 120) (lv2 := [(0, .ref 67), (1, .int x1)]) (st2 := [.int 4, .ref 67]) (h2 := (sh_rep m.T m.I m.J)) rfl rfl rfl ?_
    refine sh_w (i := (.aload_n 0)) (len := 1) (pc2 := 121) (lv2 := [(0, .ref 67), (1, .int x1)]) (st2 := [.ref 67, .int 4, .ref 67]) (h2 := (sh_rep m.T m.I m.J)) rfl rfl rfl ?_
    refine sh_gR1 (len := 3) (x := .ref 70) (pc2 := 124) rfl rfl (sh_s66 hT.st) rfl rfl ?_
    refine sh_w (i := (.aload_n 0)) (len := 1) (pc2 := 125) (lv2 := [(0, .ref 67), (1, .int x1)]) (st2 := [.ref 67, .ref 70, .int 4, .ref 67]) (h2 := (sh_rep m.T m.I m.J)) rfl rfl rfl ?_
    refine sh_gR1 (len := 3) (x := .ref 74) (pc2 := 128) rfl rfl (sh_s66 hT.st) rfl rfl ?_
    refine sh_w (i := (.iload_n 1)) (len := 1) (pc2 := 129) (lv2 := [(0, .ref 67), (1, .int x1)]) (st2 := [.int x1, .ref 74, .ref 70, .int 4, .ref 67]) (h2 := (sh_rep m.T m.I m.J)) rfl rfl rfl ?_
    exact kk
  obtain ⟨c, e⟩ := sh_gd e
  refine sh_Lk_lift (T := m.T) (I := m.I) (J := m.J) (s := m.s) (pc2 := 130) (lv2 := [(0, .ref 67), (1, .int x1)]) (st2 := [.int (m.I 73 (Int32.toNatClampNeg x1)), .ref 70, .int 4, .ref 67]) (I2 := m.I) (J2 := m.J) (fun hT v kk => ?_) ?_
  · refine sh_ia1 (x := m.I 73 (Int32.toNatClampNeg x1)) (pc2 := 130) rfl (sh_s73 hT.st) (sh_okb1 c) (sh_okb2 c) rfl rfl ?_
    exact kk
  obtain ⟨c, e⟩ := sh_gd e
  refine sh_Lk_lift (T := m.T) (I := m.I) (J := m.J) (s := m.s) (pc2 := 131) (lv2 := [(0, .ref 67), (1, .int x1)]) (st2 := [.int (m.I 69 (Int32.toNatClampNeg (m.I 73 (Int32.toNatClampNeg x1)))), .int 4, .ref 67]) (I2 := m.I) (J2 := m.J) (fun hT v kk => ?_) ?_
  · refine sh_ia1 (x := m.I 69 (Int32.toNatClampNeg (m.I 73 (Int32.toNatClampNeg x1)))) (pc2 := 131) rfl (sh_s69 hT.st) (sh_okb1 c) (sh_okb2 c) rfl rfl ?_
    exact kk
  obtain ⟨r1, m11, e1, e⟩ := sh_bn_e e
  refine sh_Lk_cV (r := (some (.int (sh_b2 r1)))) (st2 := [.int (sh_b2 r1)]) (pc2 := 134) (k2 := 252) (a := 66) (as := [.ref 67, .int 4, .int (m.I 69 (Int32.toNatClampNeg (m.I 73 (Int32.toNatClampNeg x1))))]) (rest := []) rfl rfl rfl (fun hT => (sh_s66 hT.st)) rfl rfl ⟨Nat.le_of_ble_eq_true rfl, Nat.le_of_ble_eq_true rfl⟩ (sl_252 e1 ⟨rfl, rfl⟩) rfl rfl (Nat.le_of_ble_eq_true rfl) (Nat.le_of_ble_eq_true rfl) ?_
  obtain rfl := Option.some.inj e
  obtain ⟨rfl, rfl⟩ := tg
  exact sh_Lk_ret (i := .ireturn) rfl rfl (sh_rb rfl _) (Nat.le_of_ble_eq_true rfl) (Nat.le_of_ble_eq_true rfl)
theorem sl_304_329 {x1 : Int32} {y1 : Int32} {m m2 : sh_X} {o : Outcome} {z : (Bool × sh_X)} (e : sf_304_329 x1 y1 m = some z) (tg : (sh_tZ o m2) z) : sh_Lk 304 329 [(0, .ref 67), (1, .int x1)] [.int y1, .ref 67] m o m2 12 289 := by
  unfold sf_304_329 at e
  refine sh_Lk_lift (T := m.T) (I := m.I) (J := m.J) (s := m.s) (pc2 := 334) (lv2 := [(0, .ref 67), (1, .int x1)]) (st2 := [.int x1, .ref 74, .int y1, .ref 67]) (I2 := m.I) (J2 := m.J) (fun hT v kk => ?_) ?_
  · refine sh_w (i := (.aload_n 0)) (len := 1) (pc2 := 330) (lv2 := [(0, .ref 67), (1, .int x1)]) (st2 := [.ref 67, .int y1, .ref 67]) (h2 := (sh_rep m.T m.I m.J)) rfl rfl rfl ?_
    refine sh_gR1 (len := 3) (x := .ref 74) (pc2 := 333) rfl rfl (sh_s66 hT.st) rfl rfl ?_
    refine sh_w (i := (.iload_n 1)) (len := 1) (pc2 := 334) (lv2 := [(0, .ref 67), (1, .int x1)]) (st2 := [.int x1, .ref 74, .int y1, .ref 67]) (h2 := (sh_rep m.T m.I m.J)) rfl rfl rfl ?_
    exact kk
  obtain ⟨c, e⟩ := sh_gd e
  refine sh_Lk_lift (T := m.T) (I := m.I) (J := m.J) (s := m.s) (pc2 := 335) (lv2 := [(0, .ref 67), (1, .int x1)]) (st2 := [.int (m.I 73 (Int32.toNatClampNeg x1)), .int y1, .ref 67]) (I2 := m.I) (J2 := m.J) (fun hT v kk => ?_) ?_
  · refine sh_ia1 (x := m.I 73 (Int32.toNatClampNeg x1)) (pc2 := 335) rfl (sh_s73 hT.st) (sh_okb1 c) (sh_okb2 c) rfl rfl ?_
    exact kk
  obtain ⟨r1, m11, e1, e⟩ := sh_bn_e e
  refine sh_Lk_cV (r := (some (.int (sh_b2 r1)))) (st2 := [.int (sh_b2 r1)]) (pc2 := 338) (k2 := 292) (a := 66) (as := [.ref 67, .int y1, .int (m.I 73 (Int32.toNatClampNeg x1))]) (rest := []) rfl rfl rfl (fun hT => (sh_s66 hT.st)) rfl rfl ⟨Nat.le_of_ble_eq_true rfl, Nat.le_of_ble_eq_true rfl⟩ (sl_292 e1 ⟨rfl, rfl⟩) rfl rfl (Nat.le_of_ble_eq_true rfl) (Nat.le_of_ble_eq_true rfl) ?_
  obtain rfl := Option.some.inj e
  obtain ⟨rfl, rfl⟩ := tg
  exact sh_Lk_ret (i := .ireturn) rfl rfl (sh_rb rfl _) (Nat.le_of_ble_eq_true rfl) (Nat.le_of_ble_eq_true rfl)
theorem sl_304_292 {x1 : Int32} {x7 : Bool} {x10 : Int32} {x16 : Int64} {m m2 : sh_X} {o : Outcome} {z : (Bool × sh_X)} (e : sf_304_292 x1 x7 x10 x16 m = some z) (tg : (sh_tZ o m2) z) : sh_Lk 304 292 [(0, .ref 67), (1, .int x1), (7, .int (sh_b2 x7)), (10, .int x10), (16, .long x16)] [] m o m2 12 289 := by
  unfold sf_304_292 at e
  refine sh_Lk_lift (T := m.T) (I := m.I) (J := m.J) (s := m.s) (pc2 := 303) (lv2 := [(0, .ref 67), (1, .int x1), (7, .int (sh_b2 x7)), (10, .int x10), (16, .long x16)]) (st2 := [.long x16, .int (m.I 66 44), .int (m.I 66 43), .ref 67]) (I2 := m.I) (J2 := m.J) (fun hT v kk => ?_) ?_
  · refine sh_w (i := (.aload_n 0)) (len := 1) (pc2 := 293) (lv2 := [(0, .ref 67), (1, .int x1), (7, .int (sh_b2 x7)), (10, .int x10), (16, .long x16)]) (st2 := [.ref 67]) (h2 := (sh_rep m.T m.I m.J)) rfl rfl rfl ?_
    refine sh_w (i := (.aload_n 0)) (len := 1) (pc2 := 294) (lv2 := [(0, .ref 67), (1, .int x1), (7, .int (sh_b2 x7)), (10, .int x10), (16, .long x16)]) (st2 := [.ref 67, .ref 67]) (h2 := (sh_rep m.T m.I m.J)) rfl rfl rfl ?_
    refine sh_gI1 (len := 3) (x := m.I 66 43) (pc2 := 297) rfl rfl (sh_s66 hT.st) rfl rfl rfl ?_
    refine sh_w (i := (.aload_n 0)) (len := 1) (pc2 := 298) (lv2 := [(0, .ref 67), (1, .int x1), (7, .int (sh_b2 x7)), (10, .int x10), (16, .long x16)]) (st2 := [.ref 67, .int (m.I 66 43), .ref 67]) (h2 := (sh_rep m.T m.I m.J)) rfl rfl rfl ?_
    refine sh_gI1 (len := 3) (x := m.I 66 44) (pc2 := 301) rfl rfl (sh_s66 hT.st) rfl rfl rfl ?_
    refine sh_w (i := (.lload 16)) (len := 2) (pc2 := 303) (lv2 := [(0, .ref 67), (1, .int x1), (7, .int (sh_b2 x7)), (10, .int x10), (16, .long x16)]) (st2 := [.long x16, .int (m.I 66 44), .int (m.I 66 43), .ref 67]) (h2 := (sh_rep m.T m.I m.J)) rfl rfl rfl ?_
    exact kk
  refine sh_Lk_cS (r := (some (.long (sf_288 (m.I 66 43) (m.I 66 44) x16)))) (st2 := [.long (sf_288 (m.I 66 43) (m.I 66 44) x16), .ref 67]) (pc2 := 306) (k2 := 288) (as := [.int (m.I 66 43), .int (m.I 66 44), .long x16]) (rest := [.ref 67]) rfl rfl (by decide) (Nat.le_of_ble_eq_true rfl) rfl rfl ⟨Nat.le_of_ble_eq_true rfl, Nat.le_of_ble_eq_true rfl⟩ (sl_288 (m := m) rfl ⟨rfl, rfl⟩) rfl rfl (Nat.le_of_ble_eq_true rfl) (Nat.le_of_ble_eq_true rfl) ?_
  refine sh_Lk_lift (T := m.T) (I := m.I) (J := m.J) (s := m.s) (pc2 := 312) (lv2 := [(0, .ref 67), (1, .int x1), (7, .int (sh_b2 x7)), (10, .int x10), (16, .long x16)]) (st2 := [.int (sh_b2 x7), .ref 67]) (I2 := m.I) (J2 := sh_u2 m.J 66 46 (sf_288 (m.I 66 43) (m.I 66 44) x16)) (fun hT v kk => ?_) ?_
  · refine sh_pJ1 (x := sf_288 (m.I 66 43) (m.I 66 44) x16) (pc2 := 309) rfl rfl (sh_s66 hT.st) rfl rfl rfl rfl ?_
    refine sh_w (i := (.aload_n 0)) (len := 1) (pc2 := 310) (lv2 := [(0, .ref 67), (1, .int x1), (7, .int (sh_b2 x7)), (10, .int x10), (16, .long x16)]) (st2 := [.ref 67]) (h2 := (sh_rep m.T m.I (sh_u2 m.J 66 46 (sf_288 (m.I 66 43) (m.I 66 44) x16)))) rfl rfl rfl ?_
    refine sh_w (i := (.iload 7)) (len := 2) (pc2 := 312) (lv2 := [(0, .ref 67), (1, .int x1), (7, .int (sh_b2 x7)), (10, .int x10), (16, .long x16)]) (st2 := [.int (sh_b2 x7), .ref 67]) (h2 := (sh_rep m.T m.I (sh_u2 m.J 66 46 (sf_288 (m.I 66 43) (m.I 66 44) x16)))) rfl rfl rfl ?_
    exact kk
  rcases sh_ite e with ⟨c, e⟩ | ⟨c, e⟩
  · refine sh_Lk_lift (T := m.T) (I := m.I) (J := sh_u2 m.J 66 46 (sf_288 (m.I 66 43) (m.I 66 44) x16)) (s := m.s) (pc2 := 329) (lv2 := [(0, .ref 67), (1, .int x1), (7, .int (sh_b2 x7)), (10, .int x10), (16, .long x16)]) (st2 := [.int (m.I 66 44), .ref 67]) (I2 := m.I) (J2 := sh_u2 m.J 66 46 (sf_288 (m.I 66 43) (m.I 66 44) x16)) (fun hT v kk => ?_) ?_
    · refine sh_j0 (c := .eq) (off := (10)) (pc2 := 315) false rfl (sh_Zeqf c) rfl ?_
      refine sh_w (i := (.aload_n 0)) (len := 1) (pc2 := 316) (lv2 := [(0, .ref 67), (1, .int x1), (7, .int (sh_b2 x7)), (10, .int x10), (16, .long x16)]) (st2 := [.ref 67, .ref 67]) (h2 := (sh_rep m.T m.I (sh_u2 m.J 66 46 (sf_288 (m.I 66 43) (m.I 66 44) x16)))) rfl rfl rfl ?_
      refine sh_gI1 (len := 3) (x := m.I 66 44) (pc2 := 319) rfl rfl (sh_s66 hT.st) rfl rfl rfl ?_
      refine sh_w (i := (.goto 10)) (len := 3) (pc2 := 329) (lv2 := [(0, .ref 67), (1, .int x1), (7, .int (sh_b2 x7)), (10, .int x10), (16, .long x16)]) (st2 := [.int (m.I 66 44), .ref 67]) (h2 := (sh_rep m.T m.I (sh_u2 m.J 66 46 (sf_288 (m.I 66 43) (m.I 66 44) x16)))) rfl rfl rfl ?_
      exact kk
    exact sh_Lk_sub (sh_sub_c rfl (sh_sub_c rfl (sh_sub_n))) (sl_304_329 e tg)
  · refine sh_Lk_lift (T := m.T) (I := m.I) (J := sh_u2 m.J 66 46 (sf_288 (m.I 66 43) (m.I 66 44) x16)) (s := m.s) (pc2 := 329) (lv2 := [(0, .ref 67), (1, .int x1), (7, .int (sh_b2 x7)), (10, .int x10), (16, .long x16)]) (st2 := [.int ((m.I 66 44) * x10), .ref 67]) (I2 := m.I) (J2 := sh_u2 m.J 66 46 (sf_288 (m.I 66 43) (m.I 66 44) x16)) (fun hT v kk => ?_) ?_
    · refine sh_j0 (c := .eq) (off := (10)) (pc2 := 322) true rfl (sh_Zeqt c) rfl ?_
      refine sh_w (i := (.aload_n 0)) (len := 1) (pc2 := 323) (lv2 := [(0, .ref 67), (1, .int x1), (7, .int (sh_b2 x7)), (10, .int x10), (16, .long x16)]) (st2 := [.ref 67, .ref 67]) (h2 := (sh_rep m.T m.I (sh_u2 m.J 66 46 (sf_288 (m.I 66 43) (m.I 66 44) x16)))) rfl rfl rfl ?_
      refine sh_gI1 (len := 3) (x := m.I 66 44) (pc2 := 326) rfl rfl (sh_s66 hT.st) rfl rfl rfl ?_
      refine sh_w (i := (.iload 10)) (len := 2) (pc2 := 328) (lv2 := [(0, .ref 67), (1, .int x1), (7, .int (sh_b2 x7)), (10, .int x10), (16, .long x16)]) (st2 := [.int x10, .int (m.I 66 44), .ref 67]) (h2 := (sh_rep m.T m.I (sh_u2 m.J 66 46 (sf_288 (m.I 66 43) (m.I 66 44) x16)))) rfl rfl rfl ?_
      refine sh_w (i := .imul) (len := 1) (pc2 := 329) (lv2 := [(0, .ref 67), (1, .int x1), (7, .int (sh_b2 x7)), (10, .int x10), (16, .long x16)]) (st2 := [.int ((m.I 66 44) * x10), .ref 67]) (h2 := (sh_rep m.T m.I (sh_u2 m.J 66 46 (sf_288 (m.I 66 43) (m.I 66 44) x16)))) rfl rfl rfl ?_
      exact kk
    exact sh_Lk_sub (sh_sub_c rfl (sh_sub_c rfl (sh_sub_n))) (sl_304_329 e tg)
theorem sl_304_225 {x1 : Int32} {x7 : Bool} {x10 : Int32} {y0 : Int64} {m m2 : sh_X} {o : Outcome} {z : (Bool × sh_X)} (e : sf_304_225 x1 x7 x10 y0 m = some z) (tg : (sh_tZ o m2) z) : sh_Lk 304 225 [(0, .ref 67), (1, .int x1), (7, .int (sh_b2 x7)), (10, .int x10)] [.long y0] m o m2 12 289 := by
  unfold sf_304_225 at e
  refine sh_Lk_lift (T := m.T) (I := m.I) (J := m.J) (s := m.s) (pc2 := 292) (lv2 := [(16, .long y0), (0, .ref 67), (1, .int x1), (7, .int (sh_b2 x7)), (10, .int x10)]) (st2 := []) (I2 := m.I) (J2 := m.J) (fun hT v kk => ?_) ?_
  · refine sh_w (i := (.lstore 16)) (len := 2) (pc2 := 227) (lv2 := [(16, .long y0), (0, .ref 67), (1, .int x1), (7, .int (sh_b2 x7)), (10, .int x10)]) (st2 := []) (h2 := (sh_rep m.T m.I m.J)) rfl rfl rfl ?_
    refine sh_w (i := (.goto 65)) (len := 3) (pc2 := 292) (lv2 := [(16, .long y0), (0, .ref 67), (1, .int x1), (7, .int (sh_b2 x7)), (10, .int x10)]) (st2 := []) (h2 := (sh_rep m.T m.I m.J)) rfl rfl rfl ?_
    exact kk
  exact sh_Lk_sub (sh_sub_c rfl (sh_sub_c rfl (sh_sub_c rfl (sh_sub_c rfl (sh_sub_c rfl (sh_sub_n)))))) (sl_304_292 e tg)
theorem sl_304_270 {x1 : Int32} {x7 : Bool} {x10 : Int32} {y0 : Int64} {m m2 : sh_X} {o : Outcome} {z : (Bool × sh_X)} (e : sf_304_270 x1 x7 x10 y0 m = some z) (tg : (sh_tZ o m2) z) : sh_Lk 304 270 [(0, .ref 67), (1, .int x1), (7, .int (sh_b2 x7)), (10, .int x10)] [.long y0] m o m2 12 289 := by
  unfold sf_304_270 at e
  refine sh_Lk_lift (T := m.T) (I := m.I) (J := m.J) (s := m.s) (pc2 := 292) (lv2 := [(16, .long y0), (0, .ref 67), (1, .int x1), (7, .int (sh_b2 x7)), (10, .int x10)]) (st2 := []) (I2 := m.I) (J2 := m.J) (fun hT v kk => ?_) ?_
  · refine sh_w (i := (.lstore 16)) (len := 2) (pc2 := 272) (lv2 := [(16, .long y0), (0, .ref 67), (1, .int x1), (7, .int (sh_b2 x7)), (10, .int x10)]) (st2 := []) (h2 := (sh_rep m.T m.I m.J)) rfl rfl rfl ?_
    refine sh_w (i := (.goto 20)) (len := 3) (pc2 := 292) (lv2 := [(16, .long y0), (0, .ref 67), (1, .int x1), (7, .int (sh_b2 x7)), (10, .int x10)]) (st2 := []) (h2 := (sh_rep m.T m.I m.J)) rfl rfl rfl ?_
    exact kk
  exact sh_Lk_sub (sh_sub_c rfl (sh_sub_c rfl (sh_sub_c rfl (sh_sub_c rfl (sh_sub_c rfl (sh_sub_n)))))) (sl_304_292 e tg)
theorem sl_304_290 {x1 : Int32} {x7 : Bool} {x10 : Int32} {y0 : Int64} {m m2 : sh_X} {o : Outcome} {z : (Bool × sh_X)} (e : sf_304_290 x1 x7 x10 y0 m = some z) (tg : (sh_tZ o m2) z) : sh_Lk 304 290 [(0, .ref 67), (1, .int x1), (7, .int (sh_b2 x7)), (10, .int x10)] [.long y0] m o m2 12 289 := by
  unfold sf_304_290 at e
  refine sh_Lk_lift (T := m.T) (I := m.I) (J := m.J) (s := m.s) (pc2 := 292) (lv2 := [(16, .long y0), (0, .ref 67), (1, .int x1), (7, .int (sh_b2 x7)), (10, .int x10)]) (st2 := []) (I2 := m.I) (J2 := m.J) (fun hT v kk => ?_) ?_
  · refine sh_w (i := (.lstore 16)) (len := 2) (pc2 := 292) (lv2 := [(16, .long y0), (0, .ref 67), (1, .int x1), (7, .int (sh_b2 x7)), (10, .int x10)]) (st2 := []) (h2 := (sh_rep m.T m.I m.J)) rfl rfl rfl ?_
    exact kk
  exact sh_Lk_sub (sh_sub_c rfl (sh_sub_c rfl (sh_sub_c rfl (sh_sub_c rfl (sh_sub_c rfl (sh_sub_n)))))) (sl_304_292 e tg)
theorem sl_304_189 {x1 : Int32} {x7 : Bool} {x10 : Int32} {x11 : Int64} {x13 : Bool} {y0 : Int64} {m m2 : sh_X} {o : Outcome} {z : (Bool × sh_X)} (e : sf_304_189 x1 x7 x10 x11 x13 y0 m = some z) (tg : (sh_tZ o m2) z) : sh_Lk 304 189 [(0, .ref 67), (1, .int x1), (7, .int (sh_b2 x7)), (10, .int x10), (11, .long x11), (13, .int (sh_b2 x13))] [.long y0] m o m2 12 289 := by
  unfold sf_304_189 at e
  refine sh_Lk_lift (T := m.T) (I := m.I) (J := m.J) (s := m.s) (pc2 := 200) (lv2 := [(14, .long y0), (0, .ref 67), (1, .int x1), (7, .int (sh_b2 x7)), (10, .int x10), (11, .long x11), (13, .int (sh_b2 x13))]) (st2 := [.int x1, .ref 74, .ref 69]) (I2 := m.I) (J2 := m.J) (fun hT v kk => ?_) ?_
  · refine sh_w (i := (.lstore 14)) (len := 2) (pc2 := 191) (lv2 := [(14, .long y0), (0, .ref 67), (1, .int x1), (7, .int (sh_b2 x7)), (10, .int x10), (11, .long x11), (13, .int (sh_b2 x13))]) (st2 := []) (h2 := (sh_rep m.T m.I m.J)) rfl rfl rfl ?_
    refine sh_w (i := (.aload_n 0)) (len := 1) (pc2 := 192) (lv2 := [(14, .long y0), (0, .ref 67), (1, .int x1), (7, .int (sh_b2 x7)), (10, .int x10), (11, .long x11), (13, .int (sh_b2 x13))]) (st2 := [.ref 67]) (h2 := (sh_rep m.T m.I m.J)) rfl rfl rfl ?_
    refine sh_gR1 (len := 3) (x := .ref 69) (pc2 := 195) rfl rfl (sh_s66 hT.st) rfl rfl ?_
    refine sh_w (i := (.aload_n 0)) (len := 1) (pc2 := 196) (lv2 := [(14, .long y0), (0, .ref 67), (1, .int x1), (7, .int (sh_b2 x7)), (10, .int x10), (11, .long x11), (13, .int (sh_b2 x13))]) (st2 := [.ref 67, .ref 69]) (h2 := (sh_rep m.T m.I m.J)) rfl rfl rfl ?_
    refine sh_gR1 (len := 3) (x := .ref 74) (pc2 := 199) rfl rfl (sh_s66 hT.st) rfl rfl ?_
    refine sh_w (i := (.iload_n 1)) (len := 1) (pc2 := 200) (lv2 := [(14, .long y0), (0, .ref 67), (1, .int x1), (7, .int (sh_b2 x7)), (10, .int x10), (11, .long x11), (13, .int (sh_b2 x13))]) (st2 := [.int x1, .ref 74, .ref 69]) (h2 := (sh_rep m.T m.I m.J)) rfl rfl rfl ?_
    exact kk
  obtain ⟨c, e⟩ := sh_gd e
  refine sh_Lk_lift (T := m.T) (I := m.I) (J := m.J) (s := m.s) (pc2 := 201) (lv2 := [(14, .long y0), (0, .ref 67), (1, .int x1), (7, .int (sh_b2 x7)), (10, .int x10), (11, .long x11), (13, .int (sh_b2 x13))]) (st2 := [.int (m.I 73 (Int32.toNatClampNeg x1)), .ref 69]) (I2 := m.I) (J2 := m.J) (fun hT v kk => ?_) ?_
  · refine sh_ia1 (x := m.I 73 (Int32.toNatClampNeg x1)) (pc2 := 201) rfl (sh_s73 hT.st) (sh_okb1 c) (sh_okb2 c) rfl rfl ?_
    exact kk
  obtain ⟨c, e⟩ := sh_gd e
  refine sh_Lk_lift (T := m.T) (I := m.I) (J := m.J) (s := m.s) (pc2 := 205) (lv2 := [(14, .long y0), (0, .ref 67), (1, .int x1), (7, .int (sh_b2 x7)), (10, .int x10), (11, .long x11), (13, .int (sh_b2 x13))]) (st2 := [.int 15420, .int (m.I 68 (Int32.toNatClampNeg (m.I 73 (Int32.toNatClampNeg x1))))]) (I2 := m.I) (J2 := m.J) (fun hT v kk => ?_) ?_
  · refine sh_ia1 (x := m.I 68 (Int32.toNatClampNeg (m.I 73 (Int32.toNatClampNeg x1)))) (pc2 := 202) rfl (sh_s68 hT.st) (sh_okb1 c) (sh_okb2 c) rfl rfl ?_
    refine sh_w (i := (.sipush 15420)) (len := 3) (pc2 := 205) (lv2 := [(14, .long y0), (0, .ref 67), (1, .int x1), (7, .int (sh_b2 x7)), (10, .int x10), (11, .long x11), (13, .int (sh_b2 x13))]) (st2 := [.int 15420, .int (m.I 68 (Int32.toNatClampNeg (m.I 73 (Int32.toNatClampNeg x1))))]) (h2 := (sh_rep m.T m.I m.J)) rfl rfl rfl ?_
    exact kk
  rcases sh_ite e with ⟨c, e⟩ | ⟨c, e⟩
  · refine sh_Lk_lift (T := m.T) (I := m.I) (J := m.J) (s := m.s) (pc2 := 210) (lv2 := [(14, .long y0), (0, .ref 67), (1, .int x1), (7, .int (sh_b2 x7)), (10, .int x10), (11, .long x11), (13, .int (sh_b2 x13))]) (st2 := [.int (sh_b2 x13)]) (I2 := m.I) (J2 := m.J) (fun hT v kk => ?_) ?_
    · refine sh_jc (c := .ne) (off := (25)) (pc2 := 208) false rfl (sh_Bnef c) rfl ?_
      refine sh_w (i := (.iload 13)) (len := 2) (pc2 := 210) (lv2 := [(14, .long y0), (0, .ref 67), (1, .int x1), (7, .int (sh_b2 x7)), (10, .int x10), (11, .long x11), (13, .int (sh_b2 x13))]) (st2 := [.int (sh_b2 x13)]) (h2 := (sh_rep m.T m.I m.J)) rfl rfl rfl ?_
      exact kk
    rcases sh_ite e with ⟨c, e⟩ | ⟨c, e⟩
    · refine sh_Lk_lift (T := m.T) (I := m.I) (J := m.J) (s := m.s) (pc2 := 225) (lv2 := [(14, .long y0), (0, .ref 67), (1, .int x1), (7, .int (sh_b2 x7)), (10, .int x10), (11, .long x11), (13, .int (sh_b2 x13))]) (st2 := [.long 0]) (I2 := m.I) (J2 := m.J) (fun hT v kk => ?_) ?_
      · refine sh_j0 (c := .eq) (off := (7)) (pc2 := 213) false rfl (sh_Zeqf c) rfl ?_
        refine sh_w (i := (.lconst 0)) (len := 1) (pc2 := 214) (lv2 := [(14, .long y0), (0, .ref 67), (1, .int x1), (7, .int (sh_b2 x7)), (10, .int x10), (11, .long x11), (13, .int (sh_b2 x13))]) (st2 := [.long 0]) (h2 := (sh_rep m.T m.I m.J)) rfl rfl rfl ?_
        refine sh_w (i := (.goto 11)) (len := 3) (pc2 := 225) (lv2 := [(14, .long y0), (0, .ref 67), (1, .int x1), (7, .int (sh_b2 x7)), (10, .int x10), (11, .long x11), (13, .int (sh_b2 x13))]) (st2 := [.long 0]) (h2 := (sh_rep m.T m.I m.J)) rfl rfl rfl ?_
        exact kk
      exact sh_Lk_sub (sh_sub_c rfl (sh_sub_c rfl (sh_sub_c rfl (sh_sub_c rfl (sh_sub_n))))) (sl_304_225 e tg)
    · refine sh_Lk_lift (T := m.T) (I := m.I) (J := m.J) (s := m.s) (pc2 := 225) (lv2 := [(14, .long y0), (0, .ref 67), (1, .int x1), (7, .int (sh_b2 x7)), (10, .int x10), (11, .long x11), (13, .int (sh_b2 x13))]) (st2 := [.long ((m.J 66 46) <<< (Int32.toInt64 (Int64.toInt32 x11) &&& 63))]) (I2 := m.I) (J2 := m.J) (fun hT v kk => ?_) ?_
      · refine sh_j0 (c := .eq) (off := (7)) (pc2 := 217) true rfl (sh_Zeqt c) rfl ?_
        refine sh_w (i := (.aload_n 0)) (len := 1) (pc2 := 218) (lv2 := [(14, .long y0), (0, .ref 67), (1, .int x1), (7, .int (sh_b2 x7)), (10, .int x10), (11, .long x11), (13, .int (sh_b2 x13))]) (st2 := [.ref 67]) (h2 := (sh_rep m.T m.I m.J)) rfl rfl rfl ?_
        refine sh_gJ1 (len := 3) (x := m.J 66 46) (pc2 := 221) rfl rfl (sh_s66 hT.st) rfl rfl rfl ?_
        refine sh_w (i := (.lload 11)) (len := 2) (pc2 := 223) (lv2 := [(14, .long y0), (0, .ref 67), (1, .int x1), (7, .int (sh_b2 x7)), (10, .int x10), (11, .long x11), (13, .int (sh_b2 x13))]) (st2 := [.long x11, .long (m.J 66 46)]) (h2 := (sh_rep m.T m.I m.J)) rfl rfl rfl ?_
        refine sh_w (i := .l2i) (len := 1) (pc2 := 224) (lv2 := [(14, .long y0), (0, .ref 67), (1, .int x1), (7, .int (sh_b2 x7)), (10, .int x10), (11, .long x11), (13, .int (sh_b2 x13))]) (st2 := [.int (Int64.toInt32 x11), .long (m.J 66 46)]) (h2 := (sh_rep m.T m.I m.J)) rfl rfl rfl ?_
        refine sh_w (i := .lshl) (len := 1) (pc2 := 225) (lv2 := [(14, .long y0), (0, .ref 67), (1, .int x1), (7, .int (sh_b2 x7)), (10, .int x10), (11, .long x11), (13, .int (sh_b2 x13))]) (st2 := [.long ((m.J 66 46) <<< (Int32.toInt64 (Int64.toInt32 x11) &&& 63))]) (h2 := (sh_rep m.T m.I m.J)) rfl rfl rfl ?_
        exact kk
      exact sh_Lk_sub (sh_sub_c rfl (sh_sub_c rfl (sh_sub_c rfl (sh_sub_c rfl (sh_sub_n))))) (sl_304_225 e tg)
  · refine sh_Lk_lift (T := m.T) (I := m.I) (J := m.J) (s := m.s) (pc2 := 235) (lv2 := [(14, .long y0), (0, .ref 67), (1, .int x1), (7, .int (sh_b2 x7)), (10, .int x10), (11, .long x11), (13, .int (sh_b2 x13))]) (st2 := [.int 2, .int (m.I 66 43)]) (I2 := m.I) (J2 := m.J) (fun hT v kk => ?_) ?_
    · refine sh_jc (c := .ne) (off := (25)) (pc2 := 230) true rfl (sh_Bnet c) rfl ?_
      refine sh_w (i := (.aload_n 0)) (len := 1) (pc2 := 231) (lv2 := [(14, .long y0), (0, .ref 67), (1, .int x1), (7, .int (sh_b2 x7)), (10, .int x10), (11, .long x11), (13, .int (sh_b2 x13))]) (st2 := [.ref 67]) (h2 := (sh_rep m.T m.I m.J)) rfl rfl rfl ?_
      refine sh_gI1 (len := 3) (x := m.I 66 43) (pc2 := 234) rfl rfl (sh_s66 hT.st) rfl rfl rfl ?_
      refine sh_w (i := (.iconst 2)) (len := 1) (pc2 := 235) (lv2 := [(14, .long y0), (0, .ref 67), (1, .int x1), (7, .int (sh_b2 x7)), (10, .int x10), (11, .long x11), (13, .int (sh_b2 x13))]) (st2 := [.int 2, .int (m.I 66 43)]) (h2 := (sh_rep m.T m.I m.J)) rfl rfl rfl ?_
      exact kk
    rcases sh_ite e with ⟨c, e⟩ | ⟨c, e⟩
    · refine sh_Lk_lift (T := m.T) (I := m.I) (J := m.J) (s := m.s) (pc2 := 240) (lv2 := [(14, .long y0), (0, .ref 67), (1, .int x1), (7, .int (sh_b2 x7)), (10, .int x10), (11, .long x11), (13, .int (sh_b2 x13))]) (st2 := [.int (sh_b2 x13)]) (I2 := m.I) (J2 := m.J) (fun hT v kk => ?_) ?_
      · refine sh_jc (c := .ne) (off := (40)) (pc2 := 238) false rfl (sh_Bnef c) rfl ?_
        refine sh_w (i := (.iload 13)) (len := 2) (pc2 := 240) (lv2 := [(14, .long y0), (0, .ref 67), (1, .int x1), (7, .int (sh_b2 x7)), (10, .int x10), (11, .long x11), (13, .int (sh_b2 x13))]) (st2 := [.int (sh_b2 x13)]) (h2 := (sh_rep m.T m.I m.J)) rfl rfl rfl ?_
        exact kk
      rcases sh_ite e with ⟨c, e⟩ | ⟨c, e⟩
      · refine sh_Lk_lift (T := m.T) (I := m.I) (J := m.J) (s := m.s) (pc2 := 249) (lv2 := [(14, .long y0), (0, .ref 67), (1, .int x1), (7, .int (sh_b2 x7)), (10, .int x10), (11, .long x11), (13, .int (sh_b2 x13))]) (st2 := [.int (lg_cmp (m.J 66 46) 0)]) (I2 := m.I) (J2 := m.J) (fun hT v kk => ?_) ?_
        · refine sh_j0 (c := .eq) (off := (22)) (pc2 := 243) false rfl (sh_Zeqf c) rfl ?_
          refine sh_w (i := (.aload_n 0)) (len := 1) (pc2 := 244) (lv2 := [(14, .long y0), (0, .ref 67), (1, .int x1), (7, .int (sh_b2 x7)), (10, .int x10), (11, .long x11), (13, .int (sh_b2 x13))]) (st2 := [.ref 67]) (h2 := (sh_rep m.T m.I m.J)) rfl rfl rfl ?_
          refine sh_gJ1 (len := 3) (x := m.J 66 46) (pc2 := 247) rfl rfl (sh_s66 hT.st) rfl rfl rfl ?_
          refine sh_w (i := (.lconst 0)) (len := 1) (pc2 := 248) (lv2 := [(14, .long y0), (0, .ref 67), (1, .int x1), (7, .int (sh_b2 x7)), (10, .int x10), (11, .long x11), (13, .int (sh_b2 x13))]) (st2 := [.long 0, .long (m.J 66 46)]) (h2 := (sh_rep m.T m.I m.J)) rfl rfl rfl ?_
          refine sh_w (i := .lcmp) (len := 1) (pc2 := 249) (lv2 := [(14, .long y0), (0, .ref 67), (1, .int x1), (7, .int (sh_b2 x7)), (10, .int x10), (11, .long x11), (13, .int (sh_b2 x13))]) (st2 := [.int (lg_cmp (m.J 66 46) 0)]) (h2 := (sh_rep m.T m.I m.J)) rfl rfl rfl ?_
          exact kk
        rcases sh_ite e with ⟨c, e⟩ | ⟨c, e⟩
        · refine sh_Lk_lift (T := m.T) (I := m.I) (J := m.J) (s := m.s) (pc2 := 270) (lv2 := [(14, .long y0), (0, .ref 67), (1, .int x1), (7, .int (sh_b2 x7)), (10, .int x10), (11, .long x11), (13, .int (sh_b2 x13))]) (st2 := [.long (-1)]) (I2 := m.I) (J2 := m.J) (fun hT v kk => ?_) ?_
          · refine sh_j0 (c := .ge) (off := (9)) (pc2 := 252) false rfl (sh_Cgef c) rfl ?_
            refine sh_w (i := (.ldc2_w 466)) (len := 3) (pc2 := 255) (lv2 := [(14, .long y0), (0, .ref 67), (1, .int x1), (7, .int (sh_b2 x7)), (10, .int x10), (11, .long x11), (13, .int (sh_b2 x13))]) (st2 := [.long (-1)]) (h2 := (sh_rep m.T m.I m.J)) rfl rfl rfl ?_
            refine sh_w (i := (.goto 15)) (len := 3) (pc2 := 270) (lv2 := [(14, .long y0), (0, .ref 67), (1, .int x1), (7, .int (sh_b2 x7)), (10, .int x10), (11, .long x11), (13, .int (sh_b2 x13))]) (st2 := [.long (-1)]) (h2 := (sh_rep m.T m.I m.J)) rfl rfl rfl ?_
            exact kk
          exact sh_Lk_sub (sh_sub_c rfl (sh_sub_c rfl (sh_sub_c rfl (sh_sub_c rfl (sh_sub_n))))) (sl_304_270 e tg)
        · refine sh_Lk_lift (T := m.T) (I := m.I) (J := m.J) (s := m.s) (pc2 := 270) (lv2 := [(14, .long y0), (0, .ref 67), (1, .int x1), (7, .int (sh_b2 x7)), (10, .int x10), (11, .long x11), (13, .int (sh_b2 x13))]) (st2 := [.long 0]) (I2 := m.I) (J2 := m.J) (fun hT v kk => ?_) ?_
          · refine sh_j0 (c := .ge) (off := (9)) (pc2 := 258) true rfl (sh_Cget c) rfl ?_
            refine sh_w (i := (.lconst 0)) (len := 1) (pc2 := 259) (lv2 := [(14, .long y0), (0, .ref 67), (1, .int x1), (7, .int (sh_b2 x7)), (10, .int x10), (11, .long x11), (13, .int (sh_b2 x13))]) (st2 := [.long 0]) (h2 := (sh_rep m.T m.I m.J)) rfl rfl rfl ?_
            refine sh_w (i := (.goto 11)) (len := 3) (pc2 := 270) (lv2 := [(14, .long y0), (0, .ref 67), (1, .int x1), (7, .int (sh_b2 x7)), (10, .int x10), (11, .long x11), (13, .int (sh_b2 x13))]) (st2 := [.long 0]) (h2 := (sh_rep m.T m.I m.J)) rfl rfl rfl ?_
            exact kk
          exact sh_Lk_sub (sh_sub_c rfl (sh_sub_c rfl (sh_sub_c rfl (sh_sub_c rfl (sh_sub_n))))) (sl_304_270 e tg)
      · refine sh_Lk_lift (T := m.T) (I := m.I) (J := m.J) (s := m.s) (pc2 := 270) (lv2 := [(14, .long y0), (0, .ref 67), (1, .int x1), (7, .int (sh_b2 x7)), (10, .int x10), (11, .long x11), (13, .int (sh_b2 x13))]) (st2 := [.long ((m.J 66 46) >>> (Int32.toInt64 (Int64.toInt32 x11) &&& 63))]) (I2 := m.I) (J2 := m.J) (fun hT v kk => ?_) ?_
        · refine sh_j0 (c := .eq) (off := (22)) (pc2 := 262) true rfl (sh_Zeqt c) rfl ?_
          refine sh_w (i := (.aload_n 0)) (len := 1) (pc2 := 263) (lv2 := [(14, .long y0), (0, .ref 67), (1, .int x1), (7, .int (sh_b2 x7)), (10, .int x10), (11, .long x11), (13, .int (sh_b2 x13))]) (st2 := [.ref 67]) (h2 := (sh_rep m.T m.I m.J)) rfl rfl rfl ?_
          refine sh_gJ1 (len := 3) (x := m.J 66 46) (pc2 := 266) rfl rfl (sh_s66 hT.st) rfl rfl rfl ?_
          refine sh_w (i := (.lload 11)) (len := 2) (pc2 := 268) (lv2 := [(14, .long y0), (0, .ref 67), (1, .int x1), (7, .int (sh_b2 x7)), (10, .int x10), (11, .long x11), (13, .int (sh_b2 x13))]) (st2 := [.long x11, .long (m.J 66 46)]) (h2 := (sh_rep m.T m.I m.J)) rfl rfl rfl ?_
          refine sh_w (i := .l2i) (len := 1) (pc2 := 269) (lv2 := [(14, .long y0), (0, .ref 67), (1, .int x1), (7, .int (sh_b2 x7)), (10, .int x10), (11, .long x11), (13, .int (sh_b2 x13))]) (st2 := [.int (Int64.toInt32 x11), .long (m.J 66 46)]) (h2 := (sh_rep m.T m.I m.J)) rfl rfl rfl ?_
          refine sh_w (i := .lshr) (len := 1) (pc2 := 270) (lv2 := [(14, .long y0), (0, .ref 67), (1, .int x1), (7, .int (sh_b2 x7)), (10, .int x10), (11, .long x11), (13, .int (sh_b2 x13))]) (st2 := [.long ((m.J 66 46) >>> (Int32.toInt64 (Int64.toInt32 x11) &&& 63))]) (h2 := (sh_rep m.T m.I m.J)) rfl rfl rfl ?_
          exact kk
        exact sh_Lk_sub (sh_sub_c rfl (sh_sub_c rfl (sh_sub_c rfl (sh_sub_c rfl (sh_sub_n))))) (sl_304_270 e tg)
    · refine sh_Lk_lift (T := m.T) (I := m.I) (J := m.J) (s := m.s) (pc2 := 277) (lv2 := [(14, .long y0), (0, .ref 67), (1, .int x1), (7, .int (sh_b2 x7)), (10, .int x10), (11, .long x11), (13, .int (sh_b2 x13))]) (st2 := [.int (sh_b2 x13)]) (I2 := m.I) (J2 := m.J) (fun hT v kk => ?_) ?_
      · refine sh_jc (c := .ne) (off := (40)) (pc2 := 275) true rfl (sh_Bnet c) rfl ?_
        refine sh_w (i := (.iload 13)) (len := 2) (pc2 := 277) (lv2 := [(14, .long y0), (0, .ref 67), (1, .int x1), (7, .int (sh_b2 x7)), (10, .int x10), (11, .long x11), (13, .int (sh_b2 x13))]) (st2 := [.int (sh_b2 x13)]) (h2 := (sh_rep m.T m.I m.J)) rfl rfl rfl ?_
        exact kk
      rcases sh_ite e with ⟨c, e⟩ | ⟨c, e⟩
      · refine sh_Lk_lift (T := m.T) (I := m.I) (J := m.J) (s := m.s) (pc2 := 290) (lv2 := [(14, .long y0), (0, .ref 67), (1, .int x1), (7, .int (sh_b2 x7)), (10, .int x10), (11, .long x11), (13, .int (sh_b2 x13))]) (st2 := [.long 0]) (I2 := m.I) (J2 := m.J) (fun hT v kk => ?_) ?_
        · refine sh_j0 (c := .eq) (off := (7)) (pc2 := 280) false rfl (sh_Zeqf c) rfl ?_
          refine sh_w (i := (.lconst 0)) (len := 1) (pc2 := 281) (lv2 := [(14, .long y0), (0, .ref 67), (1, .int x1), (7, .int (sh_b2 x7)), (10, .int x10), (11, .long x11), (13, .int (sh_b2 x13))]) (st2 := [.long 0]) (h2 := (sh_rep m.T m.I m.J)) rfl rfl rfl ?_
          refine sh_w (i := (.goto 9)) (len := 3) (pc2 := 290) (lv2 := [(14, .long y0), (0, .ref 67), (1, .int x1), (7, .int (sh_b2 x7)), (10, .int x10), (11, .long x11), (13, .int (sh_b2 x13))]) (st2 := [.long 0]) (h2 := (sh_rep m.T m.I m.J)) rfl rfl rfl ?_
          exact kk
        exact sh_Lk_sub (sh_sub_c rfl (sh_sub_c rfl (sh_sub_c rfl (sh_sub_c rfl (sh_sub_n))))) (sl_304_290 e tg)
      · refine sh_Lk_lift (T := m.T) (I := m.I) (J := m.J) (s := m.s) (pc2 := 290) (lv2 := [(14, .long y0), (0, .ref 67), (1, .int x1), (7, .int (sh_b2 x7)), (10, .int x10), (11, .long x11), (13, .int (sh_b2 x13))]) (st2 := [.long ((y0.toUInt64 >>> ((Int32.toInt64 (Int64.toInt32 x11)).toUInt64 &&& Int64.toUInt64 63)).toInt64)]) (I2 := m.I) (J2 := m.J) (fun hT v kk => ?_) ?_
        · refine sh_j0 (c := .eq) (off := (7)) (pc2 := 284) true rfl (sh_Zeqt c) rfl ?_
          refine sh_w (i := (.lload 14)) (len := 2) (pc2 := 286) (lv2 := [(14, .long y0), (0, .ref 67), (1, .int x1), (7, .int (sh_b2 x7)), (10, .int x10), (11, .long x11), (13, .int (sh_b2 x13))]) (st2 := [.long y0]) (h2 := (sh_rep m.T m.I m.J)) rfl rfl rfl ?_
          refine sh_w (i := (.lload 11)) (len := 2) (pc2 := 288) (lv2 := [(14, .long y0), (0, .ref 67), (1, .int x1), (7, .int (sh_b2 x7)), (10, .int x10), (11, .long x11), (13, .int (sh_b2 x13))]) (st2 := [.long x11, .long y0]) (h2 := (sh_rep m.T m.I m.J)) rfl rfl rfl ?_
          refine sh_w (i := .l2i) (len := 1) (pc2 := 289) (lv2 := [(14, .long y0), (0, .ref 67), (1, .int x1), (7, .int (sh_b2 x7)), (10, .int x10), (11, .long x11), (13, .int (sh_b2 x13))]) (st2 := [.int (Int64.toInt32 x11), .long y0]) (h2 := (sh_rep m.T m.I m.J)) rfl rfl rfl ?_
          refine sh_w (i := .lushr) (len := 1) (pc2 := 290) (lv2 := [(14, .long y0), (0, .ref 67), (1, .int x1), (7, .int (sh_b2 x7)), (10, .int x10), (11, .long x11), (13, .int (sh_b2 x13))]) (st2 := [.long ((y0.toUInt64 >>> ((Int32.toInt64 (Int64.toInt32 x11)).toUInt64 &&& Int64.toUInt64 63)).toInt64)]) (h2 := (sh_rep m.T m.I m.J)) rfl rfl rfl ?_
          exact kk
        exact sh_Lk_sub (sh_sub_c rfl (sh_sub_c rfl (sh_sub_c rfl (sh_sub_c rfl (sh_sub_n))))) (sl_304_290 e tg)
theorem sl_304_158 {x1 : Int32} {x7 : Bool} {x10 : Int32} {x11 : Int64} {y0 : Bool} {m m2 : sh_X} {o : Outcome} {z : (Bool × sh_X)} (e : sf_304_158 x1 x7 x10 x11 y0 m = some z) (tg : (sh_tZ o m2) z) : sh_Lk 304 158 [(0, .ref 67), (1, .int x1), (7, .int (sh_b2 x7)), (10, .int x10), (11, .long x11)] [.int (sh_b2 y0)] m o m2 12 289 := by
  unfold sf_304_158 at e
  refine sh_Lk_lift (T := m.T) (I := m.I) (J := m.J) (s := m.s) (pc2 := 166) (lv2 := [(13, .int (sh_b2 y0)), (0, .ref 67), (1, .int x1), (7, .int (sh_b2 x7)), (10, .int x10), (11, .long x11)]) (st2 := [.int 64, .int (m.I 66 44)]) (I2 := m.I) (J2 := m.J) (fun hT v kk => ?_) ?_
  · refine sh_w (i := (.istore 13)) (len := 2) (pc2 := 160) (lv2 := [(13, .int (sh_b2 y0)), (0, .ref 67), (1, .int x1), (7, .int (sh_b2 x7)), (10, .int x10), (11, .long x11)]) (st2 := []) (h2 := (sh_rep m.T m.I m.J)) rfl rfl rfl ?_
    refine sh_w (i := (.aload_n 0)) (len := 1) (pc2 := 161) (lv2 := [(13, .int (sh_b2 y0)), (0, .ref 67), (1, .int x1), (7, .int (sh_b2 x7)), (10, .int x10), (11, .long x11)]) (st2 := [.ref 67]) (h2 := (sh_rep m.T m.I m.J)) rfl rfl rfl ?_
    refine sh_gI1 (len := 3) (x := m.I 66 44) (pc2 := 164) rfl rfl (sh_s66 hT.st) rfl rfl rfl ?_
    refine sh_w (i := (.bipush 64)) (len := 2) (pc2 := 166) (lv2 := [(13, .int (sh_b2 y0)), (0, .ref 67), (1, .int x1), (7, .int (sh_b2 x7)), (10, .int x10), (11, .long x11)]) (st2 := [.int 64, .int (m.I 66 44)]) (h2 := (sh_rep m.T m.I m.J)) rfl rfl rfl ?_
    exact kk
  rcases sh_ite e with ⟨c, e⟩ | ⟨c, e⟩
  · refine sh_Lk_lift (T := m.T) (I := m.I) (J := m.J) (s := m.s) (pc2 := 189) (lv2 := [(13, .int (sh_b2 y0)), (0, .ref 67), (1, .int x1), (7, .int (sh_b2 x7)), (10, .int x10), (11, .long x11)]) (st2 := [.long (m.J 66 46)]) (I2 := m.I) (J2 := m.J) (fun hT v kk => ?_) ?_
    · refine sh_jc (c := .ne) (off := (10)) (pc2 := 169) false rfl (sh_Bnef c) rfl ?_
      refine sh_w (i := (.aload_n 0)) (len := 1) (pc2 := 170) (lv2 := [(13, .int (sh_b2 y0)), (0, .ref 67), (1, .int x1), (7, .int (sh_b2 x7)), (10, .int x10), (11, .long x11)]) (st2 := [.ref 67]) (h2 := (sh_rep m.T m.I m.J)) rfl rfl rfl ?_
      refine sh_gJ1 (len := 3) (x := m.J 66 46) (pc2 := 173) rfl rfl (sh_s66 hT.st) rfl rfl rfl ?_
      refine sh_w (i := (.goto 16)) (len := 3) (pc2 := 189) (lv2 := [(13, .int (sh_b2 y0)), (0, .ref 67), (1, .int x1), (7, .int (sh_b2 x7)), (10, .int x10), (11, .long x11)]) (st2 := [.long (m.J 66 46)]) (h2 := (sh_rep m.T m.I m.J)) rfl rfl rfl ?_
      exact kk
    exact sh_Lk_sub (sh_sub_c rfl (sh_sub_c rfl (sh_sub_c rfl (sh_sub_c rfl (sh_sub_c rfl (sh_sub_c rfl (sh_sub_n))))))) (sl_304_189 e tg)
  · refine sh_Lk_lift (T := m.T) (I := m.I) (J := m.J) (s := m.s) (pc2 := 189) (lv2 := [(13, .int (sh_b2 y0)), (0, .ref 67), (1, .int x1), (7, .int (sh_b2 x7)), (10, .int x10), (11, .long x11)]) (st2 := [.long ((m.J 66 46) &&& (((1 : Int64) <<< (Int32.toInt64 (m.I 66 44) &&& 63)) - (1 : Int64)))]) (I2 := m.I) (J2 := m.J) (fun hT v kk => ?_) ?_
    · refine sh_jc (c := .ne) (off := (10)) (pc2 := 176) true rfl (sh_Bnet c) rfl ?_
      refine sh_w (i := (.aload_n 0)) (len := 1) (pc2 := 177) (lv2 := [(13, .int (sh_b2 y0)), (0, .ref 67), (1, .int x1), (7, .int (sh_b2 x7)), (10, .int x10), (11, .long x11)]) (st2 := [.ref 67]) (h2 := (sh_rep m.T m.I m.J)) rfl rfl rfl ?_
      refine sh_gJ1 (len := 3) (x := m.J 66 46) (pc2 := 180) rfl rfl (sh_s66 hT.st) rfl rfl rfl ?_
      refine sh_w (i := (.lconst 1)) (len := 1) (pc2 := 181) (lv2 := [(13, .int (sh_b2 y0)), (0, .ref 67), (1, .int x1), (7, .int (sh_b2 x7)), (10, .int x10), (11, .long x11)]) (st2 := [.long 1, .long (m.J 66 46)]) (h2 := (sh_rep m.T m.I m.J)) rfl rfl rfl ?_
      refine sh_w (i := (.aload_n 0)) (len := 1) (pc2 := 182) (lv2 := [(13, .int (sh_b2 y0)), (0, .ref 67), (1, .int x1), (7, .int (sh_b2 x7)), (10, .int x10), (11, .long x11)]) (st2 := [.ref 67, .long 1, .long (m.J 66 46)]) (h2 := (sh_rep m.T m.I m.J)) rfl rfl rfl ?_
      refine sh_gI1 (len := 3) (x := m.I 66 44) (pc2 := 185) rfl rfl (sh_s66 hT.st) rfl rfl rfl ?_
      refine sh_w (i := .lshl) (len := 1) (pc2 := 186) (lv2 := [(13, .int (sh_b2 y0)), (0, .ref 67), (1, .int x1), (7, .int (sh_b2 x7)), (10, .int x10), (11, .long x11)]) (st2 := [.long ((1 : Int64) <<< (Int32.toInt64 (m.I 66 44) &&& 63)), .long (m.J 66 46)]) (h2 := (sh_rep m.T m.I m.J)) rfl rfl rfl ?_
      refine sh_w (i := (.lconst 1)) (len := 1) (pc2 := 187) (lv2 := [(13, .int (sh_b2 y0)), (0, .ref 67), (1, .int x1), (7, .int (sh_b2 x7)), (10, .int x10), (11, .long x11)]) (st2 := [.long 1, .long ((1 : Int64) <<< (Int32.toInt64 (m.I 66 44) &&& 63)), .long (m.J 66 46)]) (h2 := (sh_rep m.T m.I m.J)) rfl rfl rfl ?_
      refine sh_w (i := .lsub) (len := 1) (pc2 := 188) (lv2 := [(13, .int (sh_b2 y0)), (0, .ref 67), (1, .int x1), (7, .int (sh_b2 x7)), (10, .int x10), (11, .long x11)]) (st2 := [.long (((1 : Int64) <<< (Int32.toInt64 (m.I 66 44) &&& 63)) - (1 : Int64)), .long (m.J 66 46)]) (h2 := (sh_rep m.T m.I m.J)) rfl rfl rfl ?_
      refine sh_w (i := .land) (len := 1) (pc2 := 189) (lv2 := [(13, .int (sh_b2 y0)), (0, .ref 67), (1, .int x1), (7, .int (sh_b2 x7)), (10, .int x10), (11, .long x11)]) (st2 := [.long ((m.J 66 46) &&& (((1 : Int64) <<< (Int32.toInt64 (m.I 66 44) &&& 63)) - (1 : Int64)))]) (h2 := (sh_rep m.T m.I m.J)) rfl rfl rfl ?_
      exact kk
    exact sh_Lk_sub (sh_sub_c rfl (sh_sub_c rfl (sh_sub_c rfl (sh_sub_c rfl (sh_sub_c rfl (sh_sub_c rfl (sh_sub_n))))))) (sl_304_189 e tg)
theorem sl_304_153 {x1 : Int32} {x7 : Bool} {x10 : Int32} {x11 : Int64} {m m2 : sh_X} {o : Outcome} {z : (Bool × sh_X)} (e : sf_304_153 x1 x7 x10 x11 m = some z) (tg : (sh_tZ o m2) z) : sh_Lk 304 153 [(0, .ref 67), (1, .int x1), (7, .int (sh_b2 x7)), (10, .int x10), (11, .long x11)] [] m o m2 12 289 := by
  unfold sf_304_153 at e
  refine sh_Lk_lift (T := m.T) (I := m.I) (J := m.J) (s := m.s) (pc2 := 158) (lv2 := [(0, .ref 67), (1, .int x1), (7, .int (sh_b2 x7)), (10, .int x10), (11, .long x11)]) (st2 := [.int 1]) (I2 := m.I) (J2 := m.J) (fun hT v kk => ?_) ?_
  · refine sh_w (i := (.iconst 1)) (len := 1) (pc2 := 154) (lv2 := [(0, .ref 67), (1, .int x1), (7, .int (sh_b2 x7)), (10, .int x10), (11, .long x11)]) (st2 := [.int 1]) (h2 := (sh_rep m.T m.I m.J)) rfl rfl rfl ?_
    refine sh_w (i := (.goto 4)) (len := 3) (pc2 := 158) (lv2 := [(0, .ref 67), (1, .int x1), (7, .int (sh_b2 x7)), (10, .int x10), (11, .long x11)]) (st2 := [.int 1]) (h2 := (sh_rep m.T m.I m.J)) rfl rfl rfl ?_
    exact kk
  exact sh_Lk_sub (sh_sub_c rfl (sh_sub_c rfl (sh_sub_c rfl (sh_sub_c rfl (sh_sub_c rfl (sh_sub_n)))))) (sl_304_158 e tg)
theorem sl_304_135 {x1 : Int32} {x7 : Bool} {x10 : Int32} {x11 : Int64} {m m2 : sh_X} {o : Outcome} {z : (Bool × sh_X)} (e : sf_304_135 x1 x7 x10 x11 m = some z) (tg : (sh_tZ o m2) z) : sh_Lk 304 135 [(0, .ref 67), (1, .int x1), (7, .int (sh_b2 x7)), (10, .int x10), (11, .long x11)] [] m o m2 12 289 := by
  unfold sf_304_135 at e
  refine sh_Lk_lift (T := m.T) (I := m.I) (J := m.J) (s := m.s) (pc2 := 139) (lv2 := [(0, .ref 67), (1, .int x1), (7, .int (sh_b2 x7)), (10, .int x10), (11, .long x11)]) (st2 := [.int (lg_cmp x11 0)]) (I2 := m.I) (J2 := m.J) (fun hT v kk => ?_) ?_
  · refine sh_w (i := (.lload 11)) (len := 2) (pc2 := 137) (lv2 := [(0, .ref 67), (1, .int x1), (7, .int (sh_b2 x7)), (10, .int x10), (11, .long x11)]) (st2 := [.long x11]) (h2 := (sh_rep m.T m.I m.J)) rfl rfl rfl ?_
    refine sh_w (i := (.lconst 0)) (len := 1) (pc2 := 138) (lv2 := [(0, .ref 67), (1, .int x1), (7, .int (sh_b2 x7)), (10, .int x10), (11, .long x11)]) (st2 := [.long 0, .long x11]) (h2 := (sh_rep m.T m.I m.J)) rfl rfl rfl ?_
    refine sh_w (i := .lcmp) (len := 1) (pc2 := 139) (lv2 := [(0, .ref 67), (1, .int x1), (7, .int (sh_b2 x7)), (10, .int x10), (11, .long x11)]) (st2 := [.int (lg_cmp x11 0)]) (h2 := (sh_rep m.T m.I m.J)) rfl rfl rfl ?_
    exact kk
  rcases sh_ite e with ⟨c, e⟩ | ⟨c, e⟩
  · refine sh_Lk_lift (T := m.T) (I := m.I) (J := m.J) (s := m.s) (pc2 := 153) (lv2 := [(0, .ref 67), (1, .int x1), (7, .int (sh_b2 x7)), (10, .int x10), (11, .long x11)]) (st2 := []) (I2 := m.I) (J2 := m.J) (fun hT v kk => ?_) ?_
    · refine sh_j0 (c := .lt) (off := (14)) (pc2 := 153) true rfl (sh_Cltt c) rfl ?_
      exact kk
    exact sh_Lk_sub (sh_sub_c rfl (sh_sub_c rfl (sh_sub_c rfl (sh_sub_c rfl (sh_sub_c rfl (sh_sub_n)))))) (sl_304_153 e tg)
  · refine sh_Lk_lift (T := m.T) (I := m.I) (J := m.J) (s := m.s) (pc2 := 150) (lv2 := [(0, .ref 67), (1, .int x1), (7, .int (sh_b2 x7)), (10, .int x10), (11, .long x11)]) (st2 := [.int (lg_cmp x11 (Int32.toInt64 (m.I 66 44)))]) (I2 := m.I) (J2 := m.J) (fun hT v kk => ?_) ?_
    · refine sh_j0 (c := .lt) (off := (14)) (pc2 := 142) false rfl (sh_Cltf c) rfl ?_
      refine sh_w (i := (.lload 11)) (len := 2) (pc2 := 144) (lv2 := [(0, .ref 67), (1, .int x1), (7, .int (sh_b2 x7)), (10, .int x10), (11, .long x11)]) (st2 := [.long x11]) (h2 := (sh_rep m.T m.I m.J)) rfl rfl rfl ?_
      refine sh_w (i := (.aload_n 0)) (len := 1) (pc2 := 145) (lv2 := [(0, .ref 67), (1, .int x1), (7, .int (sh_b2 x7)), (10, .int x10), (11, .long x11)]) (st2 := [.ref 67, .long x11]) (h2 := (sh_rep m.T m.I m.J)) rfl rfl rfl ?_
      refine sh_gI1 (len := 3) (x := m.I 66 44) (pc2 := 148) rfl rfl (sh_s66 hT.st) rfl rfl rfl ?_
      refine sh_w (i := .i2l) (len := 1) (pc2 := 149) (lv2 := [(0, .ref 67), (1, .int x1), (7, .int (sh_b2 x7)), (10, .int x10), (11, .long x11)]) (st2 := [.long (Int32.toInt64 (m.I 66 44)), .long x11]) (h2 := (sh_rep m.T m.I m.J)) rfl rfl rfl ?_
      refine sh_w (i := .lcmp) (len := 1) (pc2 := 150) (lv2 := [(0, .ref 67), (1, .int x1), (7, .int (sh_b2 x7)), (10, .int x10), (11, .long x11)]) (st2 := [.int (lg_cmp x11 (Int32.toInt64 (m.I 66 44)))]) (h2 := (sh_rep m.T m.I m.J)) rfl rfl rfl ?_
      exact kk
    rcases sh_ite e with ⟨c, e⟩ | ⟨c, e⟩
    · refine sh_Lk_lift (T := m.T) (I := m.I) (J := m.J) (s := m.s) (pc2 := 158) (lv2 := [(0, .ref 67), (1, .int x1), (7, .int (sh_b2 x7)), (10, .int x10), (11, .long x11)]) (st2 := [.int 0]) (I2 := m.I) (J2 := m.J) (fun hT v kk => ?_) ?_
      · refine sh_j0 (c := .lt) (off := (7)) (pc2 := 157) true rfl (sh_Cltt c) rfl ?_
        refine sh_w (i := (.iconst 0)) (len := 1) (pc2 := 158) (lv2 := [(0, .ref 67), (1, .int x1), (7, .int (sh_b2 x7)), (10, .int x10), (11, .long x11)]) (st2 := [.int 0]) (h2 := (sh_rep m.T m.I m.J)) rfl rfl rfl ?_
        exact kk
      exact sh_Lk_sub (sh_sub_c rfl (sh_sub_c rfl (sh_sub_c rfl (sh_sub_c rfl (sh_sub_c rfl (sh_sub_n)))))) (sl_304_158 e tg)
    · refine sh_Lk_lift (T := m.T) (I := m.I) (J := m.J) (s := m.s) (pc2 := 153) (lv2 := [(0, .ref 67), (1, .int x1), (7, .int (sh_b2 x7)), (10, .int x10), (11, .long x11)]) (st2 := []) (I2 := m.I) (J2 := m.J) (fun hT v kk => ?_) ?_
      · refine sh_j0 (c := .lt) (off := (7)) (pc2 := 153) false rfl (sh_Cltf c) rfl ?_
        exact kk
      exact sh_Lk_sub (sh_sub_c rfl (sh_sub_c rfl (sh_sub_c rfl (sh_sub_c rfl (sh_sub_c rfl (sh_sub_n)))))) (sl_304_153 e tg)
theorem sl_304_95 {x1 : Int32} {x7 : Bool} {x8 : Int32} {x9 : Int32} {x10 : Int32} {x11 : Int64} {m m2 : sh_X} {o : Outcome} {z : (Bool × sh_X)} (e : sf_304_95 x1 x7 x8 x9 x10 x11 m = some z) (tg : (sh_tZ o m2) z) : sh_Lk 304 95 [(0, .ref 67), (1, .int x1), (7, .int (sh_b2 x7)), (8, .int x8), (9, .int x9), (10, .int x10), (11, .long x11)] [] m o m2 12 289 := by
  unfold sf_304_95 at e
  refine sh_Lk_lift (T := m.T) (I := m.I) (J := m.J) (s := m.s) (pc2 := 99) (lv2 := [(0, .ref 67), (1, .int x1), (7, .int (sh_b2 x7)), (8, .int x8), (9, .int x9), (10, .int x10), (11, .long x11)]) (st2 := [.int (m.I 66 45)]) (I2 := m.I) (J2 := m.J) (fun hT v kk => ?_) ?_
  · refine sh_w (i := (.aload_n 0)) (len := 1) (pc2 := 96) (lv2 := [(0, .ref 67), (1, .int x1), (7, .int (sh_b2 x7)), (8, .int x8), (9, .int x9), (10, .int x10), (11, .long x11)]) (st2 := [.ref 67]) (h2 := (sh_rep m.T m.I m.J)) rfl rfl rfl ?_
    refine sh_gI1 (len := 3) (x := m.I 66 45) (pc2 := 99) rfl rfl (sh_s66 hT.st) rfl rfl rfl ?_
    exact kk
  rcases sh_ite e with ⟨c, e⟩ | ⟨c, e⟩
  · refine sh_Lk_lift (T := m.T) (I := m.I) (J := m.J) (s := m.s) (pc2 := 118) (lv2 := [(0, .ref 67), (1, .int x1), (7, .int (sh_b2 x7)), (8, .int x8), (9, .int x9), (10, .int x10), (11, .long x11)]) (st2 := []) (I2 := m.I) (J2 := m.J) (fun hT v kk => ?_) ?_
    · refine sh_j0 (c := .gt) (off := (19)) (pc2 := 118) true rfl (sh_Bgtt c) rfl ?_
      exact kk
    exact sh_Lk_sub (sh_sub_c rfl (sh_sub_c rfl (sh_sub_n))) (sl_304_118 e tg)
  · refine sh_Lk_lift (T := m.T) (I := m.I) (J := m.J) (s := m.s) (pc2 := 104) (lv2 := [(0, .ref 67), (1, .int x1), (7, .int (sh_b2 x7)), (8, .int x8), (9, .int x9), (10, .int x10), (11, .long x11)]) (st2 := [.int (sh_b2 x7)]) (I2 := m.I) (J2 := m.J) (fun hT v kk => ?_) ?_
    · refine sh_j0 (c := .gt) (off := (19)) (pc2 := 102) false rfl (sh_Bgtf c) rfl ?_
      refine sh_w (i := (.iload 7)) (len := 2) (pc2 := 104) (lv2 := [(0, .ref 67), (1, .int x1), (7, .int (sh_b2 x7)), (8, .int x8), (9, .int x9), (10, .int x10), (11, .long x11)]) (st2 := [.int (sh_b2 x7)]) (h2 := (sh_rep m.T m.I m.J)) rfl rfl rfl ?_
      exact kk
    rcases sh_ite e with ⟨c, e⟩ | ⟨c, e⟩
    · refine sh_Lk_lift (T := m.T) (I := m.I) (J := m.J) (s := m.s) (pc2 := 135) (lv2 := [(0, .ref 67), (1, .int x1), (7, .int (sh_b2 x7)), (8, .int x8), (9, .int x9), (10, .int x10), (11, .long x11)]) (st2 := []) (I2 := m.I) (J2 := m.J) (fun hT v kk => ?_) ?_
      · refine sh_j0 (c := .ne) (off := (31)) (pc2 := 135) true rfl (sh_Znet c) rfl ?_
        exact kk
      exact sh_Lk_sub (sh_sub_c rfl (sh_sub_c rfl (sh_sub_c rfl (sh_sub_c rfl (sh_sub_c rfl (sh_sub_n)))))) (sl_304_135 e tg)
    · refine sh_Lk_lift (T := m.T) (I := m.I) (J := m.J) (s := m.s) (pc2 := 110) (lv2 := [(0, .ref 67), (1, .int x1), (7, .int (sh_b2 x7)), (8, .int x8), (9, .int x9), (10, .int x10), (11, .long x11)]) (st2 := [.int 1, .int x8]) (I2 := m.I) (J2 := m.J) (fun hT v kk => ?_) ?_
      · refine sh_j0 (c := .ne) (off := (31)) (pc2 := 107) false rfl (sh_Znef c) rfl ?_
        refine sh_w (i := (.iload 8)) (len := 2) (pc2 := 109) (lv2 := [(0, .ref 67), (1, .int x1), (7, .int (sh_b2 x7)), (8, .int x8), (9, .int x9), (10, .int x10), (11, .long x11)]) (st2 := [.int x8]) (h2 := (sh_rep m.T m.I m.J)) rfl rfl rfl ?_
        refine sh_w (i := (.iconst 1)) (len := 1) (pc2 := 110) (lv2 := [(0, .ref 67), (1, .int x1), (7, .int (sh_b2 x7)), (8, .int x8), (9, .int x9), (10, .int x10), (11, .long x11)]) (st2 := [.int 1, .int x8]) (h2 := (sh_rep m.T m.I m.J)) rfl rfl rfl ?_
        exact kk
      rcases sh_ite e with ⟨c, e⟩ | ⟨c, e⟩
      · refine sh_Lk_lift (T := m.T) (I := m.I) (J := m.J) (s := m.s) (pc2 := 115) (lv2 := [(0, .ref 67), (1, .int x1), (7, .int (sh_b2 x7)), (8, .int x8), (9, .int x9), (10, .int x10), (11, .long x11)]) (st2 := [.int x9]) (I2 := m.I) (J2 := m.J) (fun hT v kk => ?_) ?_
        · refine sh_jc (c := .ne) (off := (8)) (pc2 := 113) false rfl (sh_Bnef c) rfl ?_
          refine sh_w (i := (.iload 9)) (len := 2) (pc2 := 115) (lv2 := [(0, .ref 67), (1, .int x1), (7, .int (sh_b2 x7)), (8, .int x8), (9, .int x9), (10, .int x10), (11, .long x11)]) (st2 := [.int x9]) (h2 := (sh_rep m.T m.I m.J)) rfl rfl rfl ?_
          exact kk
        rcases sh_ite e with ⟨c, e⟩ | ⟨c, e⟩
        · refine sh_Lk_lift (T := m.T) (I := m.I) (J := m.J) (s := m.s) (pc2 := 118) (lv2 := [(0, .ref 67), (1, .int x1), (7, .int (sh_b2 x7)), (8, .int x8), (9, .int x9), (10, .int x10), (11, .long x11)]) (st2 := []) (I2 := m.I) (J2 := m.J) (fun hT v kk => ?_) ?_
          · refine sh_j0 (c := .le) (off := (20)) (pc2 := 118) false rfl (sh_Blef c) rfl ?_
            exact kk
          exact sh_Lk_sub (sh_sub_c rfl (sh_sub_c rfl (sh_sub_n))) (sl_304_118 e tg)
        · refine sh_Lk_lift (T := m.T) (I := m.I) (J := m.J) (s := m.s) (pc2 := 135) (lv2 := [(0, .ref 67), (1, .int x1), (7, .int (sh_b2 x7)), (8, .int x8), (9, .int x9), (10, .int x10), (11, .long x11)]) (st2 := []) (I2 := m.I) (J2 := m.J) (fun hT v kk => ?_) ?_
          · refine sh_j0 (c := .le) (off := (20)) (pc2 := 135) true rfl (sh_Blet c) rfl ?_
            exact kk
          exact sh_Lk_sub (sh_sub_c rfl (sh_sub_c rfl (sh_sub_c rfl (sh_sub_c rfl (sh_sub_c rfl (sh_sub_n)))))) (sl_304_135 e tg)
      · refine sh_Lk_lift (T := m.T) (I := m.I) (J := m.J) (s := m.s) (pc2 := 118) (lv2 := [(0, .ref 67), (1, .int x1), (7, .int (sh_b2 x7)), (8, .int x8), (9, .int x9), (10, .int x10), (11, .long x11)]) (st2 := []) (I2 := m.I) (J2 := m.J) (fun hT v kk => ?_) ?_
        · refine sh_jc (c := .ne) (off := (8)) (pc2 := 118) true rfl (sh_Bnet c) rfl ?_
          exact kk
        exact sh_Lk_sub (sh_sub_c rfl (sh_sub_c rfl (sh_sub_n))) (sl_304_118 e tg)
theorem sl_304_13 {x1 : Int32} {x2 : Int32} {x3 : Int32} {x4 : Int32} {x5 : Int64} {y0 : Bool} {m m2 : sh_X} {o : Outcome} {z : (Bool × sh_X)} (e : sf_304_13 x1 x2 x3 x4 x5 y0 m = some z) (tg : (sh_tZ o m2) z) : sh_Lk 304 13 [(0, .ref 67), (1, .int x1), (2, .int x2), (3, .int x3), (4, .int x4), (5, .long x5)] [.int (sh_b2 y0)] m o m2 12 289 := by
  unfold sf_304_13 at e
  refine sh_Lk_lift (T := m.T) (I := m.I) (J := m.J) (s := m.s) (pc2 := 67) (lv2 := [(11, .long (m.J 66 46)), (10, .int (m.I 66 44)), (9, .int (m.I 66 45)), (8, .int (m.I 66 43)), (7, .int (sh_b2 y0)), (0, .ref 67), (1, .int x1), (2, .int x2), (3, .int x3), (4, .int x4), (5, .long x5)]) (st2 := [.int x1, .ref 75, .ref 67]) (I2 := sh_u2 (sh_u2 (sh_u2 m.I 66 43 x2) 66 44 x3) 66 45 x4) (J2 := sh_u2 m.J 66 46 x5) (fun hT v kk => ?_) ?_
  · refine sh_w (i := (.istore 7)) (len := 2) (pc2 := 15) (lv2 := [(7, .int (sh_b2 y0)), (0, .ref 67), (1, .int x1), (2, .int x2), (3, .int x3), (4, .int x4), (5, .long x5)]) (st2 := []) (h2 := (sh_rep m.T m.I m.J)) rfl rfl rfl ?_
    refine sh_w (i := (.aload_n 0)) (len := 1) (pc2 := 16) (lv2 := [(7, .int (sh_b2 y0)), (0, .ref 67), (1, .int x1), (2, .int x2), (3, .int x3), (4, .int x4), (5, .long x5)]) (st2 := [.ref 67]) (h2 := (sh_rep m.T m.I m.J)) rfl rfl rfl ?_
    refine sh_gI1 (len := 3) (x := m.I 66 43) (pc2 := 19) rfl rfl (sh_s66 hT.st) rfl rfl rfl ?_
    refine sh_w (i := (.istore 8)) (len := 2) (pc2 := 21) (lv2 := [(8, .int (m.I 66 43)), (7, .int (sh_b2 y0)), (0, .ref 67), (1, .int x1), (2, .int x2), (3, .int x3), (4, .int x4), (5, .long x5)]) (st2 := []) (h2 := (sh_rep m.T m.I m.J)) rfl rfl rfl ?_
    refine sh_w (i := (.aload_n 0)) (len := 1) (pc2 := 22) (lv2 := [(8, .int (m.I 66 43)), (7, .int (sh_b2 y0)), (0, .ref 67), (1, .int x1), (2, .int x2), (3, .int x3), (4, .int x4), (5, .long x5)]) (st2 := [.ref 67]) (h2 := (sh_rep m.T m.I m.J)) rfl rfl rfl ?_
    refine sh_gI1 (len := 3) (x := m.I 66 45) (pc2 := 25) rfl rfl (sh_s66 hT.st) rfl rfl rfl ?_
    refine sh_w (i := (.istore 9)) (len := 2) (pc2 := 27) (lv2 := [(9, .int (m.I 66 45)), (8, .int (m.I 66 43)), (7, .int (sh_b2 y0)), (0, .ref 67), (1, .int x1), (2, .int x2), (3, .int x3), (4, .int x4), (5, .long x5)]) (st2 := []) (h2 := (sh_rep m.T m.I m.J)) rfl rfl rfl ?_
    refine sh_w (i := (.aload_n 0)) (len := 1) (pc2 := 28) (lv2 := [(9, .int (m.I 66 45)), (8, .int (m.I 66 43)), (7, .int (sh_b2 y0)), (0, .ref 67), (1, .int x1), (2, .int x2), (3, .int x3), (4, .int x4), (5, .long x5)]) (st2 := [.ref 67]) (h2 := (sh_rep m.T m.I m.J)) rfl rfl rfl ?_
    refine sh_gI1 (len := 3) (x := m.I 66 44) (pc2 := 31) rfl rfl (sh_s66 hT.st) rfl rfl rfl ?_
    refine sh_w (i := (.istore 10)) (len := 2) (pc2 := 33) (lv2 := [(10, .int (m.I 66 44)), (9, .int (m.I 66 45)), (8, .int (m.I 66 43)), (7, .int (sh_b2 y0)), (0, .ref 67), (1, .int x1), (2, .int x2), (3, .int x3), (4, .int x4), (5, .long x5)]) (st2 := []) (h2 := (sh_rep m.T m.I m.J)) rfl rfl rfl ?_
    refine sh_w (i := (.aload_n 0)) (len := 1) (pc2 := 34) (lv2 := [(10, .int (m.I 66 44)), (9, .int (m.I 66 45)), (8, .int (m.I 66 43)), (7, .int (sh_b2 y0)), (0, .ref 67), (1, .int x1), (2, .int x2), (3, .int x3), (4, .int x4), (5, .long x5)]) (st2 := [.ref 67]) (h2 := (sh_rep m.T m.I m.J)) rfl rfl rfl ?_
    refine sh_gJ1 (len := 3) (x := m.J 66 46) (pc2 := 37) rfl rfl (sh_s66 hT.st) rfl rfl rfl ?_
    refine sh_w (i := (.lstore 11)) (len := 2) (pc2 := 39) (lv2 := [(11, .long (m.J 66 46)), (10, .int (m.I 66 44)), (9, .int (m.I 66 45)), (8, .int (m.I 66 43)), (7, .int (sh_b2 y0)), (0, .ref 67), (1, .int x1), (2, .int x2), (3, .int x3), (4, .int x4), (5, .long x5)]) (st2 := []) (h2 := (sh_rep m.T m.I m.J)) rfl rfl rfl ?_
    refine sh_w (i := (.aload_n 0)) (len := 1) (pc2 := 40) (lv2 := [(11, .long (m.J 66 46)), (10, .int (m.I 66 44)), (9, .int (m.I 66 45)), (8, .int (m.I 66 43)), (7, .int (sh_b2 y0)), (0, .ref 67), (1, .int x1), (2, .int x2), (3, .int x3), (4, .int x4), (5, .long x5)]) (st2 := [.ref 67]) (h2 := (sh_rep m.T m.I m.J)) rfl rfl rfl ?_
    refine sh_w (i := (.iload_n 2)) (len := 1) (pc2 := 41) (lv2 := [(11, .long (m.J 66 46)), (10, .int (m.I 66 44)), (9, .int (m.I 66 45)), (8, .int (m.I 66 43)), (7, .int (sh_b2 y0)), (0, .ref 67), (1, .int x1), (2, .int x2), (3, .int x3), (4, .int x4), (5, .long x5)]) (st2 := [.int x2, .ref 67]) (h2 := (sh_rep m.T m.I m.J)) rfl rfl rfl ?_
    refine sh_pI1 (x := x2) (pc2 := 44) rfl rfl (sh_s66 hT.st) rfl rfl rfl rfl ?_
    refine sh_w (i := (.aload_n 0)) (len := 1) (pc2 := 45) (lv2 := [(11, .long (m.J 66 46)), (10, .int (m.I 66 44)), (9, .int (m.I 66 45)), (8, .int (m.I 66 43)), (7, .int (sh_b2 y0)), (0, .ref 67), (1, .int x1), (2, .int x2), (3, .int x3), (4, .int x4), (5, .long x5)]) (st2 := [.ref 67]) (h2 := (sh_rep m.T (sh_u2 m.I 66 43 x2) m.J)) rfl rfl rfl ?_
    refine sh_w (i := (.iload_n 3)) (len := 1) (pc2 := 46) (lv2 := [(11, .long (m.J 66 46)), (10, .int (m.I 66 44)), (9, .int (m.I 66 45)), (8, .int (m.I 66 43)), (7, .int (sh_b2 y0)), (0, .ref 67), (1, .int x1), (2, .int x2), (3, .int x3), (4, .int x4), (5, .long x5)]) (st2 := [.int x3, .ref 67]) (h2 := (sh_rep m.T (sh_u2 m.I 66 43 x2) m.J)) rfl rfl rfl ?_
    refine sh_pI1 (x := x3) (pc2 := 49) rfl rfl (sh_s66 hT.st) rfl rfl rfl rfl ?_
    refine sh_w (i := (.aload_n 0)) (len := 1) (pc2 := 50) (lv2 := [(11, .long (m.J 66 46)), (10, .int (m.I 66 44)), (9, .int (m.I 66 45)), (8, .int (m.I 66 43)), (7, .int (sh_b2 y0)), (0, .ref 67), (1, .int x1), (2, .int x2), (3, .int x3), (4, .int x4), (5, .long x5)]) (st2 := [.ref 67]) (h2 := (sh_rep m.T (sh_u2 (sh_u2 m.I 66 43 x2) 66 44 x3) m.J)) rfl rfl rfl ?_
    refine sh_w (i := (.iload 4)) (len := 2) (pc2 := 52) (lv2 := [(11, .long (m.J 66 46)), (10, .int (m.I 66 44)), (9, .int (m.I 66 45)), (8, .int (m.I 66 43)), (7, .int (sh_b2 y0)), (0, .ref 67), (1, .int x1), (2, .int x2), (3, .int x3), (4, .int x4), (5, .long x5)]) (st2 := [.int x4, .ref 67]) (h2 := (sh_rep m.T (sh_u2 (sh_u2 m.I 66 43 x2) 66 44 x3) m.J)) rfl rfl rfl ?_
    refine sh_pI1 (x := x4) (pc2 := 55) rfl rfl (sh_s66 hT.st) rfl rfl rfl rfl ?_
    refine sh_w (i := (.aload_n 0)) (len := 1) (pc2 := 56) (lv2 := [(11, .long (m.J 66 46)), (10, .int (m.I 66 44)), (9, .int (m.I 66 45)), (8, .int (m.I 66 43)), (7, .int (sh_b2 y0)), (0, .ref 67), (1, .int x1), (2, .int x2), (3, .int x3), (4, .int x4), (5, .long x5)]) (st2 := [.ref 67]) (h2 := (sh_rep m.T (sh_u2 (sh_u2 (sh_u2 m.I 66 43 x2) 66 44 x3) 66 45 x4) m.J)) rfl rfl rfl ?_
    refine sh_w (i := (.lload 5)) (len := 2) (pc2 := 58) (lv2 := [(11, .long (m.J 66 46)), (10, .int (m.I 66 44)), (9, .int (m.I 66 45)), (8, .int (m.I 66 43)), (7, .int (sh_b2 y0)), (0, .ref 67), (1, .int x1), (2, .int x2), (3, .int x3), (4, .int x4), (5, .long x5)]) (st2 := [.long x5, .ref 67]) (h2 := (sh_rep m.T (sh_u2 (sh_u2 (sh_u2 m.I 66 43 x2) 66 44 x3) 66 45 x4) m.J)) rfl rfl rfl ?_
    refine sh_pJ1 (x := x5) (pc2 := 61) rfl rfl (sh_s66 hT.st) rfl rfl rfl rfl ?_
    refine sh_w (i := (.aload_n 0)) (len := 1) (pc2 := 62) (lv2 := [(11, .long (m.J 66 46)), (10, .int (m.I 66 44)), (9, .int (m.I 66 45)), (8, .int (m.I 66 43)), (7, .int (sh_b2 y0)), (0, .ref 67), (1, .int x1), (2, .int x2), (3, .int x3), (4, .int x4), (5, .long x5)]) (st2 := [.ref 67]) (h2 := (sh_rep m.T (sh_u2 (sh_u2 (sh_u2 m.I 66 43 x2) 66 44 x3) 66 45 x4) (sh_u2 m.J 66 46 x5))) rfl rfl rfl ?_
    refine sh_w (i := (.aload_n 0)) (len := 1) (pc2 := 63) (lv2 := [(11, .long (m.J 66 46)), (10, .int (m.I 66 44)), (9, .int (m.I 66 45)), (8, .int (m.I 66 43)), (7, .int (sh_b2 y0)), (0, .ref 67), (1, .int x1), (2, .int x2), (3, .int x3), (4, .int x4), (5, .long x5)]) (st2 := [.ref 67, .ref 67]) (h2 := (sh_rep m.T (sh_u2 (sh_u2 (sh_u2 m.I 66 43 x2) 66 44 x3) 66 45 x4) (sh_u2 m.J 66 46 x5))) rfl rfl rfl ?_
    refine sh_gR1 (len := 3) (x := .ref 75) (pc2 := 66) rfl rfl (sh_s66 hT.st) rfl rfl ?_
    refine sh_w (i := (.iload_n 1)) (len := 1) (pc2 := 67) (lv2 := [(11, .long (m.J 66 46)), (10, .int (m.I 66 44)), (9, .int (m.I 66 45)), (8, .int (m.I 66 43)), (7, .int (sh_b2 y0)), (0, .ref 67), (1, .int x1), (2, .int x2), (3, .int x3), (4, .int x4), (5, .long x5)]) (st2 := [.int x1, .ref 75, .ref 67]) (h2 := (sh_rep m.T (sh_u2 (sh_u2 (sh_u2 m.I 66 43 x2) 66 44 x3) 66 45 x4) (sh_u2 m.J 66 46 x5))) rfl rfl rfl ?_
    exact kk
  obtain ⟨c, e⟩ := sh_gd e
  refine sh_Lk_lift (T := m.T) (I := sh_u2 (sh_u2 (sh_u2 m.I 66 43 x2) 66 44 x3) 66 45 x4) (J := sh_u2 m.J 66 46 x5) (s := m.s) (pc2 := 68) (lv2 := [(11, .long (m.J 66 46)), (10, .int (m.I 66 44)), (9, .int (m.I 66 45)), (8, .int (m.I 66 43)), (7, .int (sh_b2 y0)), (0, .ref 67), (1, .int x1), (2, .int x2), (3, .int x3), (4, .int x4), (5, .long x5)]) (st2 := [.int (m.I 74 (Int32.toNatClampNeg x1)), .ref 67]) (I2 := sh_u2 (sh_u2 (sh_u2 m.I 66 43 x2) 66 44 x3) 66 45 x4) (J2 := sh_u2 m.J 66 46 x5) (fun hT v kk => ?_) ?_
  · refine sh_ia1 (x := m.I 74 (Int32.toNatClampNeg x1)) (pc2 := 68) rfl (sh_s74 hT.st) (sh_okb1 c) (sh_okb2 c) rfl rfl ?_
    exact kk
  obtain ⟨r1, m11, e1, e⟩ := sh_bn_e e
  refine sh_Lk_cV (r := (some (.int (sh_b2 r1)))) (st2 := [.int (sh_b2 r1)]) (pc2 := 71) (k2 := 298) (a := 66) (as := [.ref 67, .int (m.I 74 (Int32.toNatClampNeg x1))]) (rest := []) rfl rfl rfl (fun hT => (sh_s66 hT.st)) rfl rfl ⟨Nat.le_of_ble_eq_true rfl, Nat.le_of_ble_eq_true rfl⟩ (sl_298 e1 ⟨rfl, rfl⟩) rfl rfl (Nat.le_of_ble_eq_true rfl) (Nat.le_of_ble_eq_true rfl) ?_
  rcases sh_ite e with ⟨c, e⟩ | ⟨c, e⟩
  · refine sh_Lk_lift (T := m11.T) (I := m11.I) (J := m11.J) (s := m11.s) (pc2 := 80) (lv2 := [(11, .long (m.J 66 46)), (10, .int (m.I 66 44)), (9, .int (m.I 66 45)), (8, .int (m.I 66 43)), (7, .int (sh_b2 y0)), (0, .ref 67), (1, .int x1), (2, .int x2), (3, .int x3), (4, .int x4), (5, .long x5)]) (st2 := [.int (m11.I 66 43)]) (I2 := m11.I) (J2 := m11.J) (fun hT v kk => ?_) ?_
    · refine sh_j0 (c := .ne) (off := (5)) (pc2 := 76) true rfl (sh_Znet c) rfl ?_
      refine sh_w (i := (.aload_n 0)) (len := 1) (pc2 := 77) (lv2 := [(11, .long (m.J 66 46)), (10, .int (m.I 66 44)), (9, .int (m.I 66 45)), (8, .int (m.I 66 43)), (7, .int (sh_b2 y0)), (0, .ref 67), (1, .int x1), (2, .int x2), (3, .int x3), (4, .int x4), (5, .long x5)]) (st2 := [.ref 67]) (h2 := (sh_rep m11.T m11.I m11.J)) rfl rfl rfl ?_
      refine sh_gI1 (len := 3) (x := m11.I 66 43) (pc2 := 80) rfl rfl (sh_s66 hT.st) rfl rfl rfl ?_
      exact kk
    rcases sh_ite e with ⟨c, e⟩ | ⟨c, e⟩
    · refine sh_Lk_lift (T := m11.T) (I := m11.I) (J := m11.J) (s := m11.s) (pc2 := 118) (lv2 := [(11, .long (m.J 66 46)), (10, .int (m.I 66 44)), (9, .int (m.I 66 45)), (8, .int (m.I 66 43)), (7, .int (sh_b2 y0)), (0, .ref 67), (1, .int x1), (2, .int x2), (3, .int x3), (4, .int x4), (5, .long x5)]) (st2 := []) (I2 := m11.I) (J2 := m11.J) (fun hT v kk => ?_) ?_
      · refine sh_j0 (c := .eq) (off := (38)) (pc2 := 118) true rfl (sh_Beqt c) rfl ?_
        exact kk
      exact sh_Lk_sub (sh_sub_c rfl (sh_sub_c rfl (sh_sub_n))) (sl_304_118 e tg)
    · refine sh_Lk_lift (T := m11.T) (I := m11.I) (J := m11.J) (s := m11.s) (pc2 := 85) (lv2 := [(11, .long (m.J 66 46)), (10, .int (m.I 66 44)), (9, .int (m.I 66 45)), (8, .int (m.I 66 43)), (7, .int (sh_b2 y0)), (0, .ref 67), (1, .int x1), (2, .int x2), (3, .int x3), (4, .int x4), (5, .long x5)]) (st2 := [.int (sh_b2 y0)]) (I2 := m11.I) (J2 := m11.J) (fun hT v kk => ?_) ?_
      · refine sh_j0 (c := .eq) (off := (38)) (pc2 := 83) false rfl (sh_Beqf c) rfl ?_
        refine sh_w (i := (.iload 7)) (len := 2) (pc2 := 85) (lv2 := [(11, .long (m.J 66 46)), (10, .int (m.I 66 44)), (9, .int (m.I 66 45)), (8, .int (m.I 66 43)), (7, .int (sh_b2 y0)), (0, .ref 67), (1, .int x1), (2, .int x2), (3, .int x3), (4, .int x4), (5, .long x5)]) (st2 := [.int (sh_b2 y0)]) (h2 := (sh_rep m11.T m11.I m11.J)) rfl rfl rfl ?_
        exact kk
      rcases sh_ite e with ⟨c, e⟩ | ⟨c, e⟩
      · refine sh_Lk_lift (T := m11.T) (I := m11.I) (J := m11.J) (s := m11.s) (pc2 := 92) (lv2 := [(11, .long (m.J 66 46)), (10, .int (m.I 66 44)), (9, .int (m.I 66 45)), (8, .int (m.I 66 43)), (7, .int (sh_b2 y0)), (0, .ref 67), (1, .int x1), (2, .int x2), (3, .int x3), (4, .int x4), (5, .long x5)]) (st2 := [.int (lg_cmp (m.J 66 46) 0)]) (I2 := m11.I) (J2 := m11.J) (fun hT v kk => ?_) ?_
        · refine sh_j0 (c := .eq) (off := (10)) (pc2 := 88) false rfl (sh_Zeqf c) rfl ?_
          refine sh_w (i := (.lload 11)) (len := 2) (pc2 := 90) (lv2 := [(11, .long (m.J 66 46)), (10, .int (m.I 66 44)), (9, .int (m.I 66 45)), (8, .int (m.I 66 43)), (7, .int (sh_b2 y0)), (0, .ref 67), (1, .int x1), (2, .int x2), (3, .int x3), (4, .int x4), (5, .long x5)]) (st2 := [.long (m.J 66 46)]) (h2 := (sh_rep m11.T m11.I m11.J)) rfl rfl rfl ?_
          refine sh_w (i := (.lconst 0)) (len := 1) (pc2 := 91) (lv2 := [(11, .long (m.J 66 46)), (10, .int (m.I 66 44)), (9, .int (m.I 66 45)), (8, .int (m.I 66 43)), (7, .int (sh_b2 y0)), (0, .ref 67), (1, .int x1), (2, .int x2), (3, .int x3), (4, .int x4), (5, .long x5)]) (st2 := [.long 0, .long (m.J 66 46)]) (h2 := (sh_rep m11.T m11.I m11.J)) rfl rfl rfl ?_
          refine sh_w (i := .lcmp) (len := 1) (pc2 := 92) (lv2 := [(11, .long (m.J 66 46)), (10, .int (m.I 66 44)), (9, .int (m.I 66 45)), (8, .int (m.I 66 43)), (7, .int (sh_b2 y0)), (0, .ref 67), (1, .int x1), (2, .int x2), (3, .int x3), (4, .int x4), (5, .long x5)]) (st2 := [.int (lg_cmp (m.J 66 46) 0)]) (h2 := (sh_rep m11.T m11.I m11.J)) rfl rfl rfl ?_
          exact kk
        rcases sh_ite e with ⟨c, e⟩ | ⟨c, e⟩
        · refine sh_Lk_lift (T := m11.T) (I := m11.I) (J := m11.J) (s := m11.s) (pc2 := 118) (lv2 := [(11, .long (m.J 66 46)), (10, .int (m.I 66 44)), (9, .int (m.I 66 45)), (8, .int (m.I 66 43)), (7, .int (sh_b2 y0)), (0, .ref 67), (1, .int x1), (2, .int x2), (3, .int x3), (4, .int x4), (5, .long x5)]) (st2 := []) (I2 := m11.I) (J2 := m11.J) (fun hT v kk => ?_) ?_
          · refine sh_j0 (c := .lt) (off := (26)) (pc2 := 118) true rfl (sh_Cltt c) rfl ?_
            exact kk
          exact sh_Lk_sub (sh_sub_c rfl (sh_sub_c rfl (sh_sub_n))) (sl_304_118 e tg)
        · refine sh_Lk_lift (T := m11.T) (I := m11.I) (J := m11.J) (s := m11.s) (pc2 := 95) (lv2 := [(11, .long (m.J 66 46)), (10, .int (m.I 66 44)), (9, .int (m.I 66 45)), (8, .int (m.I 66 43)), (7, .int (sh_b2 y0)), (0, .ref 67), (1, .int x1), (2, .int x2), (3, .int x3), (4, .int x4), (5, .long x5)]) (st2 := []) (I2 := m11.I) (J2 := m11.J) (fun hT v kk => ?_) ?_
          · refine sh_j0 (c := .lt) (off := (26)) (pc2 := 95) false rfl (sh_Cltf c) rfl ?_
            exact kk
          exact sh_Lk_sub (sh_sub_c rfl (sh_sub_c rfl (sh_sub_c rfl (sh_sub_c rfl (sh_sub_c rfl (sh_sub_c rfl (sh_sub_c rfl (sh_sub_n)))))))) (sl_304_95 e tg)
      · refine sh_Lk_lift (T := m11.T) (I := m11.I) (J := m11.J) (s := m11.s) (pc2 := 95) (lv2 := [(11, .long (m.J 66 46)), (10, .int (m.I 66 44)), (9, .int (m.I 66 45)), (8, .int (m.I 66 43)), (7, .int (sh_b2 y0)), (0, .ref 67), (1, .int x1), (2, .int x2), (3, .int x3), (4, .int x4), (5, .long x5)]) (st2 := []) (I2 := m11.I) (J2 := m11.J) (fun hT v kk => ?_) ?_
        · refine sh_j0 (c := .eq) (off := (10)) (pc2 := 95) true rfl (sh_Zeqt c) rfl ?_
          exact kk
        exact sh_Lk_sub (sh_sub_c rfl (sh_sub_c rfl (sh_sub_c rfl (sh_sub_c rfl (sh_sub_c rfl (sh_sub_c rfl (sh_sub_c rfl (sh_sub_n)))))))) (sl_304_95 e tg)
  · refine sh_Lk_lift (T := m11.T) (I := m11.I) (J := m11.J) (s := m11.s) (pc2 := 75) (lv2 := [(11, .long (m.J 66 46)), (10, .int (m.I 66 44)), (9, .int (m.I 66 45)), (8, .int (m.I 66 43)), (7, .int (sh_b2 y0)), (0, .ref 67), (1, .int x1), (2, .int x2), (3, .int x3), (4, .int x4), (5, .long x5)]) (st2 := [.int 0]) (I2 := m11.I) (J2 := m11.J) (fun hT v kk => ?_) ?_
    · refine sh_j0 (c := .ne) (off := (5)) (pc2 := 74) false rfl (sh_Znef c) rfl ?_
      refine sh_w (i := (.iconst 0)) (len := 1) (pc2 := 75) (lv2 := [(11, .long (m.J 66 46)), (10, .int (m.I 66 44)), (9, .int (m.I 66 45)), (8, .int (m.I 66 43)), (7, .int (sh_b2 y0)), (0, .ref 67), (1, .int x1), (2, .int x2), (3, .int x3), (4, .int x4), (5, .long x5)]) (st2 := [.int 0]) (h2 := (sh_rep m11.T m11.I m11.J)) rfl rfl rfl ?_
      exact kk
    obtain rfl := Option.some.inj e
    obtain ⟨rfl, rfl⟩ := tg
    exact sh_Lk_ret (i := .ireturn) rfl rfl rfl (Nat.le_of_ble_eq_true rfl) (Nat.le_of_ble_eq_true rfl)
theorem sl_304 {x1 : Int32} {x2 : Int32} {x3 : Int32} {x4 : Int32} {x5 : Int64} {m m2 : sh_X} {o : Outcome} {z : (Bool × sh_X)} (e : sf_304 x1 x2 x3 x4 x5 m = some z) (tg : (sh_tZ o m2) z) : sh_Lk 304 0 [(0, .ref 67), (1, .int x1), (2, .int x2), (3, .int x3), (4, .int x4), (5, .long x5)] [] m o m2 12 289 := by
  unfold sf_304 at e
  refine sh_Lk_lift (T := m.T) (I := m.I) (J := m.J) (s := m.s) (pc2 := 5) (lv2 := [(0, .ref 67), (1, .int x1), (2, .int x2), (3, .int x3), (4, .int x4), (5, .long x5)]) (st2 := [.int 3, .int (m.I 66 43)]) (I2 := m.I) (J2 := m.J) (fun hT v kk => ?_) ?_
  · refine sh_w (i := (.aload_n 0)) (len := 1) (pc2 := 1) (lv2 := [(0, .ref 67), (1, .int x1), (2, .int x2), (3, .int x3), (4, .int x4), (5, .long x5)]) (st2 := [.ref 67]) (h2 := (sh_rep m.T m.I m.J)) rfl rfl rfl ?_
    refine sh_gI1 (len := 3) (x := m.I 66 43) (pc2 := 4) rfl rfl (sh_s66 hT.st) rfl rfl rfl ?_
    refine sh_w (i := (.iconst 3)) (len := 1) (pc2 := 5) (lv2 := [(0, .ref 67), (1, .int x1), (2, .int x2), (3, .int x3), (4, .int x4), (5, .long x5)]) (st2 := [.int 3, .int (m.I 66 43)]) (h2 := (sh_rep m.T m.I m.J)) rfl rfl rfl ?_
    exact kk
  rcases sh_ite e with ⟨c, e⟩ | ⟨c, e⟩
  · refine sh_Lk_lift (T := m.T) (I := m.I) (J := m.J) (s := m.s) (pc2 := 13) (lv2 := [(0, .ref 67), (1, .int x1), (2, .int x2), (3, .int x3), (4, .int x4), (5, .long x5)]) (st2 := [.int 1]) (I2 := m.I) (J2 := m.J) (fun hT v kk => ?_) ?_
    · refine sh_jc (c := .ne) (off := (7)) (pc2 := 8) false rfl (sh_Bnef c) rfl ?_
      refine sh_w (i := (.iconst 1)) (len := 1) (pc2 := 9) (lv2 := [(0, .ref 67), (1, .int x1), (2, .int x2), (3, .int x3), (4, .int x4), (5, .long x5)]) (st2 := [.int 1]) (h2 := (sh_rep m.T m.I m.J)) rfl rfl rfl ?_
      refine sh_w (i := (.goto 4)) (len := 3) (pc2 := 13) (lv2 := [(0, .ref 67), (1, .int x1), (2, .int x2), (3, .int x3), (4, .int x4), (5, .long x5)]) (st2 := [.int 1]) (h2 := (sh_rep m.T m.I m.J)) rfl rfl rfl ?_
      exact kk
    exact sh_Lk_sub (sh_sub_c rfl (sh_sub_c rfl (sh_sub_c rfl (sh_sub_c rfl (sh_sub_c rfl (sh_sub_c rfl (sh_sub_n))))))) (sl_304_13 e tg)
  · refine sh_Lk_lift (T := m.T) (I := m.I) (J := m.J) (s := m.s) (pc2 := 13) (lv2 := [(0, .ref 67), (1, .int x1), (2, .int x2), (3, .int x3), (4, .int x4), (5, .long x5)]) (st2 := [.int 0]) (I2 := m.I) (J2 := m.J) (fun hT v kk => ?_) ?_
    · refine sh_jc (c := .ne) (off := (7)) (pc2 := 12) true rfl (sh_Bnet c) rfl ?_
      refine sh_w (i := (.iconst 0)) (len := 1) (pc2 := 13) (lv2 := [(0, .ref 67), (1, .int x1), (2, .int x2), (3, .int x3), (4, .int x4), (5, .long x5)]) (st2 := [.int 0]) (h2 := (sh_rep m.T m.I m.J)) rfl rfl rfl ?_
      exact kk
    exact sh_Lk_sub (sh_sub_c rfl (sh_sub_c rfl (sh_sub_c rfl (sh_sub_c rfl (sh_sub_c rfl (sh_sub_c rfl (sh_sub_n))))))) (sl_304_13 e tg)
theorem sl_306_20 {y1 : Int64} {m m2 : sh_X} {o : Outcome} {z : (Unit × sh_X)} (e : sf_306_20 y1 m = some z) (tg : (sh_tV o m2) z) : sh_Lk 306 20 [] [.long y1, .ref 67] m o m2 8 200 := by
  unfold sf_306_20 at e
  refine sh_Lk_lift (T := m.T) (I := m.I) (J := m.J) (s := m.s) (pc2 := 23) (lv2 := []) (st2 := []) (I2 := m.I) (J2 := sh_u2 m.J 66 46 y1) (fun hT v kk => ?_) ?_
  · refine sh_pJ1 (x := y1) (pc2 := 23) rfl rfl (sh_s66 hT.st) rfl rfl rfl rfl ?_
    exact kk
  obtain rfl := Option.some.inj e
  obtain ⟨rfl, rfl⟩ := tg
  exact sh_Lk_ret (i := .return_) rfl rfl rfl (Nat.le_of_ble_eq_true rfl) (Nat.le_of_ble_eq_true rfl)
theorem sl_306 {x1 : Bool} {m m2 : sh_X} {o : Outcome} {z : (Unit × sh_X)} (e : sf_306 x1 m = some z) (tg : (sh_tV o m2) z) : sh_Lk 306 0 [(0, .ref 67), (1, .int (sh_b2 x1))] [] m o m2 8 200 := by
  unfold sf_306 at e
  refine sh_Lk_lift (T := m.T) (I := m.I) (J := m.J) (s := m.s) (pc2 := 12) (lv2 := [(0, .ref 67), (1, .int (sh_b2 x1))]) (st2 := [.int (sh_b2 x1), .ref 67]) (I2 := sh_u2 (sh_u2 m.I 66 43 0) 66 44 1) (J2 := m.J) (fun hT v kk => ?_) ?_
  · refine sh_w (i := (.aload_n 0)) (len := 1) (pc2 := 1) (lv2 := [(0, .ref 67), (1, .int (sh_b2 x1))]) (st2 := [.ref 67]) (h2 := (sh_rep m.T m.I m.J)) rfl rfl rfl ?_
    refine sh_w (i := (.iconst 0)) (len := 1) (pc2 := 2) (lv2 := [(0, .ref 67), (1, .int (sh_b2 x1))]) (st2 := [.int 0, .ref 67]) (h2 := (sh_rep m.T m.I m.J)) rfl rfl rfl ?_
    refine sh_pI1 (x := 0) (pc2 := 5) rfl rfl (sh_s66 hT.st) rfl rfl rfl rfl ?_
    refine sh_w (i := (.aload_n 0)) (len := 1) (pc2 := 6) (lv2 := [(0, .ref 67), (1, .int (sh_b2 x1))]) (st2 := [.ref 67]) (h2 := (sh_rep m.T (sh_u2 m.I 66 43 0) m.J)) rfl rfl rfl ?_
    refine sh_w (i := (.iconst 1)) (len := 1) (pc2 := 7) (lv2 := [(0, .ref 67), (1, .int (sh_b2 x1))]) (st2 := [.int 1, .ref 67]) (h2 := (sh_rep m.T (sh_u2 m.I 66 43 0) m.J)) rfl rfl rfl ?_
    refine sh_pI1 (x := 1) (pc2 := 10) rfl rfl (sh_s66 hT.st) rfl rfl rfl rfl ?_
    refine sh_w (i := (.aload_n 0)) (len := 1) (pc2 := 11) (lv2 := [(0, .ref 67), (1, .int (sh_b2 x1))]) (st2 := [.ref 67]) (h2 := (sh_rep m.T (sh_u2 (sh_u2 m.I 66 43 0) 66 44 1) m.J)) rfl rfl rfl ?_
    refine sh_w (i := (.iload_n 1)) (len := 1) (pc2 := 12) (lv2 := [(0, .ref 67), (1, .int (sh_b2 x1))]) (st2 := [.int (sh_b2 x1), .ref 67]) (h2 := (sh_rep m.T (sh_u2 (sh_u2 m.I 66 43 0) 66 44 1) m.J)) rfl rfl rfl ?_
    exact kk
  rcases sh_ite e with ⟨c, e⟩ | ⟨c, e⟩
  · refine sh_Lk_lift (T := m.T) (I := sh_u2 (sh_u2 m.I 66 43 0) 66 44 1) (J := m.J) (s := m.s) (pc2 := 20) (lv2 := [(0, .ref 67), (1, .int (sh_b2 x1))]) (st2 := [.long 1, .ref 67]) (I2 := sh_u2 (sh_u2 m.I 66 43 0) 66 44 1) (J2 := m.J) (fun hT v kk => ?_) ?_
    · refine sh_j0 (c := .eq) (off := (7)) (pc2 := 15) false rfl (sh_Zeqf c) rfl ?_
      refine sh_w (i := (.lconst 1)) (len := 1) (pc2 := 16) (lv2 := [(0, .ref 67), (1, .int (sh_b2 x1))]) (st2 := [.long 1, .ref 67]) (h2 := (sh_rep m.T (sh_u2 (sh_u2 m.I 66 43 0) 66 44 1) m.J)) rfl rfl rfl ?_
      refine sh_w (i := (.goto 4)) (len := 3) (pc2 := 20) (lv2 := [(0, .ref 67), (1, .int (sh_b2 x1))]) (st2 := [.long 1, .ref 67]) (h2 := (sh_rep m.T (sh_u2 (sh_u2 m.I 66 43 0) 66 44 1) m.J)) rfl rfl rfl ?_
      exact kk
    exact sh_Lk_sub (sh_sub_n) (sl_306_20 e tg)
  · refine sh_Lk_lift (T := m.T) (I := sh_u2 (sh_u2 m.I 66 43 0) 66 44 1) (J := m.J) (s := m.s) (pc2 := 20) (lv2 := [(0, .ref 67), (1, .int (sh_b2 x1))]) (st2 := [.long 0, .ref 67]) (I2 := sh_u2 (sh_u2 m.I 66 43 0) 66 44 1) (J2 := m.J) (fun hT v kk => ?_) ?_
    · refine sh_j0 (c := .eq) (off := (7)) (pc2 := 19) true rfl (sh_Zeqt c) rfl ?_
      refine sh_w (i := (.lconst 0)) (len := 1) (pc2 := 20) (lv2 := [(0, .ref 67), (1, .int (sh_b2 x1))]) (st2 := [.long 0, .ref 67]) (h2 := (sh_rep m.T (sh_u2 (sh_u2 m.I 66 43 0) 66 44 1) m.J)) rfl rfl rfl ?_
      exact kk
    exact sh_Lk_sub (sh_sub_n) (sl_306_20 e tg)
theorem sl_307 {x0 : Int32} {x1 : Int64} {x3 : Int64} {m m2 : sh_X} {o : Outcome} {z : Bool} (e : sf_307 x0 x1 x3 = z) (tg : (sh_tZc m o m2) z) : sh_Lk 307 0 [(0, .int x0), (1, .long x1), (3, .long x3)] [] m o m2 8 200 := by
  unfold sf_307 at e
  refine sh_Lk_lift (T := m.T) (I := m.I) (J := m.J) (s := m.s) (pc2 := 2) (lv2 := [(0, .int x0), (1, .long x1), (3, .long x3)]) (st2 := [.int 1, .int x0]) (I2 := m.I) (J2 := m.J) (fun hT v kk => ?_) ?_
  · refine sh_w (i := (.iload_n 0)) (len := 1) (pc2 := 1) (lv2 := [(0, .int x0), (1, .long x1), (3, .long x3)]) (st2 := [.int x0]) (h2 := (sh_rep m.T m.I m.J)) rfl rfl rfl ?_
    refine sh_w (i := (.iconst 1)) (len := 1) (pc2 := 2) (lv2 := [(0, .int x0), (1, .long x1), (3, .long x3)]) (st2 := [.int 1, .int x0]) (h2 := (sh_rep m.T m.I m.J)) rfl rfl rfl ?_
    exact kk
  rcases sh_ite e with ⟨c, e⟩ | ⟨c, e⟩
  · refine sh_Lk_lift (T := m.T) (I := m.I) (J := m.J) (s := m.s) (pc2 := 16) (lv2 := [(0, .int x0), (1, .long x1), (3, .long x3)]) (st2 := [.int (lg_cmp (x1 ^^^ (-9223372036854775808 : Int64)) (x3 ^^^ (-9223372036854775808 : Int64)))]) (I2 := m.I) (J2 := m.J) (fun hT v kk => ?_) ?_
    · refine sh_jc (c := .ne) (off := (25)) (pc2 := 5) false rfl (sh_Bnef c) rfl ?_
      refine sh_w (i := (.lload_n 1)) (len := 1) (pc2 := 6) (lv2 := [(0, .int x0), (1, .long x1), (3, .long x3)]) (st2 := [.long x1]) (h2 := (sh_rep m.T m.I m.J)) rfl rfl rfl ?_
      refine sh_w (i := (.ldc2_w 475)) (len := 3) (pc2 := 9) (lv2 := [(0, .int x0), (1, .long x1), (3, .long x3)]) (st2 := [.long (-9223372036854775808), .long x1]) (h2 := (sh_rep m.T m.I m.J)) rfl rfl rfl ?_
      refine sh_w (i := .lxor) (len := 1) (pc2 := 10) (lv2 := [(0, .int x0), (1, .long x1), (3, .long x3)]) (st2 := [.long (x1 ^^^ (-9223372036854775808 : Int64))]) (h2 := (sh_rep m.T m.I m.J)) rfl rfl rfl ?_
      refine sh_w (i := (.lload_n 3)) (len := 1) (pc2 := 11) (lv2 := [(0, .int x0), (1, .long x1), (3, .long x3)]) (st2 := [.long x3, .long (x1 ^^^ (-9223372036854775808 : Int64))]) (h2 := (sh_rep m.T m.I m.J)) rfl rfl rfl ?_
      refine sh_w (i := (.ldc2_w 475)) (len := 3) (pc2 := 14) (lv2 := [(0, .int x0), (1, .long x1), (3, .long x3)]) (st2 := [.long (-9223372036854775808), .long x3, .long (x1 ^^^ (-9223372036854775808 : Int64))]) (h2 := (sh_rep m.T m.I m.J)) rfl rfl rfl ?_
      refine sh_w (i := .lxor) (len := 1) (pc2 := 15) (lv2 := [(0, .int x0), (1, .long x1), (3, .long x3)]) (st2 := [.long (x3 ^^^ (-9223372036854775808 : Int64)), .long (x1 ^^^ (-9223372036854775808 : Int64))]) (h2 := (sh_rep m.T m.I m.J)) rfl rfl rfl ?_
      refine sh_w (i := .lcmp) (len := 1) (pc2 := 16) (lv2 := [(0, .int x0), (1, .long x1), (3, .long x3)]) (st2 := [.int (lg_cmp (x1 ^^^ (-9223372036854775808 : Int64)) (x3 ^^^ (-9223372036854775808 : Int64)))]) (h2 := (sh_rep m.T m.I m.J)) rfl rfl rfl ?_
      exact kk
    rcases sh_ite e with ⟨c, e⟩ | ⟨c, e⟩
    · refine sh_Lk_lift (T := m.T) (I := m.I) (J := m.J) (s := m.s) (pc2 := 38) (lv2 := [(0, .int x0), (1, .long x1), (3, .long x3)]) (st2 := [.int 1]) (I2 := m.I) (J2 := m.J) (fun hT v kk => ?_) ?_
      · refine sh_j0 (c := .ge) (off := (7)) (pc2 := 19) false rfl (sh_Cgef c) rfl ?_
        refine sh_w (i := (.iconst 1)) (len := 1) (pc2 := 20) (lv2 := [(0, .int x0), (1, .long x1), (3, .long x3)]) (st2 := [.int 1]) (h2 := (sh_rep m.T m.I m.J)) rfl rfl rfl ?_
        refine sh_w (i := (.goto 18)) (len := 3) (pc2 := 38) (lv2 := [(0, .int x0), (1, .long x1), (3, .long x3)]) (st2 := [.int 1]) (h2 := (sh_rep m.T m.I m.J)) rfl rfl rfl ?_
        exact kk
      obtain rfl := e
      obtain ⟨rfl, rfl⟩ := tg
      exact sh_Lk_ret (i := .ireturn) rfl rfl rfl (Nat.le_of_ble_eq_true rfl) (Nat.le_of_ble_eq_true rfl)
    · refine sh_Lk_lift (T := m.T) (I := m.I) (J := m.J) (s := m.s) (pc2 := 38) (lv2 := [(0, .int x0), (1, .long x1), (3, .long x3)]) (st2 := [.int 0]) (I2 := m.I) (J2 := m.J) (fun hT v kk => ?_) ?_
      · refine sh_j0 (c := .ge) (off := (7)) (pc2 := 23) true rfl (sh_Cget c) rfl ?_
        refine sh_w (i := (.iconst 0)) (len := 1) (pc2 := 24) (lv2 := [(0, .int x0), (1, .long x1), (3, .long x3)]) (st2 := [.int 0]) (h2 := (sh_rep m.T m.I m.J)) rfl rfl rfl ?_
        refine sh_w (i := (.goto 14)) (len := 3) (pc2 := 38) (lv2 := [(0, .int x0), (1, .long x1), (3, .long x3)]) (st2 := [.int 0]) (h2 := (sh_rep m.T m.I m.J)) rfl rfl rfl ?_
        exact kk
      obtain rfl := e
      obtain ⟨rfl, rfl⟩ := tg
      exact sh_Lk_ret (i := .ireturn) rfl rfl rfl (Nat.le_of_ble_eq_true rfl) (Nat.le_of_ble_eq_true rfl)
  · refine sh_Lk_lift (T := m.T) (I := m.I) (J := m.J) (s := m.s) (pc2 := 30) (lv2 := [(0, .int x0), (1, .long x1), (3, .long x3)]) (st2 := [.int (lg_cmp x1 x3)]) (I2 := m.I) (J2 := m.J) (fun hT v kk => ?_) ?_
    · refine sh_jc (c := .ne) (off := (25)) (pc2 := 27) true rfl (sh_Bnet c) rfl ?_
      refine sh_w (i := (.lload_n 1)) (len := 1) (pc2 := 28) (lv2 := [(0, .int x0), (1, .long x1), (3, .long x3)]) (st2 := [.long x1]) (h2 := (sh_rep m.T m.I m.J)) rfl rfl rfl ?_
      refine sh_w (i := (.lload_n 3)) (len := 1) (pc2 := 29) (lv2 := [(0, .int x0), (1, .long x1), (3, .long x3)]) (st2 := [.long x3, .long x1]) (h2 := (sh_rep m.T m.I m.J)) rfl rfl rfl ?_
      refine sh_w (i := .lcmp) (len := 1) (pc2 := 30) (lv2 := [(0, .int x0), (1, .long x1), (3, .long x3)]) (st2 := [.int (lg_cmp x1 x3)]) (h2 := (sh_rep m.T m.I m.J)) rfl rfl rfl ?_
      exact kk
    rcases sh_ite e with ⟨c, e⟩ | ⟨c, e⟩
    · refine sh_Lk_lift (T := m.T) (I := m.I) (J := m.J) (s := m.s) (pc2 := 38) (lv2 := [(0, .int x0), (1, .long x1), (3, .long x3)]) (st2 := [.int 1]) (I2 := m.I) (J2 := m.J) (fun hT v kk => ?_) ?_
      · refine sh_j0 (c := .ge) (off := (7)) (pc2 := 33) false rfl (sh_Cgef c) rfl ?_
        refine sh_w (i := (.iconst 1)) (len := 1) (pc2 := 34) (lv2 := [(0, .int x0), (1, .long x1), (3, .long x3)]) (st2 := [.int 1]) (h2 := (sh_rep m.T m.I m.J)) rfl rfl rfl ?_
        refine sh_w (i := (.goto 4)) (len := 3) (pc2 := 38) (lv2 := [(0, .int x0), (1, .long x1), (3, .long x3)]) (st2 := [.int 1]) (h2 := (sh_rep m.T m.I m.J)) rfl rfl rfl ?_
        exact kk
      obtain rfl := e
      obtain ⟨rfl, rfl⟩ := tg
      exact sh_Lk_ret (i := .ireturn) rfl rfl rfl (Nat.le_of_ble_eq_true rfl) (Nat.le_of_ble_eq_true rfl)
    · refine sh_Lk_lift (T := m.T) (I := m.I) (J := m.J) (s := m.s) (pc2 := 38) (lv2 := [(0, .int x0), (1, .long x1), (3, .long x3)]) (st2 := [.int 0]) (I2 := m.I) (J2 := m.J) (fun hT v kk => ?_) ?_
      · refine sh_j0 (c := .ge) (off := (7)) (pc2 := 37) true rfl (sh_Cget c) rfl ?_
        refine sh_w (i := (.iconst 0)) (len := 1) (pc2 := 38) (lv2 := [(0, .int x0), (1, .long x1), (3, .long x3)]) (st2 := [.int 0]) (h2 := (sh_rep m.T m.I m.J)) rfl rfl rfl ?_
        exact kk
      obtain rfl := e
      obtain ⟨rfl, rfl⟩ := tg
      exact sh_Lk_ret (i := .ireturn) rfl rfl rfl (Nat.le_of_ble_eq_true rfl) (Nat.le_of_ble_eq_true rfl)
theorem sl_308 {x0 : Int32} {x1 : Int64} {x3 : Int64} {m m2 : sh_X} {o : Outcome} {z : Int64} (e : sf_308 x0 x1 x3 m = some z) (tg : (sh_tJc m o m2) z) : sh_Lk 308 0 [(0, .int x0), (1, .long x1), (3, .long x3)] [] m o m2 9 224 := by
  unfold sf_308 at e
  refine sh_Lk_lift (T := m.T) (I := m.I) (J := m.J) (s := m.s) (pc2 := 3) (lv2 := [(0, .int x0), (1, .long x1), (3, .long x3)]) (st2 := [.int (lg_cmp x3 0)]) (I2 := m.I) (J2 := m.J) (fun hT v kk => ?_) ?_
  · refine sh_w (i := (.lload_n 3)) (len := 1) (pc2 := 1) (lv2 := [(0, .int x0), (1, .long x1), (3, .long x3)]) (st2 := [.long x3]) (h2 := (sh_rep m.T m.I m.J)) rfl rfl rfl ?_
    refine sh_w (i := (.lconst 0)) (len := 1) (pc2 := 2) (lv2 := [(0, .int x0), (1, .long x1), (3, .long x3)]) (st2 := [.long 0, .long x3]) (h2 := (sh_rep m.T m.I m.J)) rfl rfl rfl ?_
    refine sh_w (i := .lcmp) (len := 1) (pc2 := 3) (lv2 := [(0, .int x0), (1, .long x1), (3, .long x3)]) (st2 := [.int (lg_cmp x3 0)]) (h2 := (sh_rep m.T m.I m.J)) rfl rfl rfl ?_
    exact kk
  rcases sh_ite e with ⟨c, e⟩ | ⟨c, e⟩
  · refine sh_Lk_lift (T := m.T) (I := m.I) (J := m.J) (s := m.s) (pc2 := 9) (lv2 := [(0, .int x0), (1, .long x1), (3, .long x3)]) (st2 := [.long (-1)]) (I2 := m.I) (J2 := m.J) (fun hT v kk => ?_) ?_
    · refine sh_j0 (c := .ne) (off := (7)) (pc2 := 6) false rfl (sh_Cnef c) rfl ?_
      refine sh_w (i := (.ldc2_w 466)) (len := 3) (pc2 := 9) (lv2 := [(0, .int x0), (1, .long x1), (3, .long x3)]) (st2 := [.long (-1)]) (h2 := (sh_rep m.T m.I m.J)) rfl rfl rfl ?_
      exact kk
    obtain rfl := Option.some.inj e
    obtain ⟨rfl, rfl⟩ := tg
    exact sh_Lk_ret (i := .lreturn) rfl rfl rfl (Nat.le_of_ble_eq_true rfl) (Nat.le_of_ble_eq_true rfl)
  · refine sh_Lk_lift (T := m.T) (I := m.I) (J := m.J) (s := m.s) (pc2 := 12) (lv2 := [(0, .int x0), (1, .long x1), (3, .long x3)]) (st2 := [.int 2, .int x0]) (I2 := m.I) (J2 := m.J) (fun hT v kk => ?_) ?_
    · refine sh_j0 (c := .ne) (off := (7)) (pc2 := 10) true rfl (sh_Cnet c) rfl ?_
      refine sh_w (i := (.iload_n 0)) (len := 1) (pc2 := 11) (lv2 := [(0, .int x0), (1, .long x1), (3, .long x3)]) (st2 := [.int x0]) (h2 := (sh_rep m.T m.I m.J)) rfl rfl rfl ?_
      refine sh_w (i := (.iconst 2)) (len := 1) (pc2 := 12) (lv2 := [(0, .int x0), (1, .long x1), (3, .long x3)]) (st2 := [.int 2, .int x0]) (h2 := (sh_rep m.T m.I m.J)) rfl rfl rfl ?_
      exact kk
    rcases sh_ite e with ⟨c, e⟩ | ⟨c, e⟩
    · refine sh_Lk_lift (T := m.T) (I := m.I) (J := m.J) (s := m.s) (pc2 := 20) (lv2 := [(0, .int x0), (1, .long x1), (3, .long x3)]) (st2 := [.int (lg_cmp x3 (-1))]) (I2 := m.I) (J2 := m.J) (fun hT v kk => ?_) ?_
      · refine sh_jc (c := .ne) (off := (20)) (pc2 := 15) false rfl (sh_Bnef c) rfl ?_
        refine sh_w (i := (.lload_n 3)) (len := 1) (pc2 := 16) (lv2 := [(0, .int x0), (1, .long x1), (3, .long x3)]) (st2 := [.long x3]) (h2 := (sh_rep m.T m.I m.J)) rfl rfl rfl ?_
        refine sh_w (i := (.ldc2_w 466)) (len := 3) (pc2 := 19) (lv2 := [(0, .int x0), (1, .long x1), (3, .long x3)]) (st2 := [.long (-1), .long x3]) (h2 := (sh_rep m.T m.I m.J)) rfl rfl rfl ?_
        refine sh_w (i := .lcmp) (len := 1) (pc2 := 20) (lv2 := [(0, .int x0), (1, .long x1), (3, .long x3)]) (st2 := [.int (lg_cmp x3 (-1))]) (h2 := (sh_rep m.T m.I m.J)) rfl rfl rfl ?_
        exact kk
      rcases sh_ite e with ⟨c, e⟩ | ⟨c, e⟩
      · refine sh_Lk_lift (T := m.T) (I := m.I) (J := m.J) (s := m.s) (pc2 := 31) (lv2 := [(0, .int x0), (1, .long x1), (3, .long x3)]) (st2 := [.long (-x1)]) (I2 := m.I) (J2 := m.J) (fun hT v kk => ?_) ?_
        · refine sh_j0 (c := .ne) (off := (8)) (pc2 := 23) false rfl (sh_Cnef c) rfl ?_
          refine sh_w (i := (.lload_n 1)) (len := 1) (pc2 := 24) (lv2 := [(0, .int x0), (1, .long x1), (3, .long x3)]) (st2 := [.long x1]) (h2 := (sh_rep m.T m.I m.J)) rfl rfl rfl ?_
          refine sh_w (i := .lneg) (len := 1) (pc2 := 25) (lv2 := [(0, .int x0), (1, .long x1), (3, .long x3)]) (st2 := [.long (-x1)]) (h2 := (sh_rep m.T m.I m.J)) rfl rfl rfl ?_
          refine sh_w (i := (.goto 6)) (len := 3) (pc2 := 31) (lv2 := [(0, .int x0), (1, .long x1), (3, .long x3)]) (st2 := [.long (-x1)]) (h2 := (sh_rep m.T m.I m.J)) rfl rfl rfl ?_
          exact kk
        obtain rfl := Option.some.inj e
        obtain ⟨rfl, rfl⟩ := tg
        exact sh_Lk_ret (i := .lreturn) rfl rfl rfl (Nat.le_of_ble_eq_true rfl) (Nat.le_of_ble_eq_true rfl)
      · refine sh_Lk_lift (T := m.T) (I := m.I) (J := m.J) (s := m.s) (pc2 := 30) (lv2 := [(0, .int x0), (1, .long x1), (3, .long x3)]) (st2 := [.long x3, .long x1]) (I2 := m.I) (J2 := m.J) (fun hT v kk => ?_) ?_
        · refine sh_j0 (c := .ne) (off := (8)) (pc2 := 28) true rfl (sh_Cnet c) rfl ?_
          refine sh_w (i := (.lload_n 1)) (len := 1) (pc2 := 29) (lv2 := [(0, .int x0), (1, .long x1), (3, .long x3)]) (st2 := [.long x1]) (h2 := (sh_rep m.T m.I m.J)) rfl rfl rfl ?_
          refine sh_w (i := (.lload_n 3)) (len := 1) (pc2 := 30) (lv2 := [(0, .int x0), (1, .long x1), (3, .long x3)]) (st2 := [.long x3, .long x1]) (h2 := (sh_rep m.T m.I m.J)) rfl rfl rfl ?_
          exact kk
        obtain ⟨c, e⟩ := sh_gd e
        refine sh_Lk_lift (T := m.T) (I := m.I) (J := m.J) (s := m.s) (pc2 := 31) (lv2 := [(0, .int x0), (1, .long x1), (3, .long x3)]) (st2 := [.long (x1 / x3)]) (I2 := m.I) (J2 := m.J) (fun hT v kk => ?_) ?_
        · refine sh_w (i := .ldiv) (len := 1) (pc2 := 31) (lv2 := [(0, .int x0), (1, .long x1), (3, .long x3)]) (st2 := [.long (x1 / x3)]) (h2 := (sh_rep m.T m.I m.J)) rfl rfl (sh_dv_ldiv c) ?_
          exact kk
        obtain rfl := Option.some.inj e
        obtain ⟨rfl, rfl⟩ := tg
        exact sh_Lk_ret (i := .lreturn) rfl rfl rfl (Nat.le_of_ble_eq_true rfl) (Nat.le_of_ble_eq_true rfl)
    · refine sh_Lk_lift (T := m.T) (I := m.I) (J := m.J) (s := m.s) (pc2 := 35) (lv2 := [(0, .int x0), (1, .long x1), (3, .long x3)]) (st2 := [.int (lg_cmp x3 0)]) (I2 := m.I) (J2 := m.J) (fun hT v kk => ?_) ?_
      · refine sh_jc (c := .ne) (off := (20)) (pc2 := 32) true rfl (sh_Bnet c) rfl ?_
        refine sh_w (i := (.lload_n 3)) (len := 1) (pc2 := 33) (lv2 := [(0, .int x0), (1, .long x1), (3, .long x3)]) (st2 := [.long x3]) (h2 := (sh_rep m.T m.I m.J)) rfl rfl rfl ?_
        refine sh_w (i := (.lconst 0)) (len := 1) (pc2 := 34) (lv2 := [(0, .int x0), (1, .long x1), (3, .long x3)]) (st2 := [.long 0, .long x3]) (h2 := (sh_rep m.T m.I m.J)) rfl rfl rfl ?_
        refine sh_w (i := .lcmp) (len := 1) (pc2 := 35) (lv2 := [(0, .int x0), (1, .long x1), (3, .long x3)]) (st2 := [.int (lg_cmp x3 0)]) (h2 := (sh_rep m.T m.I m.J)) rfl rfl rfl ?_
        exact kk
      rcases sh_ite e with ⟨c, e⟩ | ⟨c, e⟩
      · refine sh_Lk_lift (T := m.T) (I := m.I) (J := m.J) (s := m.s) (pc2 := 41) (lv2 := [(0, .int x0), (1, .long x1), (3, .long x3)]) (st2 := [.long x3, .long x1, .int 1]) (I2 := m.I) (J2 := m.J) (fun hT v kk => ?_) ?_
        · refine sh_j0 (c := .ge) (off := (18)) (pc2 := 38) false rfl (sh_Cgef c) rfl ?_
          refine sh_w (i := (.iconst 1)) (len := 1) (pc2 := 39) (lv2 := [(0, .int x0), (1, .long x1), (3, .long x3)]) (st2 := [.int 1]) (h2 := (sh_rep m.T m.I m.J)) rfl rfl rfl ?_
          refine sh_w (i := (.lload_n 1)) (len := 1) (pc2 := 40) (lv2 := [(0, .int x0), (1, .long x1), (3, .long x3)]) (st2 := [.long x1, .int 1]) (h2 := (sh_rep m.T m.I m.J)) rfl rfl rfl ?_
          refine sh_w (i := (.lload_n 3)) (len := 1) (pc2 := 41) (lv2 := [(0, .int x0), (1, .long x1), (3, .long x3)]) (st2 := [.long x3, .long x1, .int 1]) (h2 := (sh_rep m.T m.I m.J)) rfl rfl rfl ?_
          exact kk
        refine sh_Lk_cS (r := (some (.int (sh_b2 (sf_307 1 x1 x3))))) (st2 := [.int (sh_b2 (sf_307 1 x1 x3))]) (pc2 := 44) (k2 := 307) (as := [.int 1, .long x1, .long x3]) (rest := []) rfl rfl (by decide) (Nat.le_of_ble_eq_true rfl) rfl rfl ⟨Nat.le_of_ble_eq_true rfl, Nat.le_of_ble_eq_true rfl⟩ (sl_307 (m := m) rfl ⟨rfl, rfl⟩) rfl rfl (Nat.le_of_ble_eq_true rfl) (Nat.le_of_ble_eq_true rfl) ?_
        rcases sh_ite e with ⟨c, e⟩ | ⟨c, e⟩
        · refine sh_Lk_lift (T := m.T) (I := m.I) (J := m.J) (s := m.s) (pc2 := 52) (lv2 := [(0, .int x0), (1, .long x1), (3, .long x3)]) (st2 := [.long 0]) (I2 := m.I) (J2 := m.J) (fun hT v kk => ?_) ?_
          · refine sh_j0 (c := .eq) (off := (7)) (pc2 := 47) false rfl (sh_Zeqf c) rfl ?_
            refine sh_w (i := (.lconst 0)) (len := 1) (pc2 := 48) (lv2 := [(0, .int x0), (1, .long x1), (3, .long x3)]) (st2 := [.long 0]) (h2 := (sh_rep m.T m.I m.J)) rfl rfl rfl ?_
            refine sh_w (i := (.goto 4)) (len := 3) (pc2 := 52) (lv2 := [(0, .int x0), (1, .long x1), (3, .long x3)]) (st2 := [.long 0]) (h2 := (sh_rep m.T m.I m.J)) rfl rfl rfl ?_
            exact kk
          obtain rfl := Option.some.inj e
          obtain ⟨rfl, rfl⟩ := tg
          exact sh_Lk_ret (i := .lreturn) rfl rfl rfl (Nat.le_of_ble_eq_true rfl) (Nat.le_of_ble_eq_true rfl)
        · refine sh_Lk_lift (T := m.T) (I := m.I) (J := m.J) (s := m.s) (pc2 := 52) (lv2 := [(0, .int x0), (1, .long x1), (3, .long x3)]) (st2 := [.long 1]) (I2 := m.I) (J2 := m.J) (fun hT v kk => ?_) ?_
          · refine sh_j0 (c := .eq) (off := (7)) (pc2 := 51) true rfl (sh_Zeqt c) rfl ?_
            refine sh_w (i := (.lconst 1)) (len := 1) (pc2 := 52) (lv2 := [(0, .int x0), (1, .long x1), (3, .long x3)]) (st2 := [.long 1]) (h2 := (sh_rep m.T m.I m.J)) rfl rfl rfl ?_
            exact kk
          obtain rfl := Option.some.inj e
          obtain ⟨rfl, rfl⟩ := tg
          exact sh_Lk_ret (i := .lreturn) rfl rfl rfl (Nat.le_of_ble_eq_true rfl) (Nat.le_of_ble_eq_true rfl)
      · refine sh_Lk_lift (T := m.T) (I := m.I) (J := m.J) (s := m.s) (pc2 := 56) (lv2 := [(0, .int x0), (1, .long x1), (3, .long x3)]) (st2 := [.int (lg_cmp x1 0)]) (I2 := m.I) (J2 := m.J) (fun hT v kk => ?_) ?_
        · refine sh_j0 (c := .ge) (off := (18)) (pc2 := 53) true rfl (sh_Cget c) rfl ?_
          refine sh_w (i := (.lload_n 1)) (len := 1) (pc2 := 54) (lv2 := [(0, .int x0), (1, .long x1), (3, .long x3)]) (st2 := [.long x1]) (h2 := (sh_rep m.T m.I m.J)) rfl rfl rfl ?_
          refine sh_w (i := (.lconst 0)) (len := 1) (pc2 := 55) (lv2 := [(0, .int x0), (1, .long x1), (3, .long x3)]) (st2 := [.long 0, .long x1]) (h2 := (sh_rep m.T m.I m.J)) rfl rfl rfl ?_
          refine sh_w (i := .lcmp) (len := 1) (pc2 := 56) (lv2 := [(0, .int x0), (1, .long x1), (3, .long x3)]) (st2 := [.int (lg_cmp x1 0)]) (h2 := (sh_rep m.T m.I m.J)) rfl rfl rfl ?_
          exact kk
        rcases sh_ite e with ⟨c, e⟩ | ⟨c, e⟩
        · refine sh_Lk_lift (T := m.T) (I := m.I) (J := m.J) (s := m.s) (pc2 := 67) (lv2 := [(0, .int x0), (1, .long x1), (3, .long x3)]) (st2 := [.long x3, .long ((x1.toUInt64 >>> ((Int32.toInt64 1).toUInt64 &&& Int64.toUInt64 63)).toInt64)]) (I2 := m.I) (J2 := m.J) (fun hT v kk => ?_) ?_
          · refine sh_j0 (c := .lt) (off := (7)) (pc2 := 63) true rfl (sh_Cltt c) rfl ?_
            refine sh_w (i := (.lload_n 1)) (len := 1) (pc2 := 64) (lv2 := [(0, .int x0), (1, .long x1), (3, .long x3)]) (st2 := [.long x1]) (h2 := (sh_rep m.T m.I m.J)) rfl rfl rfl ?_
            refine sh_w (i := (.iconst 1)) (len := 1) (pc2 := 65) (lv2 := [(0, .int x0), (1, .long x1), (3, .long x3)]) (st2 := [.int 1, .long x1]) (h2 := (sh_rep m.T m.I m.J)) rfl rfl rfl ?_
            refine sh_w (i := .lushr) (len := 1) (pc2 := 66) (lv2 := [(0, .int x0), (1, .long x1), (3, .long x3)]) (st2 := [.long ((x1.toUInt64 >>> ((Int32.toInt64 1).toUInt64 &&& Int64.toUInt64 63)).toInt64)]) (h2 := (sh_rep m.T m.I m.J)) rfl rfl rfl ?_
            refine sh_w (i := (.lload_n 3)) (len := 1) (pc2 := 67) (lv2 := [(0, .int x0), (1, .long x1), (3, .long x3)]) (st2 := [.long x3, .long ((x1.toUInt64 >>> ((Int32.toInt64 1).toUInt64 &&& Int64.toUInt64 63)).toInt64)]) (h2 := (sh_rep m.T m.I m.J)) rfl rfl rfl ?_
            exact kk
          obtain ⟨c, e⟩ := sh_gd e
          refine sh_Lk_lift (T := m.T) (I := m.I) (J := m.J) (s := m.s) (pc2 := 80) (lv2 := [(5, .long ((((x1.toUInt64 >>> ((Int32.toInt64 1).toUInt64 &&& Int64.toUInt64 63)).toInt64) / x3) <<< (Int32.toInt64 1 &&& 63))), (0, .int x0), (1, .long x1), (3, .long x3)]) (st2 := [.long x3, .long (x1 - (((((x1.toUInt64 >>> ((Int32.toInt64 1).toUInt64 &&& Int64.toUInt64 63)).toInt64) / x3) <<< (Int32.toInt64 1 &&& 63)) * x3)), .int 1]) (I2 := m.I) (J2 := m.J) (fun hT v kk => ?_) ?_
          · refine sh_w (i := .ldiv) (len := 1) (pc2 := 68) (lv2 := [(0, .int x0), (1, .long x1), (3, .long x3)]) (st2 := [.long (((x1.toUInt64 >>> ((Int32.toInt64 1).toUInt64 &&& Int64.toUInt64 63)).toInt64) / x3)]) (h2 := (sh_rep m.T m.I m.J)) rfl rfl (sh_dv_ldiv c) ?_
            refine sh_w (i := (.iconst 1)) (len := 1) (pc2 := 69) (lv2 := [(0, .int x0), (1, .long x1), (3, .long x3)]) (st2 := [.int 1, .long (((x1.toUInt64 >>> ((Int32.toInt64 1).toUInt64 &&& Int64.toUInt64 63)).toInt64) / x3)]) (h2 := (sh_rep m.T m.I m.J)) rfl rfl rfl ?_
            refine sh_w (i := .lshl) (len := 1) (pc2 := 70) (lv2 := [(0, .int x0), (1, .long x1), (3, .long x3)]) (st2 := [.long ((((x1.toUInt64 >>> ((Int32.toInt64 1).toUInt64 &&& Int64.toUInt64 63)).toInt64) / x3) <<< (Int32.toInt64 1 &&& 63))]) (h2 := (sh_rep m.T m.I m.J)) rfl rfl rfl ?_
            refine sh_w (i := (.lstore 5)) (len := 2) (pc2 := 72) (lv2 := [(5, .long ((((x1.toUInt64 >>> ((Int32.toInt64 1).toUInt64 &&& Int64.toUInt64 63)).toInt64) / x3) <<< (Int32.toInt64 1 &&& 63))), (0, .int x0), (1, .long x1), (3, .long x3)]) (st2 := []) (h2 := (sh_rep m.T m.I m.J)) rfl rfl rfl ?_
            refine sh_w (i := (.iconst 1)) (len := 1) (pc2 := 73) (lv2 := [(5, .long ((((x1.toUInt64 >>> ((Int32.toInt64 1).toUInt64 &&& Int64.toUInt64 63)).toInt64) / x3) <<< (Int32.toInt64 1 &&& 63))), (0, .int x0), (1, .long x1), (3, .long x3)]) (st2 := [.int 1]) (h2 := (sh_rep m.T m.I m.J)) rfl rfl rfl ?_
            refine sh_w (i := (.lload_n 1)) (len := 1) (pc2 := 74) (lv2 := [(5, .long ((((x1.toUInt64 >>> ((Int32.toInt64 1).toUInt64 &&& Int64.toUInt64 63)).toInt64) / x3) <<< (Int32.toInt64 1 &&& 63))), (0, .int x0), (1, .long x1), (3, .long x3)]) (st2 := [.long x1, .int 1]) (h2 := (sh_rep m.T m.I m.J)) rfl rfl rfl ?_
            refine sh_w (i := (.lload 5)) (len := 2) (pc2 := 76) (lv2 := [(5, .long ((((x1.toUInt64 >>> ((Int32.toInt64 1).toUInt64 &&& Int64.toUInt64 63)).toInt64) / x3) <<< (Int32.toInt64 1 &&& 63))), (0, .int x0), (1, .long x1), (3, .long x3)]) (st2 := [.long ((((x1.toUInt64 >>> ((Int32.toInt64 1).toUInt64 &&& Int64.toUInt64 63)).toInt64) / x3) <<< (Int32.toInt64 1 &&& 63)), .long x1, .int 1]) (h2 := (sh_rep m.T m.I m.J)) rfl rfl rfl ?_
            refine sh_w (i := (.lload_n 3)) (len := 1) (pc2 := 77) (lv2 := [(5, .long ((((x1.toUInt64 >>> ((Int32.toInt64 1).toUInt64 &&& Int64.toUInt64 63)).toInt64) / x3) <<< (Int32.toInt64 1 &&& 63))), (0, .int x0), (1, .long x1), (3, .long x3)]) (st2 := [.long x3, .long ((((x1.toUInt64 >>> ((Int32.toInt64 1).toUInt64 &&& Int64.toUInt64 63)).toInt64) / x3) <<< (Int32.toInt64 1 &&& 63)), .long x1, .int 1]) (h2 := (sh_rep m.T m.I m.J)) rfl rfl rfl ?_
            refine sh_w (i := .lmul) (len := 1) (pc2 := 78) (lv2 := [(5, .long ((((x1.toUInt64 >>> ((Int32.toInt64 1).toUInt64 &&& Int64.toUInt64 63)).toInt64) / x3) <<< (Int32.toInt64 1 &&& 63))), (0, .int x0), (1, .long x1), (3, .long x3)]) (st2 := [.long (((((x1.toUInt64 >>> ((Int32.toInt64 1).toUInt64 &&& Int64.toUInt64 63)).toInt64) / x3) <<< (Int32.toInt64 1 &&& 63)) * x3), .long x1, .int 1]) (h2 := (sh_rep m.T m.I m.J)) rfl rfl rfl ?_
            refine sh_w (i := .lsub) (len := 1) (pc2 := 79) (lv2 := [(5, .long ((((x1.toUInt64 >>> ((Int32.toInt64 1).toUInt64 &&& Int64.toUInt64 63)).toInt64) / x3) <<< (Int32.toInt64 1 &&& 63))), (0, .int x0), (1, .long x1), (3, .long x3)]) (st2 := [.long (x1 - (((((x1.toUInt64 >>> ((Int32.toInt64 1).toUInt64 &&& Int64.toUInt64 63)).toInt64) / x3) <<< (Int32.toInt64 1 &&& 63)) * x3)), .int 1]) (h2 := (sh_rep m.T m.I m.J)) rfl rfl rfl ?_
            refine sh_w (i := (.lload_n 3)) (len := 1) (pc2 := 80) (lv2 := [(5, .long ((((x1.toUInt64 >>> ((Int32.toInt64 1).toUInt64 &&& Int64.toUInt64 63)).toInt64) / x3) <<< (Int32.toInt64 1 &&& 63))), (0, .int x0), (1, .long x1), (3, .long x3)]) (st2 := [.long x3, .long (x1 - (((((x1.toUInt64 >>> ((Int32.toInt64 1).toUInt64 &&& Int64.toUInt64 63)).toInt64) / x3) <<< (Int32.toInt64 1 &&& 63)) * x3)), .int 1]) (h2 := (sh_rep m.T m.I m.J)) rfl rfl rfl ?_
            exact kk
          refine sh_Lk_cS (r := (some (.int (sh_b2 (sf_307 1 (x1 - (((((x1.toUInt64 >>> ((Int32.toInt64 1).toUInt64 &&& Int64.toUInt64 63)).toInt64) / x3) <<< (Int32.toInt64 1 &&& 63)) * x3)) x3))))) (st2 := [.int (sh_b2 (sf_307 1 (x1 - (((((x1.toUInt64 >>> ((Int32.toInt64 1).toUInt64 &&& Int64.toUInt64 63)).toInt64) / x3) <<< (Int32.toInt64 1 &&& 63)) * x3)) x3))]) (pc2 := 83) (k2 := 307) (as := [.int 1, .long (x1 - (((((x1.toUInt64 >>> ((Int32.toInt64 1).toUInt64 &&& Int64.toUInt64 63)).toInt64) / x3) <<< (Int32.toInt64 1 &&& 63)) * x3)), .long x3]) (rest := []) rfl rfl (by decide) (Nat.le_of_ble_eq_true rfl) rfl rfl ⟨Nat.le_of_ble_eq_true rfl, Nat.le_of_ble_eq_true rfl⟩ (sl_307 (m := m) rfl ⟨rfl, rfl⟩) rfl rfl (Nat.le_of_ble_eq_true rfl) (Nat.le_of_ble_eq_true rfl) ?_
          rcases sh_ite e with ⟨c, e⟩ | ⟨c, e⟩
          · refine sh_Lk_lift (T := m.T) (I := m.I) (J := m.J) (s := m.s) (pc2 := 95) (lv2 := [(5, .long ((((x1.toUInt64 >>> ((Int32.toInt64 1).toUInt64 &&& Int64.toUInt64 63)).toInt64) / x3) <<< (Int32.toInt64 1 &&& 63))), (0, .int x0), (1, .long x1), (3, .long x3)]) (st2 := [.long ((((x1.toUInt64 >>> ((Int32.toInt64 1).toUInt64 &&& Int64.toUInt64 63)).toInt64) / x3) <<< (Int32.toInt64 1 &&& 63))]) (I2 := m.I) (J2 := m.J) (fun hT v kk => ?_) ?_
            · refine sh_j0 (c := .eq) (off := (8)) (pc2 := 86) false rfl (sh_Zeqf c) rfl ?_
              refine sh_w (i := (.lload 5)) (len := 2) (pc2 := 88) (lv2 := [(5, .long ((((x1.toUInt64 >>> ((Int32.toInt64 1).toUInt64 &&& Int64.toUInt64 63)).toInt64) / x3) <<< (Int32.toInt64 1 &&& 63))), (0, .int x0), (1, .long x1), (3, .long x3)]) (st2 := [.long ((((x1.toUInt64 >>> ((Int32.toInt64 1).toUInt64 &&& Int64.toUInt64 63)).toInt64) / x3) <<< (Int32.toInt64 1 &&& 63))]) (h2 := (sh_rep m.T m.I m.J)) rfl rfl rfl ?_
              refine sh_w (i := (.goto 7)) (len := 3) (pc2 := 95) (lv2 := [(5, .long ((((x1.toUInt64 >>> ((Int32.toInt64 1).toUInt64 &&& Int64.toUInt64 63)).toInt64) / x3) <<< (Int32.toInt64 1 &&& 63))), (0, .int x0), (1, .long x1), (3, .long x3)]) (st2 := [.long ((((x1.toUInt64 >>> ((Int32.toInt64 1).toUInt64 &&& Int64.toUInt64 63)).toInt64) / x3) <<< (Int32.toInt64 1 &&& 63))]) (h2 := (sh_rep m.T m.I m.J)) rfl rfl rfl ?_
              exact kk
            obtain rfl := Option.some.inj e
            obtain ⟨rfl, rfl⟩ := tg
            exact sh_Lk_ret (i := .lreturn) rfl rfl rfl (Nat.le_of_ble_eq_true rfl) (Nat.le_of_ble_eq_true rfl)
          · refine sh_Lk_lift (T := m.T) (I := m.I) (J := m.J) (s := m.s) (pc2 := 95) (lv2 := [(5, .long ((((x1.toUInt64 >>> ((Int32.toInt64 1).toUInt64 &&& Int64.toUInt64 63)).toInt64) / x3) <<< (Int32.toInt64 1 &&& 63))), (0, .int x0), (1, .long x1), (3, .long x3)]) (st2 := [.long (((((x1.toUInt64 >>> ((Int32.toInt64 1).toUInt64 &&& Int64.toUInt64 63)).toInt64) / x3) <<< (Int32.toInt64 1 &&& 63)) + (1 : Int64))]) (I2 := m.I) (J2 := m.J) (fun hT v kk => ?_) ?_
            · refine sh_j0 (c := .eq) (off := (8)) (pc2 := 91) true rfl (sh_Zeqt c) rfl ?_
              refine sh_w (i := (.lload 5)) (len := 2) (pc2 := 93) (lv2 := [(5, .long ((((x1.toUInt64 >>> ((Int32.toInt64 1).toUInt64 &&& Int64.toUInt64 63)).toInt64) / x3) <<< (Int32.toInt64 1 &&& 63))), (0, .int x0), (1, .long x1), (3, .long x3)]) (st2 := [.long ((((x1.toUInt64 >>> ((Int32.toInt64 1).toUInt64 &&& Int64.toUInt64 63)).toInt64) / x3) <<< (Int32.toInt64 1 &&& 63))]) (h2 := (sh_rep m.T m.I m.J)) rfl rfl rfl ?_
              refine sh_w (i := (.lconst 1)) (len := 1) (pc2 := 94) (lv2 := [(5, .long ((((x1.toUInt64 >>> ((Int32.toInt64 1).toUInt64 &&& Int64.toUInt64 63)).toInt64) / x3) <<< (Int32.toInt64 1 &&& 63))), (0, .int x0), (1, .long x1), (3, .long x3)]) (st2 := [.long 1, .long ((((x1.toUInt64 >>> ((Int32.toInt64 1).toUInt64 &&& Int64.toUInt64 63)).toInt64) / x3) <<< (Int32.toInt64 1 &&& 63))]) (h2 := (sh_rep m.T m.I m.J)) rfl rfl rfl ?_
              refine sh_w (i := .ladd) (len := 1) (pc2 := 95) (lv2 := [(5, .long ((((x1.toUInt64 >>> ((Int32.toInt64 1).toUInt64 &&& Int64.toUInt64 63)).toInt64) / x3) <<< (Int32.toInt64 1 &&& 63))), (0, .int x0), (1, .long x1), (3, .long x3)]) (st2 := [.long (((((x1.toUInt64 >>> ((Int32.toInt64 1).toUInt64 &&& Int64.toUInt64 63)).toInt64) / x3) <<< (Int32.toInt64 1 &&& 63)) + (1 : Int64))]) (h2 := (sh_rep m.T m.I m.J)) rfl rfl rfl ?_
              exact kk
            obtain rfl := Option.some.inj e
            obtain ⟨rfl, rfl⟩ := tg
            exact sh_Lk_ret (i := .lreturn) rfl rfl rfl (Nat.le_of_ble_eq_true rfl) (Nat.le_of_ble_eq_true rfl)
        · refine sh_Lk_lift (T := m.T) (I := m.I) (J := m.J) (s := m.s) (pc2 := 61) (lv2 := [(0, .int x0), (1, .long x1), (3, .long x3)]) (st2 := [.long x3, .long x1]) (I2 := m.I) (J2 := m.J) (fun hT v kk => ?_) ?_
          · refine sh_j0 (c := .lt) (off := (7)) (pc2 := 59) false rfl (sh_Cltf c) rfl ?_
            refine sh_w (i := (.lload_n 1)) (len := 1) (pc2 := 60) (lv2 := [(0, .int x0), (1, .long x1), (3, .long x3)]) (st2 := [.long x1]) (h2 := (sh_rep m.T m.I m.J)) rfl rfl rfl ?_
            refine sh_w (i := (.lload_n 3)) (len := 1) (pc2 := 61) (lv2 := [(0, .int x0), (1, .long x1), (3, .long x3)]) (st2 := [.long x3, .long x1]) (h2 := (sh_rep m.T m.I m.J)) rfl rfl rfl ?_
            exact kk
          obtain ⟨c, e⟩ := sh_gd e
          refine sh_Lk_lift (T := m.T) (I := m.I) (J := m.J) (s := m.s) (pc2 := 62) (lv2 := [(0, .int x0), (1, .long x1), (3, .long x3)]) (st2 := [.long (x1 / x3)]) (I2 := m.I) (J2 := m.J) (fun hT v kk => ?_) ?_
          · refine sh_w (i := .ldiv) (len := 1) (pc2 := 62) (lv2 := [(0, .int x0), (1, .long x1), (3, .long x3)]) (st2 := [.long (x1 / x3)]) (h2 := (sh_rep m.T m.I m.J)) rfl rfl (sh_dv_ldiv c) ?_
            exact kk
          obtain rfl := Option.some.inj e
          obtain ⟨rfl, rfl⟩ := tg
          exact sh_Lk_ret (i := .lreturn) rfl rfl rfl (Nat.le_of_ble_eq_true rfl) (Nat.le_of_ble_eq_true rfl)
theorem sl_305_150 {x3 : Int32} {x4 : Int64} {x6 : Int64} {y1 : Int32} {m m2 : sh_X} {o : Outcome} {z : (Unit × sh_X)} (e : sf_305_150 x3 x4 x6 y1 m = some z) (tg : (sh_tV o m2) z) : sh_Lk 305 150 [(3, .int x3), (4, .long x4), (6, .long x6)] [.int y1, .ref 67] m o m2 10 250 := by
  unfold sf_305_150 at e
  refine sh_Lk_lift (T := m.T) (I := m.I) (J := m.J) (s := m.s) (pc2 := 156) (lv2 := [(3, .int x3), (4, .long x4), (6, .long x6)]) (st2 := [.long (x4 ||| x6), .int x3, .int y1, .ref 67]) (I2 := m.I) (J2 := m.J) (fun hT v kk => ?_) ?_
  · refine sh_w (i := (.iload_n 3)) (len := 1) (pc2 := 151) (lv2 := [(3, .int x3), (4, .long x4), (6, .long x6)]) (st2 := [.int x3, .int y1, .ref 67]) (h2 := (sh_rep m.T m.I m.J)) rfl rfl rfl ?_
    refine sh_w (i := (.lload 4)) (len := 2) (pc2 := 153) (lv2 := [(3, .int x3), (4, .long x4), (6, .long x6)]) (st2 := [.long x4, .int x3, .int y1, .ref 67]) (h2 := (sh_rep m.T m.I m.J)) rfl rfl rfl ?_
    refine sh_w (i := (.lload 6)) (len := 2) (pc2 := 155) (lv2 := [(3, .int x3), (4, .long x4), (6, .long x6)]) (st2 := [.long x6, .long x4, .int x3, .int y1, .ref 67]) (h2 := (sh_rep m.T m.I m.J)) rfl rfl rfl ?_
    refine sh_w (i := .lor) (len := 1) (pc2 := 156) (lv2 := [(3, .int x3), (4, .long x4), (6, .long x6)]) (st2 := [.long (x4 ||| x6), .int x3, .int y1, .ref 67]) (h2 := (sh_rep m.T m.I m.J)) rfl rfl rfl ?_
    exact kk
  refine sh_Lk_cS (r := (some (.long (sf_288 y1 x3 (x4 ||| x6))))) (st2 := [.long (sf_288 y1 x3 (x4 ||| x6)), .ref 67]) (pc2 := 159) (k2 := 288) (as := [.int y1, .int x3, .long (x4 ||| x6)]) (rest := [.ref 67]) rfl rfl (by decide) (Nat.le_of_ble_eq_true rfl) rfl rfl ⟨Nat.le_of_ble_eq_true rfl, Nat.le_of_ble_eq_true rfl⟩ (sl_288 (m := m) rfl ⟨rfl, rfl⟩) rfl rfl (Nat.le_of_ble_eq_true rfl) (Nat.le_of_ble_eq_true rfl) ?_
  refine sh_Lk_lift (T := m.T) (I := m.I) (J := m.J) (s := m.s) (pc2 := 437) (lv2 := [(3, .int x3), (4, .long x4), (6, .long x6)]) (st2 := []) (I2 := m.I) (J2 := sh_u2 m.J 66 46 (sf_288 y1 x3 (x4 ||| x6))) (fun hT v kk => ?_) ?_
  · refine sh_pJ1 (x := sf_288 y1 x3 (x4 ||| x6)) (pc2 := 162) rfl rfl (sh_s66 hT.st) rfl rfl rfl rfl ?_
    refine sh_w (i := (.goto 275)) (len := 3) (pc2 := 437) (lv2 := [(3, .int x3), (4, .long x4), (6, .long x6)]) (st2 := []) (h2 := (sh_rep m.T m.I (sh_u2 m.J 66 46 (sf_288 y1 x3 (x4 ||| x6))))) rfl rfl rfl ?_
    exact kk
  obtain rfl := Option.some.inj e
  obtain ⟨rfl, rfl⟩ := tg
  exact sh_Lk_ret (i := .return_) rfl rfl rfl (Nat.le_of_ble_eq_true rfl) (Nat.le_of_ble_eq_true rfl)
theorem sl_305_175 {x3 : Int32} {x4 : Int64} {x6 : Int64} {y1 : Int32} {m m2 : sh_X} {o : Outcome} {z : (Unit × sh_X)} (e : sf_305_175 x3 x4 x6 y1 m = some z) (tg : (sh_tV o m2) z) : sh_Lk 305 175 [(3, .int x3), (4, .long x4), (6, .long x6)] [.int y1, .ref 67] m o m2 10 250 := by
  unfold sf_305_175 at e
  refine sh_Lk_lift (T := m.T) (I := m.I) (J := m.J) (s := m.s) (pc2 := 181) (lv2 := [(3, .int x3), (4, .long x4), (6, .long x6)]) (st2 := [.long (x4 &&& x6), .int x3, .int y1, .ref 67]) (I2 := m.I) (J2 := m.J) (fun hT v kk => ?_) ?_
  · refine sh_w (i := (.iload_n 3)) (len := 1) (pc2 := 176) (lv2 := [(3, .int x3), (4, .long x4), (6, .long x6)]) (st2 := [.int x3, .int y1, .ref 67]) (h2 := (sh_rep m.T m.I m.J)) rfl rfl rfl ?_
    refine sh_w (i := (.lload 4)) (len := 2) (pc2 := 178) (lv2 := [(3, .int x3), (4, .long x4), (6, .long x6)]) (st2 := [.long x4, .int x3, .int y1, .ref 67]) (h2 := (sh_rep m.T m.I m.J)) rfl rfl rfl ?_
    refine sh_w (i := (.lload 6)) (len := 2) (pc2 := 180) (lv2 := [(3, .int x3), (4, .long x4), (6, .long x6)]) (st2 := [.long x6, .long x4, .int x3, .int y1, .ref 67]) (h2 := (sh_rep m.T m.I m.J)) rfl rfl rfl ?_
    refine sh_w (i := .land) (len := 1) (pc2 := 181) (lv2 := [(3, .int x3), (4, .long x4), (6, .long x6)]) (st2 := [.long (x4 &&& x6), .int x3, .int y1, .ref 67]) (h2 := (sh_rep m.T m.I m.J)) rfl rfl rfl ?_
    exact kk
  refine sh_Lk_cS (r := (some (.long (sf_288 y1 x3 (x4 &&& x6))))) (st2 := [.long (sf_288 y1 x3 (x4 &&& x6)), .ref 67]) (pc2 := 184) (k2 := 288) (as := [.int y1, .int x3, .long (x4 &&& x6)]) (rest := [.ref 67]) rfl rfl (by decide) (Nat.le_of_ble_eq_true rfl) rfl rfl ⟨Nat.le_of_ble_eq_true rfl, Nat.le_of_ble_eq_true rfl⟩ (sl_288 (m := m) rfl ⟨rfl, rfl⟩) rfl rfl (Nat.le_of_ble_eq_true rfl) (Nat.le_of_ble_eq_true rfl) ?_
  refine sh_Lk_lift (T := m.T) (I := m.I) (J := m.J) (s := m.s) (pc2 := 437) (lv2 := [(3, .int x3), (4, .long x4), (6, .long x6)]) (st2 := []) (I2 := m.I) (J2 := sh_u2 m.J 66 46 (sf_288 y1 x3 (x4 &&& x6))) (fun hT v kk => ?_) ?_
  · refine sh_pJ1 (x := sf_288 y1 x3 (x4 &&& x6)) (pc2 := 187) rfl rfl (sh_s66 hT.st) rfl rfl rfl rfl ?_
    refine sh_w (i := (.goto 250)) (len := 3) (pc2 := 437) (lv2 := [(3, .int x3), (4, .long x4), (6, .long x6)]) (st2 := []) (h2 := (sh_rep m.T m.I (sh_u2 m.J 66 46 (sf_288 y1 x3 (x4 &&& x6))))) rfl rfl rfl ?_
    exact kk
  obtain rfl := Option.some.inj e
  obtain ⟨rfl, rfl⟩ := tg
  exact sh_Lk_ret (i := .return_) rfl rfl rfl (Nat.le_of_ble_eq_true rfl) (Nat.le_of_ble_eq_true rfl)
theorem sl_305_200 {x3 : Int32} {x4 : Int64} {x6 : Int64} {y1 : Int32} {m m2 : sh_X} {o : Outcome} {z : (Unit × sh_X)} (e : sf_305_200 x3 x4 x6 y1 m = some z) (tg : (sh_tV o m2) z) : sh_Lk 305 200 [(3, .int x3), (4, .long x4), (6, .long x6)] [.int y1, .ref 67] m o m2 10 250 := by
  unfold sf_305_200 at e
  refine sh_Lk_lift (T := m.T) (I := m.I) (J := m.J) (s := m.s) (pc2 := 206) (lv2 := [(3, .int x3), (4, .long x4), (6, .long x6)]) (st2 := [.long (x4 ^^^ x6), .int x3, .int y1, .ref 67]) (I2 := m.I) (J2 := m.J) (fun hT v kk => ?_) ?_
  · refine sh_w (i := (.iload_n 3)) (len := 1) (pc2 := 201) (lv2 := [(3, .int x3), (4, .long x4), (6, .long x6)]) (st2 := [.int x3, .int y1, .ref 67]) (h2 := (sh_rep m.T m.I m.J)) rfl rfl rfl ?_
    refine sh_w (i := (.lload 4)) (len := 2) (pc2 := 203) (lv2 := [(3, .int x3), (4, .long x4), (6, .long x6)]) (st2 := [.long x4, .int x3, .int y1, .ref 67]) (h2 := (sh_rep m.T m.I m.J)) rfl rfl rfl ?_
    refine sh_w (i := (.lload 6)) (len := 2) (pc2 := 205) (lv2 := [(3, .int x3), (4, .long x4), (6, .long x6)]) (st2 := [.long x6, .long x4, .int x3, .int y1, .ref 67]) (h2 := (sh_rep m.T m.I m.J)) rfl rfl rfl ?_
    refine sh_w (i := .lxor) (len := 1) (pc2 := 206) (lv2 := [(3, .int x3), (4, .long x4), (6, .long x6)]) (st2 := [.long (x4 ^^^ x6), .int x3, .int y1, .ref 67]) (h2 := (sh_rep m.T m.I m.J)) rfl rfl rfl ?_
    exact kk
  refine sh_Lk_cS (r := (some (.long (sf_288 y1 x3 (x4 ^^^ x6))))) (st2 := [.long (sf_288 y1 x3 (x4 ^^^ x6)), .ref 67]) (pc2 := 209) (k2 := 288) (as := [.int y1, .int x3, .long (x4 ^^^ x6)]) (rest := [.ref 67]) rfl rfl (by decide) (Nat.le_of_ble_eq_true rfl) rfl rfl ⟨Nat.le_of_ble_eq_true rfl, Nat.le_of_ble_eq_true rfl⟩ (sl_288 (m := m) rfl ⟨rfl, rfl⟩) rfl rfl (Nat.le_of_ble_eq_true rfl) (Nat.le_of_ble_eq_true rfl) ?_
  refine sh_Lk_lift (T := m.T) (I := m.I) (J := m.J) (s := m.s) (pc2 := 437) (lv2 := [(3, .int x3), (4, .long x4), (6, .long x6)]) (st2 := []) (I2 := m.I) (J2 := sh_u2 m.J 66 46 (sf_288 y1 x3 (x4 ^^^ x6))) (fun hT v kk => ?_) ?_
  · refine sh_pJ1 (x := sf_288 y1 x3 (x4 ^^^ x6)) (pc2 := 212) rfl rfl (sh_s66 hT.st) rfl rfl rfl rfl ?_
    refine sh_w (i := (.goto 225)) (len := 3) (pc2 := 437) (lv2 := [(3, .int x3), (4, .long x4), (6, .long x6)]) (st2 := []) (h2 := (sh_rep m.T m.I (sh_u2 m.J 66 46 (sf_288 y1 x3 (x4 ^^^ x6))))) rfl rfl rfl ?_
    exact kk
  obtain rfl := Option.some.inj e
  obtain ⟨rfl, rfl⟩ := tg
  exact sh_Lk_ret (i := .return_) rfl rfl rfl (Nat.le_of_ble_eq_true rfl) (Nat.le_of_ble_eq_true rfl)
theorem sl_305_229 {y1 : Bool} {m m2 : sh_X} {o : Outcome} {z : (Unit × sh_X)} (e : sf_305_229 y1 m = some z) (tg : (sh_tV o m2) z) : sh_Lk 305 229 [] [.int (sh_b2 y1), .ref 67] m o m2 10 250 := by
  unfold sf_305_229 at e
  obtain ⟨r1, m11, e1, e⟩ := sh_bn_e e
  refine sh_Lk_cV (r := none) (st2 := []) (pc2 := 232) (k2 := 306) (a := 66) (as := [.ref 67, .int (sh_b2 y1)]) (rest := []) rfl rfl rfl (fun hT => (sh_s66 hT.st)) rfl rfl ⟨Nat.le_of_ble_eq_true rfl, Nat.le_of_ble_eq_true rfl⟩ (sl_306 e1 ⟨rfl, rfl⟩) rfl rfl (Nat.le_of_ble_eq_true rfl) (Nat.le_of_ble_eq_true rfl) ?_
  refine sh_Lk_lift (T := m11.T) (I := m11.I) (J := m11.J) (s := m11.s) (pc2 := 437) (lv2 := []) (st2 := []) (I2 := m11.I) (J2 := m11.J) (fun hT v kk => ?_) ?_
  · refine sh_w (i := (.goto 205)) (len := 3) (pc2 := 437) (lv2 := []) (st2 := []) (h2 := (sh_rep m11.T m11.I m11.J)) rfl rfl rfl ?_
    exact kk
  obtain rfl := Option.some.inj e
  obtain ⟨rfl, rfl⟩ := tg
  exact sh_Lk_ret (i := .return_) rfl rfl rfl (Nat.le_of_ble_eq_true rfl) (Nat.le_of_ble_eq_true rfl)
theorem sl_305_249 {y1 : Bool} {m m2 : sh_X} {o : Outcome} {z : (Unit × sh_X)} (e : sf_305_249 y1 m = some z) (tg : (sh_tV o m2) z) : sh_Lk 305 249 [] [.int (sh_b2 y1), .ref 67] m o m2 10 250 := by
  unfold sf_305_249 at e
  obtain ⟨r1, m11, e1, e⟩ := sh_bn_e e
  refine sh_Lk_cV (r := none) (st2 := []) (pc2 := 252) (k2 := 306) (a := 66) (as := [.ref 67, .int (sh_b2 y1)]) (rest := []) rfl rfl rfl (fun hT => (sh_s66 hT.st)) rfl rfl ⟨Nat.le_of_ble_eq_true rfl, Nat.le_of_ble_eq_true rfl⟩ (sl_306 e1 ⟨rfl, rfl⟩) rfl rfl (Nat.le_of_ble_eq_true rfl) (Nat.le_of_ble_eq_true rfl) ?_
  refine sh_Lk_lift (T := m11.T) (I := m11.I) (J := m11.J) (s := m11.s) (pc2 := 437) (lv2 := []) (st2 := []) (I2 := m11.I) (J2 := m11.J) (fun hT v kk => ?_) ?_
  · refine sh_w (i := (.goto 185)) (len := 3) (pc2 := 437) (lv2 := []) (st2 := []) (h2 := (sh_rep m11.T m11.I m11.J)) rfl rfl rfl ?_
    exact kk
  obtain rfl := Option.some.inj e
  obtain ⟨rfl, rfl⟩ := tg
  exact sh_Lk_ret (i := .return_) rfl rfl rfl (Nat.le_of_ble_eq_true rfl) (Nat.le_of_ble_eq_true rfl)
theorem sl_305_302 {y1 : Bool} {m m2 : sh_X} {o : Outcome} {z : (Unit × sh_X)} (e : sf_305_302 y1 m = some z) (tg : (sh_tV o m2) z) : sh_Lk 305 302 [] [.int (sh_b2 y1), .ref 67] m o m2 10 250 := by
  unfold sf_305_302 at e
  obtain ⟨r1, m11, e1, e⟩ := sh_bn_e e
  refine sh_Lk_cV (r := none) (st2 := []) (pc2 := 305) (k2 := 306) (a := 66) (as := [.ref 67, .int (sh_b2 y1)]) (rest := []) rfl rfl rfl (fun hT => (sh_s66 hT.st)) rfl rfl ⟨Nat.le_of_ble_eq_true rfl, Nat.le_of_ble_eq_true rfl⟩ (sl_306 e1 ⟨rfl, rfl⟩) rfl rfl (Nat.le_of_ble_eq_true rfl) (Nat.le_of_ble_eq_true rfl) ?_
  refine sh_Lk_lift (T := m11.T) (I := m11.I) (J := m11.J) (s := m11.s) (pc2 := 437) (lv2 := []) (st2 := []) (I2 := m11.I) (J2 := m11.J) (fun hT v kk => ?_) ?_
  · refine sh_w (i := (.goto 132)) (len := 3) (pc2 := 437) (lv2 := []) (st2 := []) (h2 := (sh_rep m11.T m11.I m11.J)) rfl rfl rfl ?_
    exact kk
  obtain rfl := Option.some.inj e
  obtain ⟨rfl, rfl⟩ := tg
  exact sh_Lk_ret (i := .return_) rfl rfl rfl (Nat.le_of_ble_eq_true rfl) (Nat.le_of_ble_eq_true rfl)
theorem sl_305_325 {y1 : Bool} {m m2 : sh_X} {o : Outcome} {z : (Unit × sh_X)} (e : sf_305_325 y1 m = some z) (tg : (sh_tV o m2) z) : sh_Lk 305 325 [] [.int (sh_b2 y1), .ref 67] m o m2 10 250 := by
  unfold sf_305_325 at e
  obtain ⟨r1, m11, e1, e⟩ := sh_bn_e e
  refine sh_Lk_cV (r := none) (st2 := []) (pc2 := 328) (k2 := 306) (a := 66) (as := [.ref 67, .int (sh_b2 y1)]) (rest := []) rfl rfl rfl (fun hT => (sh_s66 hT.st)) rfl rfl ⟨Nat.le_of_ble_eq_true rfl, Nat.le_of_ble_eq_true rfl⟩ (sl_306 e1 ⟨rfl, rfl⟩) rfl rfl (Nat.le_of_ble_eq_true rfl) (Nat.le_of_ble_eq_true rfl) ?_
  refine sh_Lk_lift (T := m11.T) (I := m11.I) (J := m11.J) (s := m11.s) (pc2 := 437) (lv2 := []) (st2 := []) (I2 := m11.I) (J2 := m11.J) (fun hT v kk => ?_) ?_
  · refine sh_w (i := (.goto 109)) (len := 3) (pc2 := 437) (lv2 := []) (st2 := []) (h2 := (sh_rep m11.T m11.I m11.J)) rfl rfl rfl ?_
    exact kk
  obtain rfl := Option.some.inj e
  obtain ⟨rfl, rfl⟩ := tg
  exact sh_Lk_ret (i := .return_) rfl rfl rfl (Nat.le_of_ble_eq_true rfl) (Nat.le_of_ble_eq_true rfl)
theorem sl_305_431 {y1 : Int32} {y2 : Int32} {y3 : Int64} {m m2 : sh_X} {o : Outcome} {z : (Unit × sh_X)} (e : sf_305_431 y1 y2 y3 m = some z) (tg : (sh_tV o m2) z) : sh_Lk 305 431 [] [.long y3, .int y2, .int y1, .ref 67] m o m2 10 250 := by
  unfold sf_305_431 at e
  refine sh_Lk_cS (r := (some (.long (sf_288 y1 y2 y3)))) (st2 := [.long (sf_288 y1 y2 y3), .ref 67]) (pc2 := 434) (k2 := 288) (as := [.int y1, .int y2, .long y3]) (rest := [.ref 67]) rfl rfl (by decide) (Nat.le_of_ble_eq_true rfl) rfl rfl ⟨Nat.le_of_ble_eq_true rfl, Nat.le_of_ble_eq_true rfl⟩ (sl_288 (m := m) rfl ⟨rfl, rfl⟩) rfl rfl (Nat.le_of_ble_eq_true rfl) (Nat.le_of_ble_eq_true rfl) ?_
  refine sh_Lk_lift (T := m.T) (I := m.I) (J := m.J) (s := m.s) (pc2 := 437) (lv2 := []) (st2 := []) (I2 := m.I) (J2 := sh_u2 m.J 66 46 (sf_288 y1 y2 y3)) (fun hT v kk => ?_) ?_
  · refine sh_pJ1 (x := sf_288 y1 y2 y3) (pc2 := 437) rfl rfl (sh_s66 hT.st) rfl rfl rfl rfl ?_
    exact kk
  obtain rfl := Option.some.inj e
  obtain ⟨rfl, rfl⟩ := tg
  exact sh_Lk_ret (i := .return_) rfl rfl rfl (Nat.le_of_ble_eq_true rfl) (Nat.le_of_ble_eq_true rfl)
theorem sl_305 {x1 : Int32} {x2 : Int32} {x3 : Int32} {x4 : Int64} {x6 : Int64} {m m2 : sh_X} {o : Outcome} {z : (Unit × sh_X)} (e : sf_305 x1 x2 x3 x4 x6 m = some z) (tg : (sh_tV o m2) z) : sh_Lk 305 0 [(0, .ref 67), (1, .int x1), (2, .int x2), (3, .int x3), (4, .long x4), (6, .long x6)] [] m o m2 10 250 := by
  unfold sf_305 at e
  refine sh_Lk_lift (T := m.T) (I := m.I) (J := m.J) (s := m.s) (pc2 := 11) (lv2 := [(0, .ref 67), (1, .int x1), (2, .int x2), (3, .int x3), (4, .long x4), (6, .long x6)]) (st2 := [.int x1]) (I2 := sh_u2 (sh_u2 m.I 66 43 x2) 66 44 x3) (J2 := m.J) (fun hT v kk => ?_) ?_
  · refine sh_w (i := (.aload_n 0)) (len := 1) (pc2 := 1) (lv2 := [(0, .ref 67), (1, .int x1), (2, .int x2), (3, .int x3), (4, .long x4), (6, .long x6)]) (st2 := [.ref 67]) (h2 := (sh_rep m.T m.I m.J)) rfl rfl rfl ?_
    refine sh_w (i := (.iload_n 2)) (len := 1) (pc2 := 2) (lv2 := [(0, .ref 67), (1, .int x1), (2, .int x2), (3, .int x3), (4, .long x4), (6, .long x6)]) (st2 := [.int x2, .ref 67]) (h2 := (sh_rep m.T m.I m.J)) rfl rfl rfl ?_
    refine sh_pI1 (x := x2) (pc2 := 5) rfl rfl (sh_s66 hT.st) rfl rfl rfl rfl ?_
    refine sh_w (i := (.aload_n 0)) (len := 1) (pc2 := 6) (lv2 := [(0, .ref 67), (1, .int x1), (2, .int x2), (3, .int x3), (4, .long x4), (6, .long x6)]) (st2 := [.ref 67]) (h2 := (sh_rep m.T (sh_u2 m.I 66 43 x2) m.J)) rfl rfl rfl ?_
    refine sh_w (i := (.iload_n 3)) (len := 1) (pc2 := 7) (lv2 := [(0, .ref 67), (1, .int x1), (2, .int x2), (3, .int x3), (4, .long x4), (6, .long x6)]) (st2 := [.int x3, .ref 67]) (h2 := (sh_rep m.T (sh_u2 m.I 66 43 x2) m.J)) rfl rfl rfl ?_
    refine sh_pI1 (x := x3) (pc2 := 10) rfl rfl (sh_s66 hT.st) rfl rfl rfl rfl ?_
    refine sh_w (i := (.iload_n 1)) (len := 1) (pc2 := 11) (lv2 := [(0, .ref 67), (1, .int x1), (2, .int x2), (3, .int x3), (4, .long x4), (6, .long x6)]) (st2 := [.int x1]) (h2 := (sh_rep m.T (sh_u2 (sh_u2 m.I 66 43 x2) 66 44 x3) m.J)) rfl rfl rfl ?_
    exact kk
  rcases sh_ite e with ⟨c, e⟩ | ⟨c0, e⟩
  · refine sh_Lk_lift (T := m.T) (I := sh_u2 (sh_u2 m.I 66 43 x2) 66 44 x3) (J := m.J) (s := m.s) (pc2 := 167) (lv2 := [(0, .ref 67), (1, .int x1), (2, .int x2), (3, .int x3), (4, .long x4), (6, .long x6)]) (st2 := [.int x2, .ref 67]) (I2 := sh_u2 (sh_u2 m.I 66 43 x2) 66 44 x3) (J2 := m.J) (fun hT v kk => ?_) ?_
    · refine sh_w (i := (.lookupswitch 391 #[(38, 154), (42, 354), (43, 320), (45, 337), (47, 371), (60, 244), (62, 259), (94, 179), (124, 129), (8509, 224), (9766, 154), (15421, 274), (15677, 204), (15933, 297), (31868, 129)])) (len := 129) (pc2 := 165) (lv2 := [(0, .ref 67), (1, .int x1), (2, .int x2), (3, .int x3), (4, .long x4), (6, .long x6)]) (st2 := []) (h2 := (sh_rep m.T (sh_u2 (sh_u2 m.I 66 43 x2) 66 44 x3) m.J)) rfl rfl (c.elim (fun c => sh_sw c rfl) (fun c => sh_sw c rfl)) ?_
      refine sh_w (i := (.aload_n 0)) (len := 1) (pc2 := 166) (lv2 := [(0, .ref 67), (1, .int x1), (2, .int x2), (3, .int x3), (4, .long x4), (6, .long x6)]) (st2 := [.ref 67]) (h2 := (sh_rep m.T (sh_u2 (sh_u2 m.I 66 43 x2) 66 44 x3) m.J)) rfl rfl rfl ?_
      refine sh_w (i := (.iload_n 2)) (len := 1) (pc2 := 167) (lv2 := [(0, .ref 67), (1, .int x1), (2, .int x2), (3, .int x3), (4, .long x4), (6, .long x6)]) (st2 := [.int x2, .ref 67]) (h2 := (sh_rep m.T (sh_u2 (sh_u2 m.I 66 43 x2) 66 44 x3) m.J)) rfl rfl rfl ?_
      exact kk
    rcases sh_ite e with ⟨c, e⟩ | ⟨c, e⟩
    · refine sh_Lk_lift (T := m.T) (I := sh_u2 (sh_u2 m.I 66 43 x2) 66 44 x3) (J := m.J) (s := m.s) (pc2 := 175) (lv2 := [(0, .ref 67), (1, .int x1), (2, .int x2), (3, .int x3), (4, .long x4), (6, .long x6)]) (st2 := [.int 1, .ref 67]) (I2 := sh_u2 (sh_u2 m.I 66 43 x2) 66 44 x3) (J2 := m.J) (fun hT v kk => ?_) ?_
      · refine sh_j0 (c := .ne) (off := (7)) (pc2 := 170) false rfl (sh_Bnef c) rfl ?_
        refine sh_w (i := (.iconst 1)) (len := 1) (pc2 := 171) (lv2 := [(0, .ref 67), (1, .int x1), (2, .int x2), (3, .int x3), (4, .long x4), (6, .long x6)]) (st2 := [.int 1, .ref 67]) (h2 := (sh_rep m.T (sh_u2 (sh_u2 m.I 66 43 x2) 66 44 x3) m.J)) rfl rfl rfl ?_
        refine sh_w (i := (.goto 4)) (len := 3) (pc2 := 175) (lv2 := [(0, .ref 67), (1, .int x1), (2, .int x2), (3, .int x3), (4, .long x4), (6, .long x6)]) (st2 := [.int 1, .ref 67]) (h2 := (sh_rep m.T (sh_u2 (sh_u2 m.I 66 43 x2) 66 44 x3) m.J)) rfl rfl rfl ?_
        exact kk
      exact sh_Lk_sub (sh_sub_c rfl (sh_sub_c rfl (sh_sub_c rfl (sh_sub_n)))) (sl_305_175 e tg)
    · refine sh_Lk_lift (T := m.T) (I := sh_u2 (sh_u2 m.I 66 43 x2) 66 44 x3) (J := m.J) (s := m.s) (pc2 := 175) (lv2 := [(0, .ref 67), (1, .int x1), (2, .int x2), (3, .int x3), (4, .long x4), (6, .long x6)]) (st2 := [.int x2, .ref 67]) (I2 := sh_u2 (sh_u2 m.I 66 43 x2) 66 44 x3) (J2 := m.J) (fun hT v kk => ?_) ?_
      · refine sh_j0 (c := .ne) (off := (7)) (pc2 := 174) true rfl (sh_Bnet c) rfl ?_
        refine sh_w (i := (.iload_n 2)) (len := 1) (pc2 := 175) (lv2 := [(0, .ref 67), (1, .int x1), (2, .int x2), (3, .int x3), (4, .long x4), (6, .long x6)]) (st2 := [.int x2, .ref 67]) (h2 := (sh_rep m.T (sh_u2 (sh_u2 m.I 66 43 x2) 66 44 x3) m.J)) rfl rfl rfl ?_
        exact kk
      exact sh_Lk_sub (sh_sub_c rfl (sh_sub_c rfl (sh_sub_c rfl (sh_sub_n)))) (sl_305_175 e tg)
  rcases sh_ite e with ⟨c, e⟩ | ⟨c1, e⟩
  · refine sh_Lk_lift (T := m.T) (I := sh_u2 (sh_u2 m.I 66 43 x2) 66 44 x3) (J := m.J) (s := m.s) (pc2 := 373) (lv2 := [(0, .ref 67), (1, .int x1), (2, .int x2), (3, .int x3), (4, .long x4), (6, .long x6)]) (st2 := [.long (x4 * x6), .int x3, .int x2, .ref 67]) (I2 := sh_u2 (sh_u2 m.I 66 43 x2) 66 44 x3) (J2 := m.J) (fun hT v kk => ?_) ?_
    · refine sh_w (i := (.lookupswitch 391 #[(38, 154), (42, 354), (43, 320), (45, 337), (47, 371), (60, 244), (62, 259), (94, 179), (124, 129), (8509, 224), (9766, 154), (15421, 274), (15677, 204), (15933, 297), (31868, 129)])) (len := 129) (pc2 := 365) (lv2 := [(0, .ref 67), (1, .int x1), (2, .int x2), (3, .int x3), (4, .long x4), (6, .long x6)]) (st2 := []) (h2 := (sh_rep m.T (sh_u2 (sh_u2 m.I 66 43 x2) 66 44 x3) m.J)) rfl rfl (sh_sw c rfl) ?_
      refine sh_w (i := (.aload_n 0)) (len := 1) (pc2 := 366) (lv2 := [(0, .ref 67), (1, .int x1), (2, .int x2), (3, .int x3), (4, .long x4), (6, .long x6)]) (st2 := [.ref 67]) (h2 := (sh_rep m.T (sh_u2 (sh_u2 m.I 66 43 x2) 66 44 x3) m.J)) rfl rfl rfl ?_
      refine sh_w (i := (.iload_n 2)) (len := 1) (pc2 := 367) (lv2 := [(0, .ref 67), (1, .int x1), (2, .int x2), (3, .int x3), (4, .long x4), (6, .long x6)]) (st2 := [.int x2, .ref 67]) (h2 := (sh_rep m.T (sh_u2 (sh_u2 m.I 66 43 x2) 66 44 x3) m.J)) rfl rfl rfl ?_
      refine sh_w (i := (.iload_n 3)) (len := 1) (pc2 := 368) (lv2 := [(0, .ref 67), (1, .int x1), (2, .int x2), (3, .int x3), (4, .long x4), (6, .long x6)]) (st2 := [.int x3, .int x2, .ref 67]) (h2 := (sh_rep m.T (sh_u2 (sh_u2 m.I 66 43 x2) 66 44 x3) m.J)) rfl rfl rfl ?_
      refine sh_w (i := (.lload 4)) (len := 2) (pc2 := 370) (lv2 := [(0, .ref 67), (1, .int x1), (2, .int x2), (3, .int x3), (4, .long x4), (6, .long x6)]) (st2 := [.long x4, .int x3, .int x2, .ref 67]) (h2 := (sh_rep m.T (sh_u2 (sh_u2 m.I 66 43 x2) 66 44 x3) m.J)) rfl rfl rfl ?_
      refine sh_w (i := (.lload 6)) (len := 2) (pc2 := 372) (lv2 := [(0, .ref 67), (1, .int x1), (2, .int x2), (3, .int x3), (4, .long x4), (6, .long x6)]) (st2 := [.long x6, .long x4, .int x3, .int x2, .ref 67]) (h2 := (sh_rep m.T (sh_u2 (sh_u2 m.I 66 43 x2) 66 44 x3) m.J)) rfl rfl rfl ?_
      refine sh_w (i := .lmul) (len := 1) (pc2 := 373) (lv2 := [(0, .ref 67), (1, .int x1), (2, .int x2), (3, .int x3), (4, .long x4), (6, .long x6)]) (st2 := [.long (x4 * x6), .int x3, .int x2, .ref 67]) (h2 := (sh_rep m.T (sh_u2 (sh_u2 m.I 66 43 x2) 66 44 x3) m.J)) rfl rfl rfl ?_
      exact kk
    refine sh_Lk_cS (r := (some (.long (sf_288 x2 x3 (x4 * x6))))) (st2 := [.long (sf_288 x2 x3 (x4 * x6)), .ref 67]) (pc2 := 376) (k2 := 288) (as := [.int x2, .int x3, .long (x4 * x6)]) (rest := [.ref 67]) rfl rfl (by decide) (Nat.le_of_ble_eq_true rfl) rfl rfl ⟨Nat.le_of_ble_eq_true rfl, Nat.le_of_ble_eq_true rfl⟩ (sl_288 (m := ⟨m.T, sh_u2 (sh_u2 m.I 66 43 x2) 66 44 x3, m.J, m.s⟩) rfl ⟨rfl, rfl⟩) rfl rfl (Nat.le_of_ble_eq_true rfl) (Nat.le_of_ble_eq_true rfl) ?_
    refine sh_Lk_lift (T := m.T) (I := sh_u2 (sh_u2 m.I 66 43 x2) 66 44 x3) (J := m.J) (s := m.s) (pc2 := 437) (lv2 := [(0, .ref 67), (1, .int x1), (2, .int x2), (3, .int x3), (4, .long x4), (6, .long x6)]) (st2 := []) (I2 := sh_u2 (sh_u2 m.I 66 43 x2) 66 44 x3) (J2 := sh_u2 m.J 66 46 (sf_288 x2 x3 (x4 * x6))) (fun hT v kk => ?_) ?_
    · refine sh_pJ1 (x := sf_288 x2 x3 (x4 * x6)) (pc2 := 379) rfl rfl (sh_s66 hT.st) rfl rfl rfl rfl ?_
      refine sh_w (i := (.goto 58)) (len := 3) (pc2 := 437) (lv2 := [(0, .ref 67), (1, .int x1), (2, .int x2), (3, .int x3), (4, .long x4), (6, .long x6)]) (st2 := []) (h2 := (sh_rep m.T (sh_u2 (sh_u2 m.I 66 43 x2) 66 44 x3) (sh_u2 m.J 66 46 (sf_288 x2 x3 (x4 * x6))))) rfl rfl rfl ?_
      exact kk
    obtain rfl := Option.some.inj e
    obtain ⟨rfl, rfl⟩ := tg
    exact sh_Lk_ret (i := .return_) rfl rfl rfl (Nat.le_of_ble_eq_true rfl) (Nat.le_of_ble_eq_true rfl)
  rcases sh_ite e with ⟨c, e⟩ | ⟨c2, e⟩
  · refine sh_Lk_lift (T := m.T) (I := sh_u2 (sh_u2 m.I 66 43 x2) 66 44 x3) (J := m.J) (s := m.s) (pc2 := 339) (lv2 := [(0, .ref 67), (1, .int x1), (2, .int x2), (3, .int x3), (4, .long x4), (6, .long x6)]) (st2 := [.long (x4 + x6), .int x3, .int x2, .ref 67]) (I2 := sh_u2 (sh_u2 m.I 66 43 x2) 66 44 x3) (J2 := m.J) (fun hT v kk => ?_) ?_
    · refine sh_w (i := (.lookupswitch 391 #[(38, 154), (42, 354), (43, 320), (45, 337), (47, 371), (60, 244), (62, 259), (94, 179), (124, 129), (8509, 224), (9766, 154), (15421, 274), (15677, 204), (15933, 297), (31868, 129)])) (len := 129) (pc2 := 331) (lv2 := [(0, .ref 67), (1, .int x1), (2, .int x2), (3, .int x3), (4, .long x4), (6, .long x6)]) (st2 := []) (h2 := (sh_rep m.T (sh_u2 (sh_u2 m.I 66 43 x2) 66 44 x3) m.J)) rfl rfl (sh_sw c rfl) ?_
      refine sh_w (i := (.aload_n 0)) (len := 1) (pc2 := 332) (lv2 := [(0, .ref 67), (1, .int x1), (2, .int x2), (3, .int x3), (4, .long x4), (6, .long x6)]) (st2 := [.ref 67]) (h2 := (sh_rep m.T (sh_u2 (sh_u2 m.I 66 43 x2) 66 44 x3) m.J)) rfl rfl rfl ?_
      refine sh_w (i := (.iload_n 2)) (len := 1) (pc2 := 333) (lv2 := [(0, .ref 67), (1, .int x1), (2, .int x2), (3, .int x3), (4, .long x4), (6, .long x6)]) (st2 := [.int x2, .ref 67]) (h2 := (sh_rep m.T (sh_u2 (sh_u2 m.I 66 43 x2) 66 44 x3) m.J)) rfl rfl rfl ?_
      refine sh_w (i := (.iload_n 3)) (len := 1) (pc2 := 334) (lv2 := [(0, .ref 67), (1, .int x1), (2, .int x2), (3, .int x3), (4, .long x4), (6, .long x6)]) (st2 := [.int x3, .int x2, .ref 67]) (h2 := (sh_rep m.T (sh_u2 (sh_u2 m.I 66 43 x2) 66 44 x3) m.J)) rfl rfl rfl ?_
      refine sh_w (i := (.lload 4)) (len := 2) (pc2 := 336) (lv2 := [(0, .ref 67), (1, .int x1), (2, .int x2), (3, .int x3), (4, .long x4), (6, .long x6)]) (st2 := [.long x4, .int x3, .int x2, .ref 67]) (h2 := (sh_rep m.T (sh_u2 (sh_u2 m.I 66 43 x2) 66 44 x3) m.J)) rfl rfl rfl ?_
      refine sh_w (i := (.lload 6)) (len := 2) (pc2 := 338) (lv2 := [(0, .ref 67), (1, .int x1), (2, .int x2), (3, .int x3), (4, .long x4), (6, .long x6)]) (st2 := [.long x6, .long x4, .int x3, .int x2, .ref 67]) (h2 := (sh_rep m.T (sh_u2 (sh_u2 m.I 66 43 x2) 66 44 x3) m.J)) rfl rfl rfl ?_
      refine sh_w (i := .ladd) (len := 1) (pc2 := 339) (lv2 := [(0, .ref 67), (1, .int x1), (2, .int x2), (3, .int x3), (4, .long x4), (6, .long x6)]) (st2 := [.long (x4 + x6), .int x3, .int x2, .ref 67]) (h2 := (sh_rep m.T (sh_u2 (sh_u2 m.I 66 43 x2) 66 44 x3) m.J)) rfl rfl rfl ?_
      exact kk
    refine sh_Lk_cS (r := (some (.long (sf_288 x2 x3 (x4 + x6))))) (st2 := [.long (sf_288 x2 x3 (x4 + x6)), .ref 67]) (pc2 := 342) (k2 := 288) (as := [.int x2, .int x3, .long (x4 + x6)]) (rest := [.ref 67]) rfl rfl (by decide) (Nat.le_of_ble_eq_true rfl) rfl rfl ⟨Nat.le_of_ble_eq_true rfl, Nat.le_of_ble_eq_true rfl⟩ (sl_288 (m := ⟨m.T, sh_u2 (sh_u2 m.I 66 43 x2) 66 44 x3, m.J, m.s⟩) rfl ⟨rfl, rfl⟩) rfl rfl (Nat.le_of_ble_eq_true rfl) (Nat.le_of_ble_eq_true rfl) ?_
    refine sh_Lk_lift (T := m.T) (I := sh_u2 (sh_u2 m.I 66 43 x2) 66 44 x3) (J := m.J) (s := m.s) (pc2 := 437) (lv2 := [(0, .ref 67), (1, .int x1), (2, .int x2), (3, .int x3), (4, .long x4), (6, .long x6)]) (st2 := []) (I2 := sh_u2 (sh_u2 m.I 66 43 x2) 66 44 x3) (J2 := sh_u2 m.J 66 46 (sf_288 x2 x3 (x4 + x6))) (fun hT v kk => ?_) ?_
    · refine sh_pJ1 (x := sf_288 x2 x3 (x4 + x6)) (pc2 := 345) rfl rfl (sh_s66 hT.st) rfl rfl rfl rfl ?_
      refine sh_w (i := (.goto 92)) (len := 3) (pc2 := 437) (lv2 := [(0, .ref 67), (1, .int x1), (2, .int x2), (3, .int x3), (4, .long x4), (6, .long x6)]) (st2 := []) (h2 := (sh_rep m.T (sh_u2 (sh_u2 m.I 66 43 x2) 66 44 x3) (sh_u2 m.J 66 46 (sf_288 x2 x3 (x4 + x6))))) rfl rfl rfl ?_
      exact kk
    obtain rfl := Option.some.inj e
    obtain ⟨rfl, rfl⟩ := tg
    exact sh_Lk_ret (i := .return_) rfl rfl rfl (Nat.le_of_ble_eq_true rfl) (Nat.le_of_ble_eq_true rfl)
  rcases sh_ite e with ⟨c, e⟩ | ⟨c3, e⟩
  · refine sh_Lk_lift (T := m.T) (I := sh_u2 (sh_u2 m.I 66 43 x2) 66 44 x3) (J := m.J) (s := m.s) (pc2 := 356) (lv2 := [(0, .ref 67), (1, .int x1), (2, .int x2), (3, .int x3), (4, .long x4), (6, .long x6)]) (st2 := [.long (x4 - x6), .int x3, .int x2, .ref 67]) (I2 := sh_u2 (sh_u2 m.I 66 43 x2) 66 44 x3) (J2 := m.J) (fun hT v kk => ?_) ?_
    · refine sh_w (i := (.lookupswitch 391 #[(38, 154), (42, 354), (43, 320), (45, 337), (47, 371), (60, 244), (62, 259), (94, 179), (124, 129), (8509, 224), (9766, 154), (15421, 274), (15677, 204), (15933, 297), (31868, 129)])) (len := 129) (pc2 := 348) (lv2 := [(0, .ref 67), (1, .int x1), (2, .int x2), (3, .int x3), (4, .long x4), (6, .long x6)]) (st2 := []) (h2 := (sh_rep m.T (sh_u2 (sh_u2 m.I 66 43 x2) 66 44 x3) m.J)) rfl rfl (sh_sw c rfl) ?_
      refine sh_w (i := (.aload_n 0)) (len := 1) (pc2 := 349) (lv2 := [(0, .ref 67), (1, .int x1), (2, .int x2), (3, .int x3), (4, .long x4), (6, .long x6)]) (st2 := [.ref 67]) (h2 := (sh_rep m.T (sh_u2 (sh_u2 m.I 66 43 x2) 66 44 x3) m.J)) rfl rfl rfl ?_
      refine sh_w (i := (.iload_n 2)) (len := 1) (pc2 := 350) (lv2 := [(0, .ref 67), (1, .int x1), (2, .int x2), (3, .int x3), (4, .long x4), (6, .long x6)]) (st2 := [.int x2, .ref 67]) (h2 := (sh_rep m.T (sh_u2 (sh_u2 m.I 66 43 x2) 66 44 x3) m.J)) rfl rfl rfl ?_
      refine sh_w (i := (.iload_n 3)) (len := 1) (pc2 := 351) (lv2 := [(0, .ref 67), (1, .int x1), (2, .int x2), (3, .int x3), (4, .long x4), (6, .long x6)]) (st2 := [.int x3, .int x2, .ref 67]) (h2 := (sh_rep m.T (sh_u2 (sh_u2 m.I 66 43 x2) 66 44 x3) m.J)) rfl rfl rfl ?_
      refine sh_w (i := (.lload 4)) (len := 2) (pc2 := 353) (lv2 := [(0, .ref 67), (1, .int x1), (2, .int x2), (3, .int x3), (4, .long x4), (6, .long x6)]) (st2 := [.long x4, .int x3, .int x2, .ref 67]) (h2 := (sh_rep m.T (sh_u2 (sh_u2 m.I 66 43 x2) 66 44 x3) m.J)) rfl rfl rfl ?_
      refine sh_w (i := (.lload 6)) (len := 2) (pc2 := 355) (lv2 := [(0, .ref 67), (1, .int x1), (2, .int x2), (3, .int x3), (4, .long x4), (6, .long x6)]) (st2 := [.long x6, .long x4, .int x3, .int x2, .ref 67]) (h2 := (sh_rep m.T (sh_u2 (sh_u2 m.I 66 43 x2) 66 44 x3) m.J)) rfl rfl rfl ?_
      refine sh_w (i := .lsub) (len := 1) (pc2 := 356) (lv2 := [(0, .ref 67), (1, .int x1), (2, .int x2), (3, .int x3), (4, .long x4), (6, .long x6)]) (st2 := [.long (x4 - x6), .int x3, .int x2, .ref 67]) (h2 := (sh_rep m.T (sh_u2 (sh_u2 m.I 66 43 x2) 66 44 x3) m.J)) rfl rfl rfl ?_
      exact kk
    refine sh_Lk_cS (r := (some (.long (sf_288 x2 x3 (x4 - x6))))) (st2 := [.long (sf_288 x2 x3 (x4 - x6)), .ref 67]) (pc2 := 359) (k2 := 288) (as := [.int x2, .int x3, .long (x4 - x6)]) (rest := [.ref 67]) rfl rfl (by decide) (Nat.le_of_ble_eq_true rfl) rfl rfl ⟨Nat.le_of_ble_eq_true rfl, Nat.le_of_ble_eq_true rfl⟩ (sl_288 (m := ⟨m.T, sh_u2 (sh_u2 m.I 66 43 x2) 66 44 x3, m.J, m.s⟩) rfl ⟨rfl, rfl⟩) rfl rfl (Nat.le_of_ble_eq_true rfl) (Nat.le_of_ble_eq_true rfl) ?_
    refine sh_Lk_lift (T := m.T) (I := sh_u2 (sh_u2 m.I 66 43 x2) 66 44 x3) (J := m.J) (s := m.s) (pc2 := 437) (lv2 := [(0, .ref 67), (1, .int x1), (2, .int x2), (3, .int x3), (4, .long x4), (6, .long x6)]) (st2 := []) (I2 := sh_u2 (sh_u2 m.I 66 43 x2) 66 44 x3) (J2 := sh_u2 m.J 66 46 (sf_288 x2 x3 (x4 - x6))) (fun hT v kk => ?_) ?_
    · refine sh_pJ1 (x := sf_288 x2 x3 (x4 - x6)) (pc2 := 362) rfl rfl (sh_s66 hT.st) rfl rfl rfl rfl ?_
      refine sh_w (i := (.goto 75)) (len := 3) (pc2 := 437) (lv2 := [(0, .ref 67), (1, .int x1), (2, .int x2), (3, .int x3), (4, .long x4), (6, .long x6)]) (st2 := []) (h2 := (sh_rep m.T (sh_u2 (sh_u2 m.I 66 43 x2) 66 44 x3) (sh_u2 m.J 66 46 (sf_288 x2 x3 (x4 - x6))))) rfl rfl rfl ?_
      exact kk
    obtain rfl := Option.some.inj e
    obtain ⟨rfl, rfl⟩ := tg
    exact sh_Lk_ret (i := .return_) rfl rfl rfl (Nat.le_of_ble_eq_true rfl) (Nat.le_of_ble_eq_true rfl)
  rcases sh_ite e with ⟨c, e⟩ | ⟨c4, e⟩
  · refine sh_Lk_lift (T := m.T) (I := sh_u2 (sh_u2 m.I 66 43 x2) 66 44 x3) (J := m.J) (s := m.s) (pc2 := 390) (lv2 := [(0, .ref 67), (1, .int x1), (2, .int x2), (3, .int x3), (4, .long x4), (6, .long x6)]) (st2 := [.long x6, .long x4, .int x2, .int x3, .int x2, .ref 67]) (I2 := sh_u2 (sh_u2 m.I 66 43 x2) 66 44 x3) (J2 := m.J) (fun hT v kk => ?_) ?_
    · refine sh_w (i := (.lookupswitch 391 #[(38, 154), (42, 354), (43, 320), (45, 337), (47, 371), (60, 244), (62, 259), (94, 179), (124, 129), (8509, 224), (9766, 154), (15421, 274), (15677, 204), (15933, 297), (31868, 129)])) (len := 129) (pc2 := 382) (lv2 := [(0, .ref 67), (1, .int x1), (2, .int x2), (3, .int x3), (4, .long x4), (6, .long x6)]) (st2 := []) (h2 := (sh_rep m.T (sh_u2 (sh_u2 m.I 66 43 x2) 66 44 x3) m.J)) rfl rfl (sh_sw c rfl) ?_
      refine sh_w (i := (.aload_n 0)) (len := 1) (pc2 := 383) (lv2 := [(0, .ref 67), (1, .int x1), (2, .int x2), (3, .int x3), (4, .long x4), (6, .long x6)]) (st2 := [.ref 67]) (h2 := (sh_rep m.T (sh_u2 (sh_u2 m.I 66 43 x2) 66 44 x3) m.J)) rfl rfl rfl ?_
      refine sh_w (i := (.iload_n 2)) (len := 1) (pc2 := 384) (lv2 := [(0, .ref 67), (1, .int x1), (2, .int x2), (3, .int x3), (4, .long x4), (6, .long x6)]) (st2 := [.int x2, .ref 67]) (h2 := (sh_rep m.T (sh_u2 (sh_u2 m.I 66 43 x2) 66 44 x3) m.J)) rfl rfl rfl ?_
      refine sh_w (i := (.iload_n 3)) (len := 1) (pc2 := 385) (lv2 := [(0, .ref 67), (1, .int x1), (2, .int x2), (3, .int x3), (4, .long x4), (6, .long x6)]) (st2 := [.int x3, .int x2, .ref 67]) (h2 := (sh_rep m.T (sh_u2 (sh_u2 m.I 66 43 x2) 66 44 x3) m.J)) rfl rfl rfl ?_
      refine sh_w (i := (.iload_n 2)) (len := 1) (pc2 := 386) (lv2 := [(0, .ref 67), (1, .int x1), (2, .int x2), (3, .int x3), (4, .long x4), (6, .long x6)]) (st2 := [.int x2, .int x3, .int x2, .ref 67]) (h2 := (sh_rep m.T (sh_u2 (sh_u2 m.I 66 43 x2) 66 44 x3) m.J)) rfl rfl rfl ?_
      refine sh_w (i := (.lload 4)) (len := 2) (pc2 := 388) (lv2 := [(0, .ref 67), (1, .int x1), (2, .int x2), (3, .int x3), (4, .long x4), (6, .long x6)]) (st2 := [.long x4, .int x2, .int x3, .int x2, .ref 67]) (h2 := (sh_rep m.T (sh_u2 (sh_u2 m.I 66 43 x2) 66 44 x3) m.J)) rfl rfl rfl ?_
      refine sh_w (i := (.lload 6)) (len := 2) (pc2 := 390) (lv2 := [(0, .ref 67), (1, .int x1), (2, .int x2), (3, .int x3), (4, .long x4), (6, .long x6)]) (st2 := [.long x6, .long x4, .int x2, .int x3, .int x2, .ref 67]) (h2 := (sh_rep m.T (sh_u2 (sh_u2 m.I 66 43 x2) 66 44 x3) m.J)) rfl rfl rfl ?_
      exact kk
    obtain ⟨r4, e4, e⟩ := sh_bc_e e
    refine sh_Lk_cS (r := (some (.long r4))) (st2 := [.long r4, .int x3, .int x2, .ref 67]) (pc2 := 393) (k2 := 308) (as := [.int x2, .long x4, .long x6]) (rest := [.int x3, .int x2, .ref 67]) rfl rfl (by decide) (Nat.le_of_ble_eq_true rfl) rfl rfl ⟨Nat.le_of_ble_eq_true rfl, Nat.le_of_ble_eq_true rfl⟩ (sl_308 e4 ⟨rfl, rfl⟩) rfl rfl (Nat.le_of_ble_eq_true rfl) (Nat.le_of_ble_eq_true rfl) ?_
    refine sh_Lk_cS (r := (some (.long (sf_288 x2 x3 r4)))) (st2 := [.long (sf_288 x2 x3 r4), .ref 67]) (pc2 := 396) (k2 := 288) (as := [.int x2, .int x3, .long r4]) (rest := [.ref 67]) rfl rfl (by decide) (Nat.le_of_ble_eq_true rfl) rfl rfl ⟨Nat.le_of_ble_eq_true rfl, Nat.le_of_ble_eq_true rfl⟩ (sl_288 (m := ⟨m.T, sh_u2 (sh_u2 m.I 66 43 x2) 66 44 x3, m.J, m.s⟩) rfl ⟨rfl, rfl⟩) rfl rfl (Nat.le_of_ble_eq_true rfl) (Nat.le_of_ble_eq_true rfl) ?_
    refine sh_Lk_lift (T := m.T) (I := sh_u2 (sh_u2 m.I 66 43 x2) 66 44 x3) (J := m.J) (s := m.s) (pc2 := 437) (lv2 := [(0, .ref 67), (1, .int x1), (2, .int x2), (3, .int x3), (4, .long x4), (6, .long x6)]) (st2 := []) (I2 := sh_u2 (sh_u2 m.I 66 43 x2) 66 44 x3) (J2 := sh_u2 m.J 66 46 (sf_288 x2 x3 r4)) (fun hT v kk => ?_) ?_
    · refine sh_pJ1 (x := sf_288 x2 x3 r4) (pc2 := 399) rfl rfl (sh_s66 hT.st) rfl rfl rfl rfl ?_
      refine sh_w (i := (.goto 38)) (len := 3) (pc2 := 437) (lv2 := [(0, .ref 67), (1, .int x1), (2, .int x2), (3, .int x3), (4, .long x4), (6, .long x6)]) (st2 := []) (h2 := (sh_rep m.T (sh_u2 (sh_u2 m.I 66 43 x2) 66 44 x3) (sh_u2 m.J 66 46 (sf_288 x2 x3 r4)))) rfl rfl rfl ?_
      exact kk
    obtain rfl := Option.some.inj e
    obtain ⟨rfl, rfl⟩ := tg
    exact sh_Lk_ret (i := .return_) rfl rfl rfl (Nat.le_of_ble_eq_true rfl) (Nat.le_of_ble_eq_true rfl)
  rcases sh_ite e with ⟨c, e⟩ | ⟨c5, e⟩
  · refine sh_Lk_lift (T := m.T) (I := sh_u2 (sh_u2 m.I 66 43 x2) 66 44 x3) (J := m.J) (s := m.s) (pc2 := 261) (lv2 := [(0, .ref 67), (1, .int x1), (2, .int x2), (3, .int x3), (4, .long x4), (6, .long x6)]) (st2 := [.long x6, .long x4, .int x2, .ref 67]) (I2 := sh_u2 (sh_u2 m.I 66 43 x2) 66 44 x3) (J2 := m.J) (fun hT v kk => ?_) ?_
    · refine sh_w (i := (.lookupswitch 391 #[(38, 154), (42, 354), (43, 320), (45, 337), (47, 371), (60, 244), (62, 259), (94, 179), (124, 129), (8509, 224), (9766, 154), (15421, 274), (15677, 204), (15933, 297), (31868, 129)])) (len := 129) (pc2 := 255) (lv2 := [(0, .ref 67), (1, .int x1), (2, .int x2), (3, .int x3), (4, .long x4), (6, .long x6)]) (st2 := []) (h2 := (sh_rep m.T (sh_u2 (sh_u2 m.I 66 43 x2) 66 44 x3) m.J)) rfl rfl (sh_sw c rfl) ?_
      refine sh_w (i := (.aload_n 0)) (len := 1) (pc2 := 256) (lv2 := [(0, .ref 67), (1, .int x1), (2, .int x2), (3, .int x3), (4, .long x4), (6, .long x6)]) (st2 := [.ref 67]) (h2 := (sh_rep m.T (sh_u2 (sh_u2 m.I 66 43 x2) 66 44 x3) m.J)) rfl rfl rfl ?_
      refine sh_w (i := (.iload_n 2)) (len := 1) (pc2 := 257) (lv2 := [(0, .ref 67), (1, .int x1), (2, .int x2), (3, .int x3), (4, .long x4), (6, .long x6)]) (st2 := [.int x2, .ref 67]) (h2 := (sh_rep m.T (sh_u2 (sh_u2 m.I 66 43 x2) 66 44 x3) m.J)) rfl rfl rfl ?_
      refine sh_w (i := (.lload 4)) (len := 2) (pc2 := 259) (lv2 := [(0, .ref 67), (1, .int x1), (2, .int x2), (3, .int x3), (4, .long x4), (6, .long x6)]) (st2 := [.long x4, .int x2, .ref 67]) (h2 := (sh_rep m.T (sh_u2 (sh_u2 m.I 66 43 x2) 66 44 x3) m.J)) rfl rfl rfl ?_
      refine sh_w (i := (.lload 6)) (len := 2) (pc2 := 261) (lv2 := [(0, .ref 67), (1, .int x1), (2, .int x2), (3, .int x3), (4, .long x4), (6, .long x6)]) (st2 := [.long x6, .long x4, .int x2, .ref 67]) (h2 := (sh_rep m.T (sh_u2 (sh_u2 m.I 66 43 x2) 66 44 x3) m.J)) rfl rfl rfl ?_
      exact kk
    refine sh_Lk_cS (r := (some (.int (sh_b2 (sf_307 x2 x4 x6))))) (st2 := [.int (sh_b2 (sf_307 x2 x4 x6)), .ref 67]) (pc2 := 264) (k2 := 307) (as := [.int x2, .long x4, .long x6]) (rest := [.ref 67]) rfl rfl (by decide) (Nat.le_of_ble_eq_true rfl) rfl rfl ⟨Nat.le_of_ble_eq_true rfl, Nat.le_of_ble_eq_true rfl⟩ (sl_307 (m := ⟨m.T, sh_u2 (sh_u2 m.I 66 43 x2) 66 44 x3, m.J, m.s⟩) rfl ⟨rfl, rfl⟩) rfl rfl (Nat.le_of_ble_eq_true rfl) (Nat.le_of_ble_eq_true rfl) ?_
    obtain ⟨r7, m17, e7, e⟩ := sh_bn_e e
    refine sh_Lk_cV (r := none) (st2 := []) (pc2 := 267) (k2 := 306) (a := 66) (as := [.ref 67, .int (sh_b2 (sf_307 x2 x4 x6))]) (rest := []) rfl rfl rfl (fun hT => (sh_s66 hT.st)) rfl rfl ⟨Nat.le_of_ble_eq_true rfl, Nat.le_of_ble_eq_true rfl⟩ (sl_306 e7 ⟨rfl, rfl⟩) rfl rfl (Nat.le_of_ble_eq_true rfl) (Nat.le_of_ble_eq_true rfl) ?_
    refine sh_Lk_lift (T := m17.T) (I := m17.I) (J := m17.J) (s := m17.s) (pc2 := 437) (lv2 := [(0, .ref 67), (1, .int x1), (2, .int x2), (3, .int x3), (4, .long x4), (6, .long x6)]) (st2 := []) (I2 := m17.I) (J2 := m17.J) (fun hT v kk => ?_) ?_
    · refine sh_w (i := (.goto 170)) (len := 3) (pc2 := 437) (lv2 := [(0, .ref 67), (1, .int x1), (2, .int x2), (3, .int x3), (4, .long x4), (6, .long x6)]) (st2 := []) (h2 := (sh_rep m17.T m17.I m17.J)) rfl rfl rfl ?_
      exact kk
    obtain rfl := Option.some.inj e
    obtain ⟨rfl, rfl⟩ := tg
    exact sh_Lk_ret (i := .return_) rfl rfl rfl (Nat.le_of_ble_eq_true rfl) (Nat.le_of_ble_eq_true rfl)
  rcases sh_ite e with ⟨c, e⟩ | ⟨c6, e⟩
  · refine sh_Lk_lift (T := m.T) (I := sh_u2 (sh_u2 m.I 66 43 x2) 66 44 x3) (J := m.J) (s := m.s) (pc2 := 276) (lv2 := [(0, .ref 67), (1, .int x1), (2, .int x2), (3, .int x3), (4, .long x4), (6, .long x6)]) (st2 := [.long x4, .long x6, .int x2, .ref 67]) (I2 := sh_u2 (sh_u2 m.I 66 43 x2) 66 44 x3) (J2 := m.J) (fun hT v kk => ?_) ?_
    · refine sh_w (i := (.lookupswitch 391 #[(38, 154), (42, 354), (43, 320), (45, 337), (47, 371), (60, 244), (62, 259), (94, 179), (124, 129), (8509, 224), (9766, 154), (15421, 274), (15677, 204), (15933, 297), (31868, 129)])) (len := 129) (pc2 := 270) (lv2 := [(0, .ref 67), (1, .int x1), (2, .int x2), (3, .int x3), (4, .long x4), (6, .long x6)]) (st2 := []) (h2 := (sh_rep m.T (sh_u2 (sh_u2 m.I 66 43 x2) 66 44 x3) m.J)) rfl rfl (sh_sw c rfl) ?_
      refine sh_w (i := (.aload_n 0)) (len := 1) (pc2 := 271) (lv2 := [(0, .ref 67), (1, .int x1), (2, .int x2), (3, .int x3), (4, .long x4), (6, .long x6)]) (st2 := [.ref 67]) (h2 := (sh_rep m.T (sh_u2 (sh_u2 m.I 66 43 x2) 66 44 x3) m.J)) rfl rfl rfl ?_
      refine sh_w (i := (.iload_n 2)) (len := 1) (pc2 := 272) (lv2 := [(0, .ref 67), (1, .int x1), (2, .int x2), (3, .int x3), (4, .long x4), (6, .long x6)]) (st2 := [.int x2, .ref 67]) (h2 := (sh_rep m.T (sh_u2 (sh_u2 m.I 66 43 x2) 66 44 x3) m.J)) rfl rfl rfl ?_
      refine sh_w (i := (.lload 6)) (len := 2) (pc2 := 274) (lv2 := [(0, .ref 67), (1, .int x1), (2, .int x2), (3, .int x3), (4, .long x4), (6, .long x6)]) (st2 := [.long x6, .int x2, .ref 67]) (h2 := (sh_rep m.T (sh_u2 (sh_u2 m.I 66 43 x2) 66 44 x3) m.J)) rfl rfl rfl ?_
      refine sh_w (i := (.lload 4)) (len := 2) (pc2 := 276) (lv2 := [(0, .ref 67), (1, .int x1), (2, .int x2), (3, .int x3), (4, .long x4), (6, .long x6)]) (st2 := [.long x4, .long x6, .int x2, .ref 67]) (h2 := (sh_rep m.T (sh_u2 (sh_u2 m.I 66 43 x2) 66 44 x3) m.J)) rfl rfl rfl ?_
      exact kk
    refine sh_Lk_cS (r := (some (.int (sh_b2 (sf_307 x2 x6 x4))))) (st2 := [.int (sh_b2 (sf_307 x2 x6 x4)), .ref 67]) (pc2 := 279) (k2 := 307) (as := [.int x2, .long x6, .long x4]) (rest := [.ref 67]) rfl rfl (by decide) (Nat.le_of_ble_eq_true rfl) rfl rfl ⟨Nat.le_of_ble_eq_true rfl, Nat.le_of_ble_eq_true rfl⟩ (sl_307 (m := ⟨m.T, sh_u2 (sh_u2 m.I 66 43 x2) 66 44 x3, m.J, m.s⟩) rfl ⟨rfl, rfl⟩) rfl rfl (Nat.le_of_ble_eq_true rfl) (Nat.le_of_ble_eq_true rfl) ?_
    obtain ⟨r9, m19, e9, e⟩ := sh_bn_e e
    refine sh_Lk_cV (r := none) (st2 := []) (pc2 := 282) (k2 := 306) (a := 66) (as := [.ref 67, .int (sh_b2 (sf_307 x2 x6 x4))]) (rest := []) rfl rfl rfl (fun hT => (sh_s66 hT.st)) rfl rfl ⟨Nat.le_of_ble_eq_true rfl, Nat.le_of_ble_eq_true rfl⟩ (sl_306 e9 ⟨rfl, rfl⟩) rfl rfl (Nat.le_of_ble_eq_true rfl) (Nat.le_of_ble_eq_true rfl) ?_
    refine sh_Lk_lift (T := m19.T) (I := m19.I) (J := m19.J) (s := m19.s) (pc2 := 437) (lv2 := [(0, .ref 67), (1, .int x1), (2, .int x2), (3, .int x3), (4, .long x4), (6, .long x6)]) (st2 := []) (I2 := m19.I) (J2 := m19.J) (fun hT v kk => ?_) ?_
    · refine sh_w (i := (.goto 155)) (len := 3) (pc2 := 437) (lv2 := [(0, .ref 67), (1, .int x1), (2, .int x2), (3, .int x3), (4, .long x4), (6, .long x6)]) (st2 := []) (h2 := (sh_rep m19.T m19.I m19.J)) rfl rfl rfl ?_
      exact kk
    obtain rfl := Option.some.inj e
    obtain ⟨rfl, rfl⟩ := tg
    exact sh_Lk_ret (i := .return_) rfl rfl rfl (Nat.le_of_ble_eq_true rfl) (Nat.le_of_ble_eq_true rfl)
  rcases sh_ite e with ⟨c, e⟩ | ⟨c7, e⟩
  · refine sh_Lk_lift (T := m.T) (I := sh_u2 (sh_u2 m.I 66 43 x2) 66 44 x3) (J := m.J) (s := m.s) (pc2 := 192) (lv2 := [(0, .ref 67), (1, .int x1), (2, .int x2), (3, .int x3), (4, .long x4), (6, .long x6)]) (st2 := [.int x2, .ref 67]) (I2 := sh_u2 (sh_u2 m.I 66 43 x2) 66 44 x3) (J2 := m.J) (fun hT v kk => ?_) ?_
    · refine sh_w (i := (.lookupswitch 391 #[(38, 154), (42, 354), (43, 320), (45, 337), (47, 371), (60, 244), (62, 259), (94, 179), (124, 129), (8509, 224), (9766, 154), (15421, 274), (15677, 204), (15933, 297), (31868, 129)])) (len := 129) (pc2 := 190) (lv2 := [(0, .ref 67), (1, .int x1), (2, .int x2), (3, .int x3), (4, .long x4), (6, .long x6)]) (st2 := []) (h2 := (sh_rep m.T (sh_u2 (sh_u2 m.I 66 43 x2) 66 44 x3) m.J)) rfl rfl (sh_sw c rfl) ?_
      refine sh_w (i := (.aload_n 0)) (len := 1) (pc2 := 191) (lv2 := [(0, .ref 67), (1, .int x1), (2, .int x2), (3, .int x3), (4, .long x4), (6, .long x6)]) (st2 := [.ref 67]) (h2 := (sh_rep m.T (sh_u2 (sh_u2 m.I 66 43 x2) 66 44 x3) m.J)) rfl rfl rfl ?_
      refine sh_w (i := (.iload_n 2)) (len := 1) (pc2 := 192) (lv2 := [(0, .ref 67), (1, .int x1), (2, .int x2), (3, .int x3), (4, .long x4), (6, .long x6)]) (st2 := [.int x2, .ref 67]) (h2 := (sh_rep m.T (sh_u2 (sh_u2 m.I 66 43 x2) 66 44 x3) m.J)) rfl rfl rfl ?_
      exact kk
    rcases sh_ite e with ⟨c, e⟩ | ⟨c, e⟩
    · refine sh_Lk_lift (T := m.T) (I := sh_u2 (sh_u2 m.I 66 43 x2) 66 44 x3) (J := m.J) (s := m.s) (pc2 := 200) (lv2 := [(0, .ref 67), (1, .int x1), (2, .int x2), (3, .int x3), (4, .long x4), (6, .long x6)]) (st2 := [.int 1, .ref 67]) (I2 := sh_u2 (sh_u2 m.I 66 43 x2) 66 44 x3) (J2 := m.J) (fun hT v kk => ?_) ?_
      · refine sh_j0 (c := .ne) (off := (7)) (pc2 := 195) false rfl (sh_Bnef c) rfl ?_
        refine sh_w (i := (.iconst 1)) (len := 1) (pc2 := 196) (lv2 := [(0, .ref 67), (1, .int x1), (2, .int x2), (3, .int x3), (4, .long x4), (6, .long x6)]) (st2 := [.int 1, .ref 67]) (h2 := (sh_rep m.T (sh_u2 (sh_u2 m.I 66 43 x2) 66 44 x3) m.J)) rfl rfl rfl ?_
        refine sh_w (i := (.goto 4)) (len := 3) (pc2 := 200) (lv2 := [(0, .ref 67), (1, .int x1), (2, .int x2), (3, .int x3), (4, .long x4), (6, .long x6)]) (st2 := [.int 1, .ref 67]) (h2 := (sh_rep m.T (sh_u2 (sh_u2 m.I 66 43 x2) 66 44 x3) m.J)) rfl rfl rfl ?_
        exact kk
      exact sh_Lk_sub (sh_sub_c rfl (sh_sub_c rfl (sh_sub_c rfl (sh_sub_n)))) (sl_305_200 e tg)
    · refine sh_Lk_lift (T := m.T) (I := sh_u2 (sh_u2 m.I 66 43 x2) 66 44 x3) (J := m.J) (s := m.s) (pc2 := 200) (lv2 := [(0, .ref 67), (1, .int x1), (2, .int x2), (3, .int x3), (4, .long x4), (6, .long x6)]) (st2 := [.int x2, .ref 67]) (I2 := sh_u2 (sh_u2 m.I 66 43 x2) 66 44 x3) (J2 := m.J) (fun hT v kk => ?_) ?_
      · refine sh_j0 (c := .ne) (off := (7)) (pc2 := 199) true rfl (sh_Bnet c) rfl ?_
        refine sh_w (i := (.iload_n 2)) (len := 1) (pc2 := 200) (lv2 := [(0, .ref 67), (1, .int x1), (2, .int x2), (3, .int x3), (4, .long x4), (6, .long x6)]) (st2 := [.int x2, .ref 67]) (h2 := (sh_rep m.T (sh_u2 (sh_u2 m.I 66 43 x2) 66 44 x3) m.J)) rfl rfl rfl ?_
        exact kk
      exact sh_Lk_sub (sh_sub_c rfl (sh_sub_c rfl (sh_sub_c rfl (sh_sub_n)))) (sl_305_200 e tg)
  rcases sh_ite e with ⟨c, e⟩ | ⟨c8, e⟩
  · refine sh_Lk_lift (T := m.T) (I := sh_u2 (sh_u2 m.I 66 43 x2) 66 44 x3) (J := m.J) (s := m.s) (pc2 := 142) (lv2 := [(0, .ref 67), (1, .int x1), (2, .int x2), (3, .int x3), (4, .long x4), (6, .long x6)]) (st2 := [.int x2, .ref 67]) (I2 := sh_u2 (sh_u2 m.I 66 43 x2) 66 44 x3) (J2 := m.J) (fun hT v kk => ?_) ?_
    · refine sh_w (i := (.lookupswitch 391 #[(38, 154), (42, 354), (43, 320), (45, 337), (47, 371), (60, 244), (62, 259), (94, 179), (124, 129), (8509, 224), (9766, 154), (15421, 274), (15677, 204), (15933, 297), (31868, 129)])) (len := 129) (pc2 := 140) (lv2 := [(0, .ref 67), (1, .int x1), (2, .int x2), (3, .int x3), (4, .long x4), (6, .long x6)]) (st2 := []) (h2 := (sh_rep m.T (sh_u2 (sh_u2 m.I 66 43 x2) 66 44 x3) m.J)) rfl rfl (c.elim (fun c => sh_sw c rfl) (fun c => sh_sw c rfl)) ?_
      refine sh_w (i := (.aload_n 0)) (len := 1) (pc2 := 141) (lv2 := [(0, .ref 67), (1, .int x1), (2, .int x2), (3, .int x3), (4, .long x4), (6, .long x6)]) (st2 := [.ref 67]) (h2 := (sh_rep m.T (sh_u2 (sh_u2 m.I 66 43 x2) 66 44 x3) m.J)) rfl rfl rfl ?_
      refine sh_w (i := (.iload_n 2)) (len := 1) (pc2 := 142) (lv2 := [(0, .ref 67), (1, .int x1), (2, .int x2), (3, .int x3), (4, .long x4), (6, .long x6)]) (st2 := [.int x2, .ref 67]) (h2 := (sh_rep m.T (sh_u2 (sh_u2 m.I 66 43 x2) 66 44 x3) m.J)) rfl rfl rfl ?_
      exact kk
    rcases sh_ite e with ⟨c, e⟩ | ⟨c, e⟩
    · refine sh_Lk_lift (T := m.T) (I := sh_u2 (sh_u2 m.I 66 43 x2) 66 44 x3) (J := m.J) (s := m.s) (pc2 := 150) (lv2 := [(0, .ref 67), (1, .int x1), (2, .int x2), (3, .int x3), (4, .long x4), (6, .long x6)]) (st2 := [.int 1, .ref 67]) (I2 := sh_u2 (sh_u2 m.I 66 43 x2) 66 44 x3) (J2 := m.J) (fun hT v kk => ?_) ?_
      · refine sh_j0 (c := .ne) (off := (7)) (pc2 := 145) false rfl (sh_Bnef c) rfl ?_
        refine sh_w (i := (.iconst 1)) (len := 1) (pc2 := 146) (lv2 := [(0, .ref 67), (1, .int x1), (2, .int x2), (3, .int x3), (4, .long x4), (6, .long x6)]) (st2 := [.int 1, .ref 67]) (h2 := (sh_rep m.T (sh_u2 (sh_u2 m.I 66 43 x2) 66 44 x3) m.J)) rfl rfl rfl ?_
        refine sh_w (i := (.goto 4)) (len := 3) (pc2 := 150) (lv2 := [(0, .ref 67), (1, .int x1), (2, .int x2), (3, .int x3), (4, .long x4), (6, .long x6)]) (st2 := [.int 1, .ref 67]) (h2 := (sh_rep m.T (sh_u2 (sh_u2 m.I 66 43 x2) 66 44 x3) m.J)) rfl rfl rfl ?_
        exact kk
      exact sh_Lk_sub (sh_sub_c rfl (sh_sub_c rfl (sh_sub_c rfl (sh_sub_n)))) (sl_305_150 e tg)
    · refine sh_Lk_lift (T := m.T) (I := sh_u2 (sh_u2 m.I 66 43 x2) 66 44 x3) (J := m.J) (s := m.s) (pc2 := 150) (lv2 := [(0, .ref 67), (1, .int x1), (2, .int x2), (3, .int x3), (4, .long x4), (6, .long x6)]) (st2 := [.int x2, .ref 67]) (I2 := sh_u2 (sh_u2 m.I 66 43 x2) 66 44 x3) (J2 := m.J) (fun hT v kk => ?_) ?_
      · refine sh_j0 (c := .ne) (off := (7)) (pc2 := 149) true rfl (sh_Bnet c) rfl ?_
        refine sh_w (i := (.iload_n 2)) (len := 1) (pc2 := 150) (lv2 := [(0, .ref 67), (1, .int x1), (2, .int x2), (3, .int x3), (4, .long x4), (6, .long x6)]) (st2 := [.int x2, .ref 67]) (h2 := (sh_rep m.T (sh_u2 (sh_u2 m.I 66 43 x2) 66 44 x3) m.J)) rfl rfl rfl ?_
        exact kk
      exact sh_Lk_sub (sh_sub_c rfl (sh_sub_c rfl (sh_sub_c rfl (sh_sub_n)))) (sl_305_150 e tg)
  rcases sh_ite e with ⟨c, e⟩ | ⟨c9, e⟩
  · refine sh_Lk_lift (T := m.T) (I := sh_u2 (sh_u2 m.I 66 43 x2) 66 44 x3) (J := m.J) (s := m.s) (pc2 := 241) (lv2 := [(0, .ref 67), (1, .int x1), (2, .int x2), (3, .int x3), (4, .long x4), (6, .long x6)]) (st2 := [.int (lg_cmp x4 x6), .ref 67]) (I2 := sh_u2 (sh_u2 m.I 66 43 x2) 66 44 x3) (J2 := m.J) (fun hT v kk => ?_) ?_
    · refine sh_w (i := (.lookupswitch 391 #[(38, 154), (42, 354), (43, 320), (45, 337), (47, 371), (60, 244), (62, 259), (94, 179), (124, 129), (8509, 224), (9766, 154), (15421, 274), (15677, 204), (15933, 297), (31868, 129)])) (len := 129) (pc2 := 235) (lv2 := [(0, .ref 67), (1, .int x1), (2, .int x2), (3, .int x3), (4, .long x4), (6, .long x6)]) (st2 := []) (h2 := (sh_rep m.T (sh_u2 (sh_u2 m.I 66 43 x2) 66 44 x3) m.J)) rfl rfl (sh_sw c rfl) ?_
      refine sh_w (i := (.aload_n 0)) (len := 1) (pc2 := 236) (lv2 := [(0, .ref 67), (1, .int x1), (2, .int x2), (3, .int x3), (4, .long x4), (6, .long x6)]) (st2 := [.ref 67]) (h2 := (sh_rep m.T (sh_u2 (sh_u2 m.I 66 43 x2) 66 44 x3) m.J)) rfl rfl rfl ?_
      refine sh_w (i := (.lload 4)) (len := 2) (pc2 := 238) (lv2 := [(0, .ref 67), (1, .int x1), (2, .int x2), (3, .int x3), (4, .long x4), (6, .long x6)]) (st2 := [.long x4, .ref 67]) (h2 := (sh_rep m.T (sh_u2 (sh_u2 m.I 66 43 x2) 66 44 x3) m.J)) rfl rfl rfl ?_
      refine sh_w (i := (.lload 6)) (len := 2) (pc2 := 240) (lv2 := [(0, .ref 67), (1, .int x1), (2, .int x2), (3, .int x3), (4, .long x4), (6, .long x6)]) (st2 := [.long x6, .long x4, .ref 67]) (h2 := (sh_rep m.T (sh_u2 (sh_u2 m.I 66 43 x2) 66 44 x3) m.J)) rfl rfl rfl ?_
      refine sh_w (i := .lcmp) (len := 1) (pc2 := 241) (lv2 := [(0, .ref 67), (1, .int x1), (2, .int x2), (3, .int x3), (4, .long x4), (6, .long x6)]) (st2 := [.int (lg_cmp x4 x6), .ref 67]) (h2 := (sh_rep m.T (sh_u2 (sh_u2 m.I 66 43 x2) 66 44 x3) m.J)) rfl rfl rfl ?_
      exact kk
    rcases sh_ite e with ⟨c, e⟩ | ⟨c, e⟩
    · refine sh_Lk_lift (T := m.T) (I := sh_u2 (sh_u2 m.I 66 43 x2) 66 44 x3) (J := m.J) (s := m.s) (pc2 := 249) (lv2 := [(0, .ref 67), (1, .int x1), (2, .int x2), (3, .int x3), (4, .long x4), (6, .long x6)]) (st2 := [.int 0, .ref 67]) (I2 := sh_u2 (sh_u2 m.I 66 43 x2) 66 44 x3) (J2 := m.J) (fun hT v kk => ?_) ?_
      · refine sh_j0 (c := .eq) (off := (7)) (pc2 := 248) true rfl (sh_Ceqt c) rfl ?_
        refine sh_w (i := (.iconst 0)) (len := 1) (pc2 := 249) (lv2 := [(0, .ref 67), (1, .int x1), (2, .int x2), (3, .int x3), (4, .long x4), (6, .long x6)]) (st2 := [.int 0, .ref 67]) (h2 := (sh_rep m.T (sh_u2 (sh_u2 m.I 66 43 x2) 66 44 x3) m.J)) rfl rfl rfl ?_
        exact kk
      exact sh_Lk_sub (sh_sub_n) (sl_305_249 e tg)
    · refine sh_Lk_lift (T := m.T) (I := sh_u2 (sh_u2 m.I 66 43 x2) 66 44 x3) (J := m.J) (s := m.s) (pc2 := 249) (lv2 := [(0, .ref 67), (1, .int x1), (2, .int x2), (3, .int x3), (4, .long x4), (6, .long x6)]) (st2 := [.int 1, .ref 67]) (I2 := sh_u2 (sh_u2 m.I 66 43 x2) 66 44 x3) (J2 := m.J) (fun hT v kk => ?_) ?_
      · refine sh_j0 (c := .eq) (off := (7)) (pc2 := 244) false rfl (sh_Ceqf c) rfl ?_
        refine sh_w (i := (.iconst 1)) (len := 1) (pc2 := 245) (lv2 := [(0, .ref 67), (1, .int x1), (2, .int x2), (3, .int x3), (4, .long x4), (6, .long x6)]) (st2 := [.int 1, .ref 67]) (h2 := (sh_rep m.T (sh_u2 (sh_u2 m.I 66 43 x2) 66 44 x3) m.J)) rfl rfl rfl ?_
        refine sh_w (i := (.goto 4)) (len := 3) (pc2 := 249) (lv2 := [(0, .ref 67), (1, .int x1), (2, .int x2), (3, .int x3), (4, .long x4), (6, .long x6)]) (st2 := [.int 1, .ref 67]) (h2 := (sh_rep m.T (sh_u2 (sh_u2 m.I 66 43 x2) 66 44 x3) m.J)) rfl rfl rfl ?_
        exact kk
      exact sh_Lk_sub (sh_sub_n) (sl_305_249 e tg)
  rcases sh_ite e with ⟨c, e⟩ | ⟨c10, e⟩
  · refine sh_Lk_lift (T := m.T) (I := sh_u2 (sh_u2 m.I 66 43 x2) 66 44 x3) (J := m.J) (s := m.s) (pc2 := 291) (lv2 := [(0, .ref 67), (1, .int x1), (2, .int x2), (3, .int x3), (4, .long x4), (6, .long x6)]) (st2 := [.long x4, .long x6, .int x2, .ref 67]) (I2 := sh_u2 (sh_u2 m.I 66 43 x2) 66 44 x3) (J2 := m.J) (fun hT v kk => ?_) ?_
    · refine sh_w (i := (.lookupswitch 391 #[(38, 154), (42, 354), (43, 320), (45, 337), (47, 371), (60, 244), (62, 259), (94, 179), (124, 129), (8509, 224), (9766, 154), (15421, 274), (15677, 204), (15933, 297), (31868, 129)])) (len := 129) (pc2 := 285) (lv2 := [(0, .ref 67), (1, .int x1), (2, .int x2), (3, .int x3), (4, .long x4), (6, .long x6)]) (st2 := []) (h2 := (sh_rep m.T (sh_u2 (sh_u2 m.I 66 43 x2) 66 44 x3) m.J)) rfl rfl (sh_sw c rfl) ?_
      refine sh_w (i := (.aload_n 0)) (len := 1) (pc2 := 286) (lv2 := [(0, .ref 67), (1, .int x1), (2, .int x2), (3, .int x3), (4, .long x4), (6, .long x6)]) (st2 := [.ref 67]) (h2 := (sh_rep m.T (sh_u2 (sh_u2 m.I 66 43 x2) 66 44 x3) m.J)) rfl rfl rfl ?_
      refine sh_w (i := (.iload_n 2)) (len := 1) (pc2 := 287) (lv2 := [(0, .ref 67), (1, .int x1), (2, .int x2), (3, .int x3), (4, .long x4), (6, .long x6)]) (st2 := [.int x2, .ref 67]) (h2 := (sh_rep m.T (sh_u2 (sh_u2 m.I 66 43 x2) 66 44 x3) m.J)) rfl rfl rfl ?_
      refine sh_w (i := (.lload 6)) (len := 2) (pc2 := 289) (lv2 := [(0, .ref 67), (1, .int x1), (2, .int x2), (3, .int x3), (4, .long x4), (6, .long x6)]) (st2 := [.long x6, .int x2, .ref 67]) (h2 := (sh_rep m.T (sh_u2 (sh_u2 m.I 66 43 x2) 66 44 x3) m.J)) rfl rfl rfl ?_
      refine sh_w (i := (.lload 4)) (len := 2) (pc2 := 291) (lv2 := [(0, .ref 67), (1, .int x1), (2, .int x2), (3, .int x3), (4, .long x4), (6, .long x6)]) (st2 := [.long x4, .long x6, .int x2, .ref 67]) (h2 := (sh_rep m.T (sh_u2 (sh_u2 m.I 66 43 x2) 66 44 x3) m.J)) rfl rfl rfl ?_
      exact kk
    refine sh_Lk_cS (r := (some (.int (sh_b2 (sf_307 x2 x6 x4))))) (st2 := [.int (sh_b2 (sf_307 x2 x6 x4)), .ref 67]) (pc2 := 294) (k2 := 307) (as := [.int x2, .long x6, .long x4]) (rest := [.ref 67]) rfl rfl (by decide) (Nat.le_of_ble_eq_true rfl) rfl rfl ⟨Nat.le_of_ble_eq_true rfl, Nat.le_of_ble_eq_true rfl⟩ (sl_307 (m := ⟨m.T, sh_u2 (sh_u2 m.I 66 43 x2) 66 44 x3, m.J, m.s⟩) rfl ⟨rfl, rfl⟩) rfl rfl (Nat.le_of_ble_eq_true rfl) (Nat.le_of_ble_eq_true rfl) ?_
    rcases sh_ite e with ⟨c, e⟩ | ⟨c, e⟩
    · refine sh_Lk_lift (T := m.T) (I := sh_u2 (sh_u2 m.I 66 43 x2) 66 44 x3) (J := m.J) (s := m.s) (pc2 := 302) (lv2 := [(0, .ref 67), (1, .int x1), (2, .int x2), (3, .int x3), (4, .long x4), (6, .long x6)]) (st2 := [.int 0, .ref 67]) (I2 := sh_u2 (sh_u2 m.I 66 43 x2) 66 44 x3) (J2 := m.J) (fun hT v kk => ?_) ?_
      · refine sh_j0 (c := .ne) (off := (7)) (pc2 := 301) true rfl (sh_Znet c) rfl ?_
        refine sh_w (i := (.iconst 0)) (len := 1) (pc2 := 302) (lv2 := [(0, .ref 67), (1, .int x1), (2, .int x2), (3, .int x3), (4, .long x4), (6, .long x6)]) (st2 := [.int 0, .ref 67]) (h2 := (sh_rep m.T (sh_u2 (sh_u2 m.I 66 43 x2) 66 44 x3) m.J)) rfl rfl rfl ?_
        exact kk
      exact sh_Lk_sub (sh_sub_n) (sl_305_302 e tg)
    · refine sh_Lk_lift (T := m.T) (I := sh_u2 (sh_u2 m.I 66 43 x2) 66 44 x3) (J := m.J) (s := m.s) (pc2 := 302) (lv2 := [(0, .ref 67), (1, .int x1), (2, .int x2), (3, .int x3), (4, .long x4), (6, .long x6)]) (st2 := [.int 1, .ref 67]) (I2 := sh_u2 (sh_u2 m.I 66 43 x2) 66 44 x3) (J2 := m.J) (fun hT v kk => ?_) ?_
      · refine sh_j0 (c := .ne) (off := (7)) (pc2 := 297) false rfl (sh_Znef c) rfl ?_
        refine sh_w (i := (.iconst 1)) (len := 1) (pc2 := 298) (lv2 := [(0, .ref 67), (1, .int x1), (2, .int x2), (3, .int x3), (4, .long x4), (6, .long x6)]) (st2 := [.int 1, .ref 67]) (h2 := (sh_rep m.T (sh_u2 (sh_u2 m.I 66 43 x2) 66 44 x3) m.J)) rfl rfl rfl ?_
        refine sh_w (i := (.goto 4)) (len := 3) (pc2 := 302) (lv2 := [(0, .ref 67), (1, .int x1), (2, .int x2), (3, .int x3), (4, .long x4), (6, .long x6)]) (st2 := [.int 1, .ref 67]) (h2 := (sh_rep m.T (sh_u2 (sh_u2 m.I 66 43 x2) 66 44 x3) m.J)) rfl rfl rfl ?_
        exact kk
      exact sh_Lk_sub (sh_sub_n) (sl_305_302 e tg)
  rcases sh_ite e with ⟨c, e⟩ | ⟨c11, e⟩
  · refine sh_Lk_lift (T := m.T) (I := sh_u2 (sh_u2 m.I 66 43 x2) 66 44 x3) (J := m.J) (s := m.s) (pc2 := 221) (lv2 := [(0, .ref 67), (1, .int x1), (2, .int x2), (3, .int x3), (4, .long x4), (6, .long x6)]) (st2 := [.int (lg_cmp x4 x6), .ref 67]) (I2 := sh_u2 (sh_u2 m.I 66 43 x2) 66 44 x3) (J2 := m.J) (fun hT v kk => ?_) ?_
    · refine sh_w (i := (.lookupswitch 391 #[(38, 154), (42, 354), (43, 320), (45, 337), (47, 371), (60, 244), (62, 259), (94, 179), (124, 129), (8509, 224), (9766, 154), (15421, 274), (15677, 204), (15933, 297), (31868, 129)])) (len := 129) (pc2 := 215) (lv2 := [(0, .ref 67), (1, .int x1), (2, .int x2), (3, .int x3), (4, .long x4), (6, .long x6)]) (st2 := []) (h2 := (sh_rep m.T (sh_u2 (sh_u2 m.I 66 43 x2) 66 44 x3) m.J)) rfl rfl (sh_sw c rfl) ?_
      refine sh_w (i := (.aload_n 0)) (len := 1) (pc2 := 216) (lv2 := [(0, .ref 67), (1, .int x1), (2, .int x2), (3, .int x3), (4, .long x4), (6, .long x6)]) (st2 := [.ref 67]) (h2 := (sh_rep m.T (sh_u2 (sh_u2 m.I 66 43 x2) 66 44 x3) m.J)) rfl rfl rfl ?_
      refine sh_w (i := (.lload 4)) (len := 2) (pc2 := 218) (lv2 := [(0, .ref 67), (1, .int x1), (2, .int x2), (3, .int x3), (4, .long x4), (6, .long x6)]) (st2 := [.long x4, .ref 67]) (h2 := (sh_rep m.T (sh_u2 (sh_u2 m.I 66 43 x2) 66 44 x3) m.J)) rfl rfl rfl ?_
      refine sh_w (i := (.lload 6)) (len := 2) (pc2 := 220) (lv2 := [(0, .ref 67), (1, .int x1), (2, .int x2), (3, .int x3), (4, .long x4), (6, .long x6)]) (st2 := [.long x6, .long x4, .ref 67]) (h2 := (sh_rep m.T (sh_u2 (sh_u2 m.I 66 43 x2) 66 44 x3) m.J)) rfl rfl rfl ?_
      refine sh_w (i := .lcmp) (len := 1) (pc2 := 221) (lv2 := [(0, .ref 67), (1, .int x1), (2, .int x2), (3, .int x3), (4, .long x4), (6, .long x6)]) (st2 := [.int (lg_cmp x4 x6), .ref 67]) (h2 := (sh_rep m.T (sh_u2 (sh_u2 m.I 66 43 x2) 66 44 x3) m.J)) rfl rfl rfl ?_
      exact kk
    rcases sh_ite e with ⟨c, e⟩ | ⟨c, e⟩
    · refine sh_Lk_lift (T := m.T) (I := sh_u2 (sh_u2 m.I 66 43 x2) 66 44 x3) (J := m.J) (s := m.s) (pc2 := 229) (lv2 := [(0, .ref 67), (1, .int x1), (2, .int x2), (3, .int x3), (4, .long x4), (6, .long x6)]) (st2 := [.int 1, .ref 67]) (I2 := sh_u2 (sh_u2 m.I 66 43 x2) 66 44 x3) (J2 := m.J) (fun hT v kk => ?_) ?_
      · refine sh_j0 (c := .ne) (off := (7)) (pc2 := 224) false rfl (sh_Cnef c) rfl ?_
        refine sh_w (i := (.iconst 1)) (len := 1) (pc2 := 225) (lv2 := [(0, .ref 67), (1, .int x1), (2, .int x2), (3, .int x3), (4, .long x4), (6, .long x6)]) (st2 := [.int 1, .ref 67]) (h2 := (sh_rep m.T (sh_u2 (sh_u2 m.I 66 43 x2) 66 44 x3) m.J)) rfl rfl rfl ?_
        refine sh_w (i := (.goto 4)) (len := 3) (pc2 := 229) (lv2 := [(0, .ref 67), (1, .int x1), (2, .int x2), (3, .int x3), (4, .long x4), (6, .long x6)]) (st2 := [.int 1, .ref 67]) (h2 := (sh_rep m.T (sh_u2 (sh_u2 m.I 66 43 x2) 66 44 x3) m.J)) rfl rfl rfl ?_
        exact kk
      exact sh_Lk_sub (sh_sub_n) (sl_305_229 e tg)
    · refine sh_Lk_lift (T := m.T) (I := sh_u2 (sh_u2 m.I 66 43 x2) 66 44 x3) (J := m.J) (s := m.s) (pc2 := 229) (lv2 := [(0, .ref 67), (1, .int x1), (2, .int x2), (3, .int x3), (4, .long x4), (6, .long x6)]) (st2 := [.int 0, .ref 67]) (I2 := sh_u2 (sh_u2 m.I 66 43 x2) 66 44 x3) (J2 := m.J) (fun hT v kk => ?_) ?_
      · refine sh_j0 (c := .ne) (off := (7)) (pc2 := 228) true rfl (sh_Cnet c) rfl ?_
        refine sh_w (i := (.iconst 0)) (len := 1) (pc2 := 229) (lv2 := [(0, .ref 67), (1, .int x1), (2, .int x2), (3, .int x3), (4, .long x4), (6, .long x6)]) (st2 := [.int 0, .ref 67]) (h2 := (sh_rep m.T (sh_u2 (sh_u2 m.I 66 43 x2) 66 44 x3) m.J)) rfl rfl rfl ?_
        exact kk
      exact sh_Lk_sub (sh_sub_n) (sl_305_229 e tg)
  rcases sh_ite e with ⟨c, e⟩ | ⟨c12, e⟩
  · refine sh_Lk_lift (T := m.T) (I := sh_u2 (sh_u2 m.I 66 43 x2) 66 44 x3) (J := m.J) (s := m.s) (pc2 := 314) (lv2 := [(0, .ref 67), (1, .int x1), (2, .int x2), (3, .int x3), (4, .long x4), (6, .long x6)]) (st2 := [.long x6, .long x4, .int x2, .ref 67]) (I2 := sh_u2 (sh_u2 m.I 66 43 x2) 66 44 x3) (J2 := m.J) (fun hT v kk => ?_) ?_
    · refine sh_w (i := (.lookupswitch 391 #[(38, 154), (42, 354), (43, 320), (45, 337), (47, 371), (60, 244), (62, 259), (94, 179), (124, 129), (8509, 224), (9766, 154), (15421, 274), (15677, 204), (15933, 297), (31868, 129)])) (len := 129) (pc2 := 308) (lv2 := [(0, .ref 67), (1, .int x1), (2, .int x2), (3, .int x3), (4, .long x4), (6, .long x6)]) (st2 := []) (h2 := (sh_rep m.T (sh_u2 (sh_u2 m.I 66 43 x2) 66 44 x3) m.J)) rfl rfl (sh_sw c rfl) ?_
      refine sh_w (i := (.aload_n 0)) (len := 1) (pc2 := 309) (lv2 := [(0, .ref 67), (1, .int x1), (2, .int x2), (3, .int x3), (4, .long x4), (6, .long x6)]) (st2 := [.ref 67]) (h2 := (sh_rep m.T (sh_u2 (sh_u2 m.I 66 43 x2) 66 44 x3) m.J)) rfl rfl rfl ?_
      refine sh_w (i := (.iload_n 2)) (len := 1) (pc2 := 310) (lv2 := [(0, .ref 67), (1, .int x1), (2, .int x2), (3, .int x3), (4, .long x4), (6, .long x6)]) (st2 := [.int x2, .ref 67]) (h2 := (sh_rep m.T (sh_u2 (sh_u2 m.I 66 43 x2) 66 44 x3) m.J)) rfl rfl rfl ?_
      refine sh_w (i := (.lload 4)) (len := 2) (pc2 := 312) (lv2 := [(0, .ref 67), (1, .int x1), (2, .int x2), (3, .int x3), (4, .long x4), (6, .long x6)]) (st2 := [.long x4, .int x2, .ref 67]) (h2 := (sh_rep m.T (sh_u2 (sh_u2 m.I 66 43 x2) 66 44 x3) m.J)) rfl rfl rfl ?_
      refine sh_w (i := (.lload 6)) (len := 2) (pc2 := 314) (lv2 := [(0, .ref 67), (1, .int x1), (2, .int x2), (3, .int x3), (4, .long x4), (6, .long x6)]) (st2 := [.long x6, .long x4, .int x2, .ref 67]) (h2 := (sh_rep m.T (sh_u2 (sh_u2 m.I 66 43 x2) 66 44 x3) m.J)) rfl rfl rfl ?_
      exact kk
    refine sh_Lk_cS (r := (some (.int (sh_b2 (sf_307 x2 x4 x6))))) (st2 := [.int (sh_b2 (sf_307 x2 x4 x6)), .ref 67]) (pc2 := 317) (k2 := 307) (as := [.int x2, .long x4, .long x6]) (rest := [.ref 67]) rfl rfl (by decide) (Nat.le_of_ble_eq_true rfl) rfl rfl ⟨Nat.le_of_ble_eq_true rfl, Nat.le_of_ble_eq_true rfl⟩ (sl_307 (m := ⟨m.T, sh_u2 (sh_u2 m.I 66 43 x2) 66 44 x3, m.J, m.s⟩) rfl ⟨rfl, rfl⟩) rfl rfl (Nat.le_of_ble_eq_true rfl) (Nat.le_of_ble_eq_true rfl) ?_
    rcases sh_ite e with ⟨c, e⟩ | ⟨c, e⟩
    · refine sh_Lk_lift (T := m.T) (I := sh_u2 (sh_u2 m.I 66 43 x2) 66 44 x3) (J := m.J) (s := m.s) (pc2 := 325) (lv2 := [(0, .ref 67), (1, .int x1), (2, .int x2), (3, .int x3), (4, .long x4), (6, .long x6)]) (st2 := [.int 0, .ref 67]) (I2 := sh_u2 (sh_u2 m.I 66 43 x2) 66 44 x3) (J2 := m.J) (fun hT v kk => ?_) ?_
      · refine sh_j0 (c := .ne) (off := (7)) (pc2 := 324) true rfl (sh_Znet c) rfl ?_
        refine sh_w (i := (.iconst 0)) (len := 1) (pc2 := 325) (lv2 := [(0, .ref 67), (1, .int x1), (2, .int x2), (3, .int x3), (4, .long x4), (6, .long x6)]) (st2 := [.int 0, .ref 67]) (h2 := (sh_rep m.T (sh_u2 (sh_u2 m.I 66 43 x2) 66 44 x3) m.J)) rfl rfl rfl ?_
        exact kk
      exact sh_Lk_sub (sh_sub_n) (sl_305_325 e tg)
    · refine sh_Lk_lift (T := m.T) (I := sh_u2 (sh_u2 m.I 66 43 x2) 66 44 x3) (J := m.J) (s := m.s) (pc2 := 325) (lv2 := [(0, .ref 67), (1, .int x1), (2, .int x2), (3, .int x3), (4, .long x4), (6, .long x6)]) (st2 := [.int 1, .ref 67]) (I2 := sh_u2 (sh_u2 m.I 66 43 x2) 66 44 x3) (J2 := m.J) (fun hT v kk => ?_) ?_
      · refine sh_j0 (c := .ne) (off := (7)) (pc2 := 320) false rfl (sh_Znef c) rfl ?_
        refine sh_w (i := (.iconst 1)) (len := 1) (pc2 := 321) (lv2 := [(0, .ref 67), (1, .int x1), (2, .int x2), (3, .int x3), (4, .long x4), (6, .long x6)]) (st2 := [.int 1, .ref 67]) (h2 := (sh_rep m.T (sh_u2 (sh_u2 m.I 66 43 x2) 66 44 x3) m.J)) rfl rfl rfl ?_
        refine sh_w (i := (.goto 4)) (len := 3) (pc2 := 325) (lv2 := [(0, .ref 67), (1, .int x1), (2, .int x2), (3, .int x3), (4, .long x4), (6, .long x6)]) (st2 := [.int 1, .ref 67]) (h2 := (sh_rep m.T (sh_u2 (sh_u2 m.I 66 43 x2) 66 44 x3) m.J)) rfl rfl rfl ?_
        exact kk
      exact sh_Lk_sub (sh_sub_n) (sl_305_325 e tg)
  refine sh_Lk_lift (T := m.T) (I := sh_u2 (sh_u2 m.I 66 43 x2) 66 44 x3) (J := m.J) (s := m.s) (pc2 := 409) (lv2 := [(0, .ref 67), (1, .int x1), (2, .int x2), (3, .int x3), (4, .long x4), (6, .long x6)]) (st2 := [.int (lg_cmp x6 0), .int x3, .int x2, .ref 67]) (I2 := sh_u2 (sh_u2 m.I 66 43 x2) 66 44 x3) (J2 := m.J) (fun hT v kk => ?_) ?_
  · refine sh_w (i := (.lookupswitch 391 #[(38, 154), (42, 354), (43, 320), (45, 337), (47, 371), (60, 244), (62, 259), (94, 179), (124, 129), (8509, 224), (9766, 154), (15421, 274), (15677, 204), (15933, 297), (31868, 129)])) (len := 129) (pc2 := 402) (lv2 := [(0, .ref 67), (1, .int x1), (2, .int x2), (3, .int x3), (4, .long x4), (6, .long x6)]) (st2 := []) (h2 := (sh_rep m.T (sh_u2 (sh_u2 m.I 66 43 x2) 66 44 x3) m.J)) rfl rfl (sh_swl rfl (sh_fc (fun h => c0 (Or.inl h)) (sh_fc (fun h => c1 (h)) (sh_fc (fun h => c2 (h)) (sh_fc (fun h => c3 (h)) (sh_fc (fun h => c4 (h)) (sh_fc (fun h => c5 (h)) (sh_fc (fun h => c6 (h)) (sh_fc (fun h => c7 (h)) (sh_fc (fun h => c8 (Or.inl h)) (sh_fc (fun h => c9 (h)) (sh_fc (fun h => c0 (Or.inr (h))) (sh_fc (fun h => c10 (h)) (sh_fc (fun h => c11 (h)) (sh_fc (fun h => c12 (h)) (sh_fc (fun h => c8 (Or.inr (h))) sh_fn))))))))))))))) rfl) ?_
    refine sh_w (i := (.aload_n 0)) (len := 1) (pc2 := 403) (lv2 := [(0, .ref 67), (1, .int x1), (2, .int x2), (3, .int x3), (4, .long x4), (6, .long x6)]) (st2 := [.ref 67]) (h2 := (sh_rep m.T (sh_u2 (sh_u2 m.I 66 43 x2) 66 44 x3) m.J)) rfl rfl rfl ?_
    refine sh_w (i := (.iload_n 2)) (len := 1) (pc2 := 404) (lv2 := [(0, .ref 67), (1, .int x1), (2, .int x2), (3, .int x3), (4, .long x4), (6, .long x6)]) (st2 := [.int x2, .ref 67]) (h2 := (sh_rep m.T (sh_u2 (sh_u2 m.I 66 43 x2) 66 44 x3) m.J)) rfl rfl rfl ?_
    refine sh_w (i := (.iload_n 3)) (len := 1) (pc2 := 405) (lv2 := [(0, .ref 67), (1, .int x1), (2, .int x2), (3, .int x3), (4, .long x4), (6, .long x6)]) (st2 := [.int x3, .int x2, .ref 67]) (h2 := (sh_rep m.T (sh_u2 (sh_u2 m.I 66 43 x2) 66 44 x3) m.J)) rfl rfl rfl ?_
    refine sh_w (i := (.lload 6)) (len := 2) (pc2 := 407) (lv2 := [(0, .ref 67), (1, .int x1), (2, .int x2), (3, .int x3), (4, .long x4), (6, .long x6)]) (st2 := [.long x6, .int x3, .int x2, .ref 67]) (h2 := (sh_rep m.T (sh_u2 (sh_u2 m.I 66 43 x2) 66 44 x3) m.J)) rfl rfl rfl ?_
    refine sh_w (i := (.lconst 0)) (len := 1) (pc2 := 408) (lv2 := [(0, .ref 67), (1, .int x1), (2, .int x2), (3, .int x3), (4, .long x4), (6, .long x6)]) (st2 := [.long 0, .long x6, .int x3, .int x2, .ref 67]) (h2 := (sh_rep m.T (sh_u2 (sh_u2 m.I 66 43 x2) 66 44 x3) m.J)) rfl rfl rfl ?_
    refine sh_w (i := .lcmp) (len := 1) (pc2 := 409) (lv2 := [(0, .ref 67), (1, .int x1), (2, .int x2), (3, .int x3), (4, .long x4), (6, .long x6)]) (st2 := [.int (lg_cmp x6 0), .int x3, .int x2, .ref 67]) (h2 := (sh_rep m.T (sh_u2 (sh_u2 m.I 66 43 x2) 66 44 x3) m.J)) rfl rfl rfl ?_
    exact kk
  rcases sh_ite e with ⟨c, e⟩ | ⟨c, e⟩
  · refine sh_Lk_lift (T := m.T) (I := sh_u2 (sh_u2 m.I 66 43 x2) 66 44 x3) (J := m.J) (s := m.s) (pc2 := 431) (lv2 := [(0, .ref 67), (1, .int x1), (2, .int x2), (3, .int x3), (4, .long x4), (6, .long x6)]) (st2 := [.long x4, .int x3, .int x2, .ref 67]) (I2 := sh_u2 (sh_u2 m.I 66 43 x2) 66 44 x3) (J2 := m.J) (fun hT v kk => ?_) ?_
    · refine sh_j0 (c := .ne) (off := (8)) (pc2 := 412) false rfl (sh_Cnef c) rfl ?_
      refine sh_w (i := (.lload 4)) (len := 2) (pc2 := 414) (lv2 := [(0, .ref 67), (1, .int x1), (2, .int x2), (3, .int x3), (4, .long x4), (6, .long x6)]) (st2 := [.long x4, .int x3, .int x2, .ref 67]) (h2 := (sh_rep m.T (sh_u2 (sh_u2 m.I 66 43 x2) 66 44 x3) m.J)) rfl rfl rfl ?_
      refine sh_w (i := (.goto 17)) (len := 3) (pc2 := 431) (lv2 := [(0, .ref 67), (1, .int x1), (2, .int x2), (3, .int x3), (4, .long x4), (6, .long x6)]) (st2 := [.long x4, .int x3, .int x2, .ref 67]) (h2 := (sh_rep m.T (sh_u2 (sh_u2 m.I 66 43 x2) 66 44 x3) m.J)) rfl rfl rfl ?_
      exact kk
    exact sh_Lk_sub (sh_sub_n) (sl_305_431 e tg)
  · refine sh_Lk_lift (T := m.T) (I := sh_u2 (sh_u2 m.I 66 43 x2) 66 44 x3) (J := m.J) (s := m.s) (pc2 := 424) (lv2 := [(0, .ref 67), (1, .int x1), (2, .int x2), (3, .int x3), (4, .long x4), (6, .long x6)]) (st2 := [.long x6, .long x4, .int x2, .long x4, .int x3, .int x2, .ref 67]) (I2 := sh_u2 (sh_u2 m.I 66 43 x2) 66 44 x3) (J2 := m.J) (fun hT v kk => ?_) ?_
    · refine sh_j0 (c := .ne) (off := (8)) (pc2 := 417) true rfl (sh_Cnet c) rfl ?_
      refine sh_w (i := (.lload 4)) (len := 2) (pc2 := 419) (lv2 := [(0, .ref 67), (1, .int x1), (2, .int x2), (3, .int x3), (4, .long x4), (6, .long x6)]) (st2 := [.long x4, .int x3, .int x2, .ref 67]) (h2 := (sh_rep m.T (sh_u2 (sh_u2 m.I 66 43 x2) 66 44 x3) m.J)) rfl rfl rfl ?_
      refine sh_w (i := (.iload_n 2)) (len := 1) (pc2 := 420) (lv2 := [(0, .ref 67), (1, .int x1), (2, .int x2), (3, .int x3), (4, .long x4), (6, .long x6)]) (st2 := [.int x2, .long x4, .int x3, .int x2, .ref 67]) (h2 := (sh_rep m.T (sh_u2 (sh_u2 m.I 66 43 x2) 66 44 x3) m.J)) rfl rfl rfl ?_
      refine sh_w (i := (.lload 4)) (len := 2) (pc2 := 422) (lv2 := [(0, .ref 67), (1, .int x1), (2, .int x2), (3, .int x3), (4, .long x4), (6, .long x6)]) (st2 := [.long x4, .int x2, .long x4, .int x3, .int x2, .ref 67]) (h2 := (sh_rep m.T (sh_u2 (sh_u2 m.I 66 43 x2) 66 44 x3) m.J)) rfl rfl rfl ?_
      refine sh_w (i := (.lload 6)) (len := 2) (pc2 := 424) (lv2 := [(0, .ref 67), (1, .int x1), (2, .int x2), (3, .int x3), (4, .long x4), (6, .long x6)]) (st2 := [.long x6, .long x4, .int x2, .long x4, .int x3, .int x2, .ref 67]) (h2 := (sh_rep m.T (sh_u2 (sh_u2 m.I 66 43 x2) 66 44 x3) m.J)) rfl rfl rfl ?_
      exact kk
    obtain ⟨r12, e12, e⟩ := sh_bc_e e
    refine sh_Lk_cS (r := (some (.long r12))) (st2 := [.long r12, .long x4, .int x3, .int x2, .ref 67]) (pc2 := 427) (k2 := 308) (as := [.int x2, .long x4, .long x6]) (rest := [.long x4, .int x3, .int x2, .ref 67]) rfl rfl (by decide) (Nat.le_of_ble_eq_true rfl) rfl rfl ⟨Nat.le_of_ble_eq_true rfl, Nat.le_of_ble_eq_true rfl⟩ (sl_308 e12 ⟨rfl, rfl⟩) rfl rfl (Nat.le_of_ble_eq_true rfl) (Nat.le_of_ble_eq_true rfl) ?_
    refine sh_Lk_lift (T := m.T) (I := sh_u2 (sh_u2 m.I 66 43 x2) 66 44 x3) (J := m.J) (s := m.s) (pc2 := 431) (lv2 := [(0, .ref 67), (1, .int x1), (2, .int x2), (3, .int x3), (4, .long x4), (6, .long x6)]) (st2 := [.long (x4 - (r12 * x6)), .int x3, .int x2, .ref 67]) (I2 := sh_u2 (sh_u2 m.I 66 43 x2) 66 44 x3) (J2 := m.J) (fun hT v kk => ?_) ?_
    · refine sh_w (i := (.lload 6)) (len := 2) (pc2 := 429) (lv2 := [(0, .ref 67), (1, .int x1), (2, .int x2), (3, .int x3), (4, .long x4), (6, .long x6)]) (st2 := [.long x6, .long r12, .long x4, .int x3, .int x2, .ref 67]) (h2 := (sh_rep m.T (sh_u2 (sh_u2 m.I 66 43 x2) 66 44 x3) m.J)) rfl rfl rfl ?_
      refine sh_w (i := .lmul) (len := 1) (pc2 := 430) (lv2 := [(0, .ref 67), (1, .int x1), (2, .int x2), (3, .int x3), (4, .long x4), (6, .long x6)]) (st2 := [.long (r12 * x6), .long x4, .int x3, .int x2, .ref 67]) (h2 := (sh_rep m.T (sh_u2 (sh_u2 m.I 66 43 x2) 66 44 x3) m.J)) rfl rfl rfl ?_
      refine sh_w (i := .lsub) (len := 1) (pc2 := 431) (lv2 := [(0, .ref 67), (1, .int x1), (2, .int x2), (3, .int x3), (4, .long x4), (6, .long x6)]) (st2 := [.long (x4 - (r12 * x6)), .int x3, .int x2, .ref 67]) (h2 := (sh_rep m.T (sh_u2 (sh_u2 m.I 66 43 x2) 66 44 x3) m.J)) rfl rfl rfl ?_
      exact kk
    exact sh_Lk_sub (sh_sub_n) (sl_305_431 e tg)
theorem sl_303_369 {x1 : Int32} {x5 : Int64} {x7 : Int32} {x8 : Int32} {x9 : Int32} {y0 : Int32} {m m2 : sh_X} {o : Outcome} {z : (Bool × sh_X)} (e : sf_303_369 x1 x5 x7 x8 x9 y0 m = some z) (tg : (sh_tZ o m2) z) : sh_Lk 303 369 [(0, .ref 67), (1, .int x1), (5, .long x5), (7, .int x7), (8, .int x8), (9, .int x9)] [.int y0] m o m2 13 326 := by
  unfold sf_303_369 at e
  refine sh_Lk_lift (T := m.T) (I := m.I) (J := m.J) (s := m.s) (pc2 := 384) (lv2 := [(15, .int y0), (0, .ref 67), (1, .int x1), (5, .long x5), (7, .int x7), (8, .int x8), (9, .int x9)]) (st2 := [.long (m.J 66 46), .long x5, .int x9, .int x8, .int x7, .ref 67]) (I2 := m.I) (J2 := m.J) (fun hT v kk => ?_) ?_
  · refine sh_w (i := (.istore 15)) (len := 2) (pc2 := 371) (lv2 := [(15, .int y0), (0, .ref 67), (1, .int x1), (5, .long x5), (7, .int x7), (8, .int x8), (9, .int x9)]) (st2 := []) (h2 := (sh_rep m.T m.I m.J)) rfl rfl rfl ?_
    refine sh_w (i := (.aload_n 0)) (len := 1) (pc2 := 372) (lv2 := [(15, .int y0), (0, .ref 67), (1, .int x1), (5, .long x5), (7, .int x7), (8, .int x8), (9, .int x9)]) (st2 := [.ref 67]) (h2 := (sh_rep m.T m.I m.J)) rfl rfl rfl ?_
    refine sh_w (i := (.iload 7)) (len := 2) (pc2 := 374) (lv2 := [(15, .int y0), (0, .ref 67), (1, .int x1), (5, .long x5), (7, .int x7), (8, .int x8), (9, .int x9)]) (st2 := [.int x7, .ref 67]) (h2 := (sh_rep m.T m.I m.J)) rfl rfl rfl ?_
    refine sh_w (i := (.iload 8)) (len := 2) (pc2 := 376) (lv2 := [(15, .int y0), (0, .ref 67), (1, .int x1), (5, .long x5), (7, .int x7), (8, .int x8), (9, .int x9)]) (st2 := [.int x8, .int x7, .ref 67]) (h2 := (sh_rep m.T m.I m.J)) rfl rfl rfl ?_
    refine sh_w (i := (.iload 9)) (len := 2) (pc2 := 378) (lv2 := [(15, .int y0), (0, .ref 67), (1, .int x1), (5, .long x5), (7, .int x7), (8, .int x8), (9, .int x9)]) (st2 := [.int x9, .int x8, .int x7, .ref 67]) (h2 := (sh_rep m.T m.I m.J)) rfl rfl rfl ?_
    refine sh_w (i := (.lload 5)) (len := 2) (pc2 := 380) (lv2 := [(15, .int y0), (0, .ref 67), (1, .int x1), (5, .long x5), (7, .int x7), (8, .int x8), (9, .int x9)]) (st2 := [.long x5, .int x9, .int x8, .int x7, .ref 67]) (h2 := (sh_rep m.T m.I m.J)) rfl rfl rfl ?_
    refine sh_w (i := (.aload_n 0)) (len := 1) (pc2 := 381) (lv2 := [(15, .int y0), (0, .ref 67), (1, .int x1), (5, .long x5), (7, .int x7), (8, .int x8), (9, .int x9)]) (st2 := [.ref 67, .long x5, .int x9, .int x8, .int x7, .ref 67]) (h2 := (sh_rep m.T m.I m.J)) rfl rfl rfl ?_
    refine sh_gJ1 (len := 3) (x := m.J 66 46) (pc2 := 384) rfl rfl (sh_s66 hT.st) rfl rfl rfl ?_
    exact kk
  obtain ⟨r1, m11, e1, e⟩ := sh_bn_e e
  refine sh_Lk_cV (r := none) (st2 := []) (pc2 := 387) (k2 := 305) (a := 66) (as := [.ref 67, .int x7, .int x8, .int x9, .long x5, .long (m.J 66 46)]) (rest := []) rfl rfl rfl (fun hT => (sh_s66 hT.st)) rfl rfl ⟨Nat.le_of_ble_eq_true rfl, Nat.le_of_ble_eq_true rfl⟩ (sl_305 e1 ⟨rfl, rfl⟩) rfl rfl (Nat.le_of_ble_eq_true rfl) (Nat.le_of_ble_eq_true rfl) ?_
  refine sh_Lk_lift (T := m11.T) (I := m11.I) (J := m11.J) (s := m11.s) (pc2 := 395) (lv2 := [(15, .int y0), (0, .ref 67), (1, .int x1), (5, .long x5), (7, .int x7), (8, .int x8), (9, .int x9)]) (st2 := [.int x1, .ref 74, .int y0, .ref 67]) (I2 := m11.I) (J2 := m11.J) (fun hT v kk => ?_) ?_
  · refine sh_w (i := (.aload_n 0)) (len := 1) (pc2 := 388) (lv2 := [(15, .int y0), (0, .ref 67), (1, .int x1), (5, .long x5), (7, .int x7), (8, .int x8), (9, .int x9)]) (st2 := [.ref 67]) (h2 := (sh_rep m11.T m11.I m11.J)) rfl rfl rfl ?_
    refine sh_w (i := (.iload 15)) (len := 2) (pc2 := 390) (lv2 := [(15, .int y0), (0, .ref 67), (1, .int x1), (5, .long x5), (7, .int x7), (8, .int x8), (9, .int x9)]) (st2 := [.int y0, .ref 67]) (h2 := (sh_rep m11.T m11.I m11.J)) rfl rfl rfl ?_
    refine sh_w (i := (.aload_n 0)) (len := 1) (pc2 := 391) (lv2 := [(15, .int y0), (0, .ref 67), (1, .int x1), (5, .long x5), (7, .int x7), (8, .int x8), (9, .int x9)]) (st2 := [.ref 67, .int y0, .ref 67]) (h2 := (sh_rep m11.T m11.I m11.J)) rfl rfl rfl ?_
    refine sh_gR1 (len := 3) (x := .ref 74) (pc2 := 394) rfl rfl (sh_s66 hT.st) rfl rfl ?_
    refine sh_w (i := (.iload_n 1)) (len := 1) (pc2 := 395) (lv2 := [(15, .int y0), (0, .ref 67), (1, .int x1), (5, .long x5), (7, .int x7), (8, .int x8), (9, .int x9)]) (st2 := [.int x1, .ref 74, .int y0, .ref 67]) (h2 := (sh_rep m11.T m11.I m11.J)) rfl rfl rfl ?_
    exact kk
  obtain ⟨c, e⟩ := sh_gd e
  refine sh_Lk_lift (T := m11.T) (I := m11.I) (J := m11.J) (s := m11.s) (pc2 := 396) (lv2 := [(15, .int y0), (0, .ref 67), (1, .int x1), (5, .long x5), (7, .int x7), (8, .int x8), (9, .int x9)]) (st2 := [.int (m11.I 73 (Int32.toNatClampNeg x1)), .int y0, .ref 67]) (I2 := m11.I) (J2 := m11.J) (fun hT v kk => ?_) ?_
  · refine sh_ia1 (x := m11.I 73 (Int32.toNatClampNeg x1)) (pc2 := 396) rfl (sh_s73 hT.st) (sh_okb1 c) (sh_okb2 c) rfl rfl ?_
    exact kk
  obtain ⟨r2, m12, e2, e⟩ := sh_bn_e e
  refine sh_Lk_cV (r := (some (.int (sh_b2 r2)))) (st2 := [.int (sh_b2 r2)]) (pc2 := 399) (k2 := 292) (a := 66) (as := [.ref 67, .int y0, .int (m11.I 73 (Int32.toNatClampNeg x1))]) (rest := []) rfl rfl rfl (fun hT => (sh_s66 hT.st)) rfl rfl ⟨Nat.le_of_ble_eq_true rfl, Nat.le_of_ble_eq_true rfl⟩ (sl_292 e2 ⟨rfl, rfl⟩) rfl rfl (Nat.le_of_ble_eq_true rfl) (Nat.le_of_ble_eq_true rfl) ?_
  obtain rfl := Option.some.inj e
  obtain ⟨rfl, rfl⟩ := tg
  exact sh_Lk_ret (i := .ireturn) rfl rfl (sh_rb rfl _) (Nat.le_of_ble_eq_true rfl) (Nat.le_of_ble_eq_true rfl)
theorem sl_303_357 {x1 : Int32} {x5 : Int64} {x7 : Int32} {x8 : Int32} {x9 : Int32} {m m2 : sh_X} {o : Outcome} {z : (Bool × sh_X)} (e : sf_303_357 x1 x5 x7 x8 x9 m = some z) (tg : (sh_tZ o m2) z) : sh_Lk 303 357 [(0, .ref 67), (1, .int x1), (5, .long x5), (7, .int x7), (8, .int x8), (9, .int x9)] [] m o m2 13 326 := by
  unfold sf_303_357 at e
  refine sh_Lk_lift (T := m.T) (I := m.I) (J := m.J) (s := m.s) (pc2 := 369) (lv2 := [(0, .ref 67), (1, .int x1), (5, .long x5), (7, .int x7), (8, .int x8), (9, .int x9)]) (st2 := [.int ((2 * x9) * x9)]) (I2 := m.I) (J2 := m.J) (fun hT v kk => ?_) ?_
  · refine sh_w (i := (.iconst 2)) (len := 1) (pc2 := 358) (lv2 := [(0, .ref 67), (1, .int x1), (5, .long x5), (7, .int x7), (8, .int x8), (9, .int x9)]) (st2 := [.int 2]) (h2 := (sh_rep m.T m.I m.J)) rfl rfl rfl ?_
    refine sh_w (i := (.iload 9)) (len := 2) (pc2 := 360) (lv2 := [(0, .ref 67), (1, .int x1), (5, .long x5), (7, .int x7), (8, .int x8), (9, .int x9)]) (st2 := [.int x9, .int 2]) (h2 := (sh_rep m.T m.I m.J)) rfl rfl rfl ?_
    refine sh_w (i := .imul) (len := 1) (pc2 := 361) (lv2 := [(0, .ref 67), (1, .int x1), (5, .long x5), (7, .int x7), (8, .int x8), (9, .int x9)]) (st2 := [.int (2 * x9)]) (h2 := (sh_rep m.T m.I m.J)) rfl rfl rfl ?_
    refine sh_w (i := (.iload 9)) (len := 2) (pc2 := 363) (lv2 := [(0, .ref 67), (1, .int x1), (5, .long x5), (7, .int x7), (8, .int x8), (9, .int x9)]) (st2 := [.int x9, .int (2 * x9)]) (h2 := (sh_rep m.T m.I m.J)) rfl rfl rfl ?_
    refine sh_w (i := .imul) (len := 1) (pc2 := 364) (lv2 := [(0, .ref 67), (1, .int x1), (5, .long x5), (7, .int x7), (8, .int x8), (9, .int x9)]) (st2 := [.int ((2 * x9) * x9)]) (h2 := (sh_rep m.T m.I m.J)) rfl rfl rfl ?_
    refine sh_w (i := (.goto 5)) (len := 3) (pc2 := 369) (lv2 := [(0, .ref 67), (1, .int x1), (5, .long x5), (7, .int x7), (8, .int x8), (9, .int x9)]) (st2 := [.int ((2 * x9) * x9)]) (h2 := (sh_rep m.T m.I m.J)) rfl rfl rfl ?_
    exact kk
  exact sh_Lk_sub (sh_sub_c rfl (sh_sub_c rfl (sh_sub_c rfl (sh_sub_c rfl (sh_sub_c rfl (sh_sub_c rfl (sh_sub_n))))))) (sl_303_369 e tg)
theorem sl_303_304 {x1 : Int32} {x5 : Int64} {x7 : Int32} {x8 : Int32} {x9 : Int32} {y0 : Bool} {m m2 : sh_X} {o : Outcome} {z : (Bool × sh_X)} (e : sf_303_304 x1 x5 x7 x8 x9 y0 m = some z) (tg : (sh_tZ o m2) z) : sh_Lk 303 304 [(0, .ref 67), (1, .int x1), (5, .long x5), (7, .int x7), (8, .int x8), (9, .int x9)] [.int (sh_b2 y0)] m o m2 13 326 := by
  unfold sf_303_304 at e
  refine sh_Lk_lift (T := m.T) (I := m.I) (J := m.J) (s := m.s) (pc2 := 308) (lv2 := [(14, .int (sh_b2 y0)), (0, .ref 67), (1, .int x1), (5, .long x5), (7, .int x7), (8, .int x8), (9, .int x9)]) (st2 := [.int (sh_b2 y0)]) (I2 := m.I) (J2 := m.J) (fun hT v kk => ?_) ?_
  · refine sh_w (i := (.istore 14)) (len := 2) (pc2 := 306) (lv2 := [(14, .int (sh_b2 y0)), (0, .ref 67), (1, .int x1), (5, .long x5), (7, .int x7), (8, .int x8), (9, .int x9)]) (st2 := []) (h2 := (sh_rep m.T m.I m.J)) rfl rfl rfl ?_
    refine sh_w (i := (.iload 14)) (len := 2) (pc2 := 308) (lv2 := [(14, .int (sh_b2 y0)), (0, .ref 67), (1, .int x1), (5, .long x5), (7, .int x7), (8, .int x8), (9, .int x9)]) (st2 := [.int (sh_b2 y0)]) (h2 := (sh_rep m.T m.I m.J)) rfl rfl rfl ?_
    exact kk
  rcases sh_ite e with ⟨c, e⟩ | ⟨c, e⟩
  · refine sh_Lk_lift (T := m.T) (I := m.I) (J := m.J) (s := m.s) (pc2 := 332) (lv2 := [(14, .int (sh_b2 y0)), (0, .ref 67), (1, .int x1), (5, .long x5), (7, .int x7), (8, .int x8), (9, .int x9)]) (st2 := [.int 42, .int x7]) (I2 := m.I) (J2 := m.J) (fun hT v kk => ?_) ?_
    · refine sh_j0 (c := .ne) (off := (20)) (pc2 := 328) true rfl (sh_Znet c) rfl ?_
      refine sh_w (i := (.iload 7)) (len := 2) (pc2 := 330) (lv2 := [(14, .int (sh_b2 y0)), (0, .ref 67), (1, .int x1), (5, .long x5), (7, .int x7), (8, .int x8), (9, .int x9)]) (st2 := [.int x7]) (h2 := (sh_rep m.T m.I m.J)) rfl rfl rfl ?_
      refine sh_w (i := (.bipush 42)) (len := 2) (pc2 := 332) (lv2 := [(14, .int (sh_b2 y0)), (0, .ref 67), (1, .int x1), (5, .long x5), (7, .int x7), (8, .int x8), (9, .int x9)]) (st2 := [.int 42, .int x7]) (h2 := (sh_rep m.T m.I m.J)) rfl rfl rfl ?_
      exact kk
    rcases sh_ite e with ⟨c, e⟩ | ⟨c, e⟩
    · refine sh_Lk_lift (T := m.T) (I := m.I) (J := m.J) (s := m.s) (pc2 := 369) (lv2 := [(14, .int (sh_b2 y0)), (0, .ref 67), (1, .int x1), (5, .long x5), (7, .int x7), (8, .int x8), (9, .int x9)]) (st2 := [.int (x9 * x9)]) (I2 := m.I) (J2 := m.J) (fun hT v kk => ?_) ?_
      · refine sh_jc (c := .ne) (off := (11)) (pc2 := 335) false rfl (sh_Bnef c) rfl ?_
        refine sh_w (i := (.iload 9)) (len := 2) (pc2 := 337) (lv2 := [(14, .int (sh_b2 y0)), (0, .ref 67), (1, .int x1), (5, .long x5), (7, .int x7), (8, .int x8), (9, .int x9)]) (st2 := [.int x9]) (h2 := (sh_rep m.T m.I m.J)) rfl rfl rfl ?_
        refine sh_w (i := (.iload 9)) (len := 2) (pc2 := 339) (lv2 := [(14, .int (sh_b2 y0)), (0, .ref 67), (1, .int x1), (5, .long x5), (7, .int x7), (8, .int x8), (9, .int x9)]) (st2 := [.int x9, .int x9]) (h2 := (sh_rep m.T m.I m.J)) rfl rfl rfl ?_
        refine sh_w (i := .imul) (len := 1) (pc2 := 340) (lv2 := [(14, .int (sh_b2 y0)), (0, .ref 67), (1, .int x1), (5, .long x5), (7, .int x7), (8, .int x8), (9, .int x9)]) (st2 := [.int (x9 * x9)]) (h2 := (sh_rep m.T m.I m.J)) rfl rfl rfl ?_
        refine sh_w (i := (.goto 29)) (len := 3) (pc2 := 369) (lv2 := [(14, .int (sh_b2 y0)), (0, .ref 67), (1, .int x1), (5, .long x5), (7, .int x7), (8, .int x8), (9, .int x9)]) (st2 := [.int (x9 * x9)]) (h2 := (sh_rep m.T m.I m.J)) rfl rfl rfl ?_
        exact kk
      exact sh_Lk_sub (sh_sub_c rfl (sh_sub_c rfl (sh_sub_c rfl (sh_sub_c rfl (sh_sub_c rfl (sh_sub_c rfl (sh_sub_n))))))) (sl_303_369 e tg)
    · refine sh_Lk_lift (T := m.T) (I := m.I) (J := m.J) (s := m.s) (pc2 := 347) (lv2 := [(14, .int (sh_b2 y0)), (0, .ref 67), (1, .int x1), (5, .long x5), (7, .int x7), (8, .int x8), (9, .int x9)]) (st2 := [.int 47, .int x7]) (I2 := m.I) (J2 := m.J) (fun hT v kk => ?_) ?_
      · refine sh_jc (c := .ne) (off := (11)) (pc2 := 343) true rfl (sh_Bnet c) rfl ?_
        refine sh_w (i := (.iload 7)) (len := 2) (pc2 := 345) (lv2 := [(14, .int (sh_b2 y0)), (0, .ref 67), (1, .int x1), (5, .long x5), (7, .int x7), (8, .int x8), (9, .int x9)]) (st2 := [.int x7]) (h2 := (sh_rep m.T m.I m.J)) rfl rfl rfl ?_
        refine sh_w (i := (.bipush 47)) (len := 2) (pc2 := 347) (lv2 := [(14, .int (sh_b2 y0)), (0, .ref 67), (1, .int x1), (5, .long x5), (7, .int x7), (8, .int x8), (9, .int x9)]) (st2 := [.int 47, .int x7]) (h2 := (sh_rep m.T m.I m.J)) rfl rfl rfl ?_
        exact kk
      rcases sh_ite e with ⟨c, e⟩ | ⟨c, e⟩
      · refine sh_Lk_lift (T := m.T) (I := m.I) (J := m.J) (s := m.s) (pc2 := 357) (lv2 := [(14, .int (sh_b2 y0)), (0, .ref 67), (1, .int x1), (5, .long x5), (7, .int x7), (8, .int x8), (9, .int x9)]) (st2 := []) (I2 := m.I) (J2 := m.J) (fun hT v kk => ?_) ?_
        · refine sh_jc (c := .eq) (off := (10)) (pc2 := 357) true rfl (sh_Beqt c) rfl ?_
          exact kk
        exact sh_Lk_sub (sh_sub_c rfl (sh_sub_c rfl (sh_sub_c rfl (sh_sub_c rfl (sh_sub_c rfl (sh_sub_c rfl (sh_sub_n))))))) (sl_303_357 e tg)
      · refine sh_Lk_lift (T := m.T) (I := m.I) (J := m.J) (s := m.s) (pc2 := 354) (lv2 := [(14, .int (sh_b2 y0)), (0, .ref 67), (1, .int x1), (5, .long x5), (7, .int x7), (8, .int x8), (9, .int x9)]) (st2 := [.int 37, .int x7]) (I2 := m.I) (J2 := m.J) (fun hT v kk => ?_) ?_
        · refine sh_jc (c := .eq) (off := (10)) (pc2 := 350) false rfl (sh_Beqf c) rfl ?_
          refine sh_w (i := (.iload 7)) (len := 2) (pc2 := 352) (lv2 := [(14, .int (sh_b2 y0)), (0, .ref 67), (1, .int x1), (5, .long x5), (7, .int x7), (8, .int x8), (9, .int x9)]) (st2 := [.int x7]) (h2 := (sh_rep m.T m.I m.J)) rfl rfl rfl ?_
          refine sh_w (i := (.bipush 37)) (len := 2) (pc2 := 354) (lv2 := [(14, .int (sh_b2 y0)), (0, .ref 67), (1, .int x1), (5, .long x5), (7, .int x7), (8, .int x8), (9, .int x9)]) (st2 := [.int 37, .int x7]) (h2 := (sh_rep m.T m.I m.J)) rfl rfl rfl ?_
          exact kk
        rcases sh_ite e with ⟨c, e⟩ | ⟨c, e⟩
        · refine sh_Lk_lift (T := m.T) (I := m.I) (J := m.J) (s := m.s) (pc2 := 357) (lv2 := [(14, .int (sh_b2 y0)), (0, .ref 67), (1, .int x1), (5, .long x5), (7, .int x7), (8, .int x8), (9, .int x9)]) (st2 := []) (I2 := m.I) (J2 := m.J) (fun hT v kk => ?_) ?_
          · refine sh_jc (c := .ne) (off := (13)) (pc2 := 357) false rfl (sh_Bnef c) rfl ?_
            exact kk
          exact sh_Lk_sub (sh_sub_c rfl (sh_sub_c rfl (sh_sub_c rfl (sh_sub_c rfl (sh_sub_c rfl (sh_sub_c rfl (sh_sub_n))))))) (sl_303_357 e tg)
        · refine sh_Lk_lift (T := m.T) (I := m.I) (J := m.J) (s := m.s) (pc2 := 369) (lv2 := [(14, .int (sh_b2 y0)), (0, .ref 67), (1, .int x1), (5, .long x5), (7, .int x7), (8, .int x8), (9, .int x9)]) (st2 := [.int x9]) (I2 := m.I) (J2 := m.J) (fun hT v kk => ?_) ?_
          · refine sh_jc (c := .ne) (off := (13)) (pc2 := 367) true rfl (sh_Bnet c) rfl ?_
            refine sh_w (i := (.iload 9)) (len := 2) (pc2 := 369) (lv2 := [(14, .int (sh_b2 y0)), (0, .ref 67), (1, .int x1), (5, .long x5), (7, .int x7), (8, .int x8), (9, .int x9)]) (st2 := [.int x9]) (h2 := (sh_rep m.T m.I m.J)) rfl rfl rfl ?_
            exact kk
          exact sh_Lk_sub (sh_sub_c rfl (sh_sub_c rfl (sh_sub_c rfl (sh_sub_c rfl (sh_sub_c rfl (sh_sub_c rfl (sh_sub_n))))))) (sl_303_369 e tg)
  · refine sh_Lk_lift (T := m.T) (I := m.I) (J := m.J) (s := m.s) (pc2 := 322) (lv2 := [(14, .int (sh_b2 y0)), (0, .ref 67), (1, .int x1), (5, .long x5), (7, .int x7), (8, .int x8), (9, .int x9)]) (st2 := [.int x1, .ref 74, .ref 70, .int 4, .ref 67]) (I2 := m.I) (J2 := m.J) (fun hT v kk => ?_) ?_
    · refine sh_j0 (c := .ne) (off := (20)) (pc2 := 311) false rfl (sh_Znef c) rfl ?_
      refine sh_w (i := (.aload_n 0)) (len := 1) (pc2 := 312) (lv2 := [(14, .int (sh_b2 y0)), (0, .ref 67), (1, .int x1), (5, .long x5), (7, .int x7), (8, .int x8), (9, .int x9)]) (st2 := [.ref 67]) (h2 := (sh_rep m.T m.I m.J)) rfl rfl rfl ?_
      refine sh_w (i := (.iconst 4)) (len := 1) (pc2 := 313) (lv2 := [(14, .int (sh_b2 y0)), (0, .ref 67), (1, .int x1), (5, .long x5), (7, .int x7), (8, .int x8), (9, .int x9)]) (st2 := [.int 4, .ref 67]) (h2 := (sh_rep m.T m.I m.J)) rfl rfl rfl ?_
      refine sh_w (i := (.aload_n 0)) (len := 1) (pc2 := 314) (lv2 := [(14, .int (sh_b2 y0)), (0, .ref 67), (1, .int x1), (5, .long x5), (7, .int x7), (8, .int x8), (9, .int x9)]) (st2 := [.ref 67, .int 4, .ref 67]) (h2 := (sh_rep m.T m.I m.J)) rfl rfl rfl ?_
      refine sh_gR1 (len := 3) (x := .ref 70) (pc2 := 317) rfl rfl (sh_s66 hT.st) rfl rfl ?_
      refine sh_w (i := (.aload_n 0)) (len := 1) (pc2 := 318) (lv2 := [(14, .int (sh_b2 y0)), (0, .ref 67), (1, .int x1), (5, .long x5), (7, .int x7), (8, .int x8), (9, .int x9)]) (st2 := [.ref 67, .ref 70, .int 4, .ref 67]) (h2 := (sh_rep m.T m.I m.J)) rfl rfl rfl ?_
      refine sh_gR1 (len := 3) (x := .ref 74) (pc2 := 321) rfl rfl (sh_s66 hT.st) rfl rfl ?_
      refine sh_w (i := (.iload_n 1)) (len := 1) (pc2 := 322) (lv2 := [(14, .int (sh_b2 y0)), (0, .ref 67), (1, .int x1), (5, .long x5), (7, .int x7), (8, .int x8), (9, .int x9)]) (st2 := [.int x1, .ref 74, .ref 70, .int 4, .ref 67]) (h2 := (sh_rep m.T m.I m.J)) rfl rfl rfl ?_
      exact kk
    obtain ⟨c, e⟩ := sh_gd e
    refine sh_Lk_lift (T := m.T) (I := m.I) (J := m.J) (s := m.s) (pc2 := 323) (lv2 := [(14, .int (sh_b2 y0)), (0, .ref 67), (1, .int x1), (5, .long x5), (7, .int x7), (8, .int x8), (9, .int x9)]) (st2 := [.int (m.I 73 (Int32.toNatClampNeg x1)), .ref 70, .int 4, .ref 67]) (I2 := m.I) (J2 := m.J) (fun hT v kk => ?_) ?_
    · refine sh_ia1 (x := m.I 73 (Int32.toNatClampNeg x1)) (pc2 := 323) rfl (sh_s73 hT.st) (sh_okb1 c) (sh_okb2 c) rfl rfl ?_
      exact kk
    obtain ⟨c, e⟩ := sh_gd e
    refine sh_Lk_lift (T := m.T) (I := m.I) (J := m.J) (s := m.s) (pc2 := 324) (lv2 := [(14, .int (sh_b2 y0)), (0, .ref 67), (1, .int x1), (5, .long x5), (7, .int x7), (8, .int x8), (9, .int x9)]) (st2 := [.int (m.I 69 (Int32.toNatClampNeg (m.I 73 (Int32.toNatClampNeg x1)))), .int 4, .ref 67]) (I2 := m.I) (J2 := m.J) (fun hT v kk => ?_) ?_
    · refine sh_ia1 (x := m.I 69 (Int32.toNatClampNeg (m.I 73 (Int32.toNatClampNeg x1)))) (pc2 := 324) rfl (sh_s69 hT.st) (sh_okb1 c) (sh_okb2 c) rfl rfl ?_
      exact kk
    obtain ⟨r1, m11, e1, e⟩ := sh_bn_e e
    refine sh_Lk_cV (r := (some (.int (sh_b2 r1)))) (st2 := [.int (sh_b2 r1)]) (pc2 := 327) (k2 := 252) (a := 66) (as := [.ref 67, .int 4, .int (m.I 69 (Int32.toNatClampNeg (m.I 73 (Int32.toNatClampNeg x1))))]) (rest := []) rfl rfl rfl (fun hT => (sh_s66 hT.st)) rfl rfl ⟨Nat.le_of_ble_eq_true rfl, Nat.le_of_ble_eq_true rfl⟩ (sl_252 e1 ⟨rfl, rfl⟩) rfl rfl (Nat.le_of_ble_eq_true rfl) (Nat.le_of_ble_eq_true rfl) ?_
    obtain rfl := Option.some.inj e
    obtain ⟨rfl, rfl⟩ := tg
    exact sh_Lk_ret (i := .ireturn) rfl rfl (sh_rb rfl _) (Nat.le_of_ble_eq_true rfl) (Nat.le_of_ble_eq_true rfl)
theorem sl_303_299 {x1 : Int32} {x5 : Int64} {x7 : Int32} {x8 : Int32} {x9 : Int32} {m m2 : sh_X} {o : Outcome} {z : (Bool × sh_X)} (e : sf_303_299 x1 x5 x7 x8 x9 m = some z) (tg : (sh_tZ o m2) z) : sh_Lk 303 299 [(0, .ref 67), (1, .int x1), (5, .long x5), (7, .int x7), (8, .int x8), (9, .int x9)] [] m o m2 13 326 := by
  unfold sf_303_299 at e
  refine sh_Lk_lift (T := m.T) (I := m.I) (J := m.J) (s := m.s) (pc2 := 304) (lv2 := [(0, .ref 67), (1, .int x1), (5, .long x5), (7, .int x7), (8, .int x8), (9, .int x9)]) (st2 := [.int 1]) (I2 := m.I) (J2 := m.J) (fun hT v kk => ?_) ?_
  · refine sh_w (i := (.iconst 1)) (len := 1) (pc2 := 300) (lv2 := [(0, .ref 67), (1, .int x1), (5, .long x5), (7, .int x7), (8, .int x8), (9, .int x9)]) (st2 := [.int 1]) (h2 := (sh_rep m.T m.I m.J)) rfl rfl rfl ?_
    refine sh_w (i := (.goto 4)) (len := 3) (pc2 := 304) (lv2 := [(0, .ref 67), (1, .int x1), (5, .long x5), (7, .int x7), (8, .int x8), (9, .int x9)]) (st2 := [.int 1]) (h2 := (sh_rep m.T m.I m.J)) rfl rfl rfl ?_
    exact kk
  exact sh_Lk_sub (sh_sub_c rfl (sh_sub_c rfl (sh_sub_c rfl (sh_sub_c rfl (sh_sub_c rfl (sh_sub_c rfl (sh_sub_n))))))) (sl_303_304 e tg)
theorem sl_303_303 {x1 : Int32} {x5 : Int64} {x7 : Int32} {x8 : Int32} {x9 : Int32} {m m2 : sh_X} {o : Outcome} {z : (Bool × sh_X)} (e : sf_303_303 x1 x5 x7 x8 x9 m = some z) (tg : (sh_tZ o m2) z) : sh_Lk 303 303 [(0, .ref 67), (1, .int x1), (5, .long x5), (7, .int x7), (8, .int x8), (9, .int x9)] [] m o m2 13 326 := by
  unfold sf_303_303 at e
  refine sh_Lk_lift (T := m.T) (I := m.I) (J := m.J) (s := m.s) (pc2 := 304) (lv2 := [(0, .ref 67), (1, .int x1), (5, .long x5), (7, .int x7), (8, .int x8), (9, .int x9)]) (st2 := [.int 0]) (I2 := m.I) (J2 := m.J) (fun hT v kk => ?_) ?_
  · refine sh_w (i := (.iconst 0)) (len := 1) (pc2 := 304) (lv2 := [(0, .ref 67), (1, .int x1), (5, .long x5), (7, .int x7), (8, .int x8), (9, .int x9)]) (st2 := [.int 0]) (h2 := (sh_rep m.T m.I m.J)) rfl rfl rfl ?_
    exact kk
  exact sh_Lk_sub (sh_sub_c rfl (sh_sub_c rfl (sh_sub_c rfl (sh_sub_c rfl (sh_sub_c rfl (sh_sub_c rfl (sh_sub_n))))))) (sl_303_304 e tg)
theorem sl_303_266 {x1 : Int32} {x5 : Int64} {x7 : Int32} {x8 : Int32} {x9 : Int32} {x11 : Int32} {x12 : Bool} {y0 : Bool} {m m2 : sh_X} {o : Outcome} {z : (Bool × sh_X)} (e : sf_303_266 x1 x5 x7 x8 x9 x11 x12 y0 m = some z) (tg : (sh_tZ o m2) z) : sh_Lk 303 266 [(0, .ref 67), (1, .int x1), (5, .long x5), (7, .int x7), (8, .int x8), (9, .int x9), (11, .int x11), (12, .int (sh_b2 x12))] [.int (sh_b2 y0)] m o m2 13 326 := by
  unfold sf_303_266 at e
  refine sh_Lk_lift (T := m.T) (I := m.I) (J := m.J) (s := m.s) (pc2 := 270) (lv2 := [(13, .int (sh_b2 y0)), (0, .ref 67), (1, .int x1), (5, .long x5), (7, .int x7), (8, .int x8), (9, .int x9), (11, .int x11), (12, .int (sh_b2 x12))]) (st2 := [.int (sh_b2 x12)]) (I2 := m.I) (J2 := m.J) (fun hT v kk => ?_) ?_
  · refine sh_w (i := (.istore 13)) (len := 2) (pc2 := 268) (lv2 := [(13, .int (sh_b2 y0)), (0, .ref 67), (1, .int x1), (5, .long x5), (7, .int x7), (8, .int x8), (9, .int x9), (11, .int x11), (12, .int (sh_b2 x12))]) (st2 := []) (h2 := (sh_rep m.T m.I m.J)) rfl rfl rfl ?_
    refine sh_w (i := (.iload 12)) (len := 2) (pc2 := 270) (lv2 := [(13, .int (sh_b2 y0)), (0, .ref 67), (1, .int x1), (5, .long x5), (7, .int x7), (8, .int x8), (9, .int x9), (11, .int x11), (12, .int (sh_b2 x12))]) (st2 := [.int (sh_b2 x12)]) (h2 := (sh_rep m.T m.I m.J)) rfl rfl rfl ?_
    exact kk
  rcases sh_ite e with ⟨c, e⟩ | ⟨c, e⟩
  · refine sh_Lk_lift (T := m.T) (I := m.I) (J := m.J) (s := m.s) (pc2 := 276) (lv2 := [(13, .int (sh_b2 y0)), (0, .ref 67), (1, .int x1), (5, .long x5), (7, .int x7), (8, .int x8), (9, .int x9), (11, .int x11), (12, .int (sh_b2 x12))]) (st2 := [.int 3, .int x11]) (I2 := m.I) (J2 := m.J) (fun hT v kk => ?_) ?_
    · refine sh_j0 (c := .eq) (off := (33)) (pc2 := 273) false rfl (sh_Zeqf c) rfl ?_
      refine sh_w (i := (.iload 11)) (len := 2) (pc2 := 275) (lv2 := [(13, .int (sh_b2 y0)), (0, .ref 67), (1, .int x1), (5, .long x5), (7, .int x7), (8, .int x8), (9, .int x9), (11, .int x11), (12, .int (sh_b2 x12))]) (st2 := [.int x11]) (h2 := (sh_rep m.T m.I m.J)) rfl rfl rfl ?_
      refine sh_w (i := (.iconst 3)) (len := 1) (pc2 := 276) (lv2 := [(13, .int (sh_b2 y0)), (0, .ref 67), (1, .int x1), (5, .long x5), (7, .int x7), (8, .int x8), (9, .int x9), (11, .int x11), (12, .int (sh_b2 x12))]) (st2 := [.int 3, .int x11]) (h2 := (sh_rep m.T m.I m.J)) rfl rfl rfl ?_
      exact kk
    rcases sh_ite e with ⟨c, e⟩ | ⟨c, e⟩
    · refine sh_Lk_lift (T := m.T) (I := m.I) (J := m.J) (s := m.s) (pc2 := 281) (lv2 := [(13, .int (sh_b2 y0)), (0, .ref 67), (1, .int x1), (5, .long x5), (7, .int x7), (8, .int x8), (9, .int x9), (11, .int x11), (12, .int (sh_b2 x12))]) (st2 := [.int (sh_b2 y0)]) (I2 := m.I) (J2 := m.J) (fun hT v kk => ?_) ?_
      · refine sh_jc (c := .ge) (off := (11)) (pc2 := 279) false rfl (sh_Bgef c) rfl ?_
        refine sh_w (i := (.iload 13)) (len := 2) (pc2 := 281) (lv2 := [(13, .int (sh_b2 y0)), (0, .ref 67), (1, .int x1), (5, .long x5), (7, .int x7), (8, .int x8), (9, .int x9), (11, .int x11), (12, .int (sh_b2 x12))]) (st2 := [.int (sh_b2 y0)]) (h2 := (sh_rep m.T m.I m.J)) rfl rfl rfl ?_
        exact kk
      rcases sh_ite e with ⟨c, e⟩ | ⟨c, e⟩
      · refine sh_Lk_lift (T := m.T) (I := m.I) (J := m.J) (s := m.s) (pc2 := 303) (lv2 := [(13, .int (sh_b2 y0)), (0, .ref 67), (1, .int x1), (5, .long x5), (7, .int x7), (8, .int x8), (9, .int x9), (11, .int x11), (12, .int (sh_b2 x12))]) (st2 := []) (I2 := m.I) (J2 := m.J) (fun hT v kk => ?_) ?_
        · refine sh_j0 (c := .ne) (off := (22)) (pc2 := 303) true rfl (sh_Znet c) rfl ?_
          exact kk
        exact sh_Lk_sub (sh_sub_c rfl (sh_sub_c rfl (sh_sub_c rfl (sh_sub_c rfl (sh_sub_c rfl (sh_sub_c rfl (sh_sub_n))))))) (sl_303_303 e tg)
      · refine sh_Lk_lift (T := m.T) (I := m.I) (J := m.J) (s := m.s) (pc2 := 299) (lv2 := [(13, .int (sh_b2 y0)), (0, .ref 67), (1, .int x1), (5, .long x5), (7, .int x7), (8, .int x8), (9, .int x9), (11, .int x11), (12, .int (sh_b2 x12))]) (st2 := []) (I2 := m.I) (J2 := m.J) (fun hT v kk => ?_) ?_
        · refine sh_j0 (c := .ne) (off := (22)) (pc2 := 284) false rfl (sh_Znef c) rfl ?_
          refine sh_w (i := (.goto 15)) (len := 3) (pc2 := 299) (lv2 := [(13, .int (sh_b2 y0)), (0, .ref 67), (1, .int x1), (5, .long x5), (7, .int x7), (8, .int x8), (9, .int x9), (11, .int x11), (12, .int (sh_b2 x12))]) (st2 := []) (h2 := (sh_rep m.T m.I m.J)) rfl rfl rfl ?_
          exact kk
        exact sh_Lk_sub (sh_sub_c rfl (sh_sub_c rfl (sh_sub_c rfl (sh_sub_c rfl (sh_sub_c rfl (sh_sub_c rfl (sh_sub_n))))))) (sl_303_299 e tg)
    · refine sh_Lk_lift (T := m.T) (I := m.I) (J := m.J) (s := m.s) (pc2 := 291) (lv2 := [(13, .int (sh_b2 y0)), (0, .ref 67), (1, .int x1), (5, .long x5), (7, .int x7), (8, .int x8), (9, .int x9), (11, .int x11), (12, .int (sh_b2 x12))]) (st2 := [.int 7, .int x11]) (I2 := m.I) (J2 := m.J) (fun hT v kk => ?_) ?_
      · refine sh_jc (c := .ge) (off := (11)) (pc2 := 287) true rfl (sh_Bget c) rfl ?_
        refine sh_w (i := (.iload 11)) (len := 2) (pc2 := 289) (lv2 := [(13, .int (sh_b2 y0)), (0, .ref 67), (1, .int x1), (5, .long x5), (7, .int x7), (8, .int x8), (9, .int x9), (11, .int x11), (12, .int (sh_b2 x12))]) (st2 := [.int x11]) (h2 := (sh_rep m.T m.I m.J)) rfl rfl rfl ?_
        refine sh_w (i := (.bipush 7)) (len := 2) (pc2 := 291) (lv2 := [(13, .int (sh_b2 y0)), (0, .ref 67), (1, .int x1), (5, .long x5), (7, .int x7), (8, .int x8), (9, .int x9), (11, .int x11), (12, .int (sh_b2 x12))]) (st2 := [.int 7, .int x11]) (h2 := (sh_rep m.T m.I m.J)) rfl rfl rfl ?_
        exact kk
      rcases sh_ite e with ⟨c, e⟩ | ⟨c, e⟩
      · refine sh_Lk_lift (T := m.T) (I := m.I) (J := m.J) (s := m.s) (pc2 := 299) (lv2 := [(13, .int (sh_b2 y0)), (0, .ref 67), (1, .int x1), (5, .long x5), (7, .int x7), (8, .int x8), (9, .int x9), (11, .int x11), (12, .int (sh_b2 x12))]) (st2 := []) (I2 := m.I) (J2 := m.J) (fun hT v kk => ?_) ?_
        · refine sh_jc (c := .lt) (off := (8)) (pc2 := 299) true rfl (sh_Bltt c) rfl ?_
          exact kk
        exact sh_Lk_sub (sh_sub_c rfl (sh_sub_c rfl (sh_sub_c rfl (sh_sub_c rfl (sh_sub_c rfl (sh_sub_c rfl (sh_sub_n))))))) (sl_303_299 e tg)
      · refine sh_Lk_lift (T := m.T) (I := m.I) (J := m.J) (s := m.s) (pc2 := 296) (lv2 := [(13, .int (sh_b2 y0)), (0, .ref 67), (1, .int x1), (5, .long x5), (7, .int x7), (8, .int x8), (9, .int x9), (11, .int x11), (12, .int (sh_b2 x12))]) (st2 := [.int (sh_b2 y0)]) (I2 := m.I) (J2 := m.J) (fun hT v kk => ?_) ?_
        · refine sh_jc (c := .lt) (off := (8)) (pc2 := 294) false rfl (sh_Bltf c) rfl ?_
          refine sh_w (i := (.iload 13)) (len := 2) (pc2 := 296) (lv2 := [(13, .int (sh_b2 y0)), (0, .ref 67), (1, .int x1), (5, .long x5), (7, .int x7), (8, .int x8), (9, .int x9), (11, .int x11), (12, .int (sh_b2 x12))]) (st2 := [.int (sh_b2 y0)]) (h2 := (sh_rep m.T m.I m.J)) rfl rfl rfl ?_
          exact kk
        rcases sh_ite e with ⟨c, e⟩ | ⟨c, e⟩
        · refine sh_Lk_lift (T := m.T) (I := m.I) (J := m.J) (s := m.s) (pc2 := 299) (lv2 := [(13, .int (sh_b2 y0)), (0, .ref 67), (1, .int x1), (5, .long x5), (7, .int x7), (8, .int x8), (9, .int x9), (11, .int x11), (12, .int (sh_b2 x12))]) (st2 := []) (I2 := m.I) (J2 := m.J) (fun hT v kk => ?_) ?_
          · refine sh_j0 (c := .eq) (off := (7)) (pc2 := 299) false rfl (sh_Zeqf c) rfl ?_
            exact kk
          exact sh_Lk_sub (sh_sub_c rfl (sh_sub_c rfl (sh_sub_c rfl (sh_sub_c rfl (sh_sub_c rfl (sh_sub_c rfl (sh_sub_n))))))) (sl_303_299 e tg)
        · refine sh_Lk_lift (T := m.T) (I := m.I) (J := m.J) (s := m.s) (pc2 := 303) (lv2 := [(13, .int (sh_b2 y0)), (0, .ref 67), (1, .int x1), (5, .long x5), (7, .int x7), (8, .int x8), (9, .int x9), (11, .int x11), (12, .int (sh_b2 x12))]) (st2 := []) (I2 := m.I) (J2 := m.J) (fun hT v kk => ?_) ?_
          · refine sh_j0 (c := .eq) (off := (7)) (pc2 := 303) true rfl (sh_Zeqt c) rfl ?_
            exact kk
          exact sh_Lk_sub (sh_sub_c rfl (sh_sub_c rfl (sh_sub_c rfl (sh_sub_c rfl (sh_sub_c rfl (sh_sub_c rfl (sh_sub_n))))))) (sl_303_303 e tg)
  · refine sh_Lk_lift (T := m.T) (I := m.I) (J := m.J) (s := m.s) (pc2 := 303) (lv2 := [(13, .int (sh_b2 y0)), (0, .ref 67), (1, .int x1), (5, .long x5), (7, .int x7), (8, .int x8), (9, .int x9), (11, .int x11), (12, .int (sh_b2 x12))]) (st2 := []) (I2 := m.I) (J2 := m.J) (fun hT v kk => ?_) ?_
    · refine sh_j0 (c := .eq) (off := (33)) (pc2 := 303) true rfl (sh_Zeqt c) rfl ?_
      exact kk
    exact sh_Lk_sub (sh_sub_c rfl (sh_sub_c rfl (sh_sub_c rfl (sh_sub_c rfl (sh_sub_c rfl (sh_sub_c rfl (sh_sub_n))))))) (sl_303_303 e tg)
theorem sl_303_254 {x1 : Int32} {x5 : Int64} {x7 : Int32} {x8 : Int32} {x9 : Int32} {x11 : Int32} {y0 : Bool} {m m2 : sh_X} {o : Outcome} {z : (Bool × sh_X)} (e : sf_303_254 x1 x5 x7 x8 x9 x11 y0 m = some z) (tg : (sh_tZ o m2) z) : sh_Lk 303 254 [(0, .ref 67), (1, .int x1), (5, .long x5), (7, .int x7), (8, .int x8), (9, .int x9), (11, .int x11)] [.int (sh_b2 y0)] m o m2 13 326 := by
  unfold sf_303_254 at e
  refine sh_Lk_lift (T := m.T) (I := m.I) (J := m.J) (s := m.s) (pc2 := 258) (lv2 := [(12, .int (sh_b2 y0)), (0, .ref 67), (1, .int x1), (5, .long x5), (7, .int x7), (8, .int x8), (9, .int x9), (11, .int x11)]) (st2 := [.int x8]) (I2 := m.I) (J2 := m.J) (fun hT v kk => ?_) ?_
  · refine sh_w (i := (.istore 12)) (len := 2) (pc2 := 256) (lv2 := [(12, .int (sh_b2 y0)), (0, .ref 67), (1, .int x1), (5, .long x5), (7, .int x7), (8, .int x8), (9, .int x9), (11, .int x11)]) (st2 := []) (h2 := (sh_rep m.T m.I m.J)) rfl rfl rfl ?_
    refine sh_w (i := (.iload 8)) (len := 2) (pc2 := 258) (lv2 := [(12, .int (sh_b2 y0)), (0, .ref 67), (1, .int x1), (5, .long x5), (7, .int x7), (8, .int x8), (9, .int x9), (11, .int x11)]) (st2 := [.int x8]) (h2 := (sh_rep m.T m.I m.J)) rfl rfl rfl ?_
    exact kk
  rcases sh_ite e with ⟨c, e⟩ | ⟨c, e⟩
  · refine sh_Lk_lift (T := m.T) (I := m.I) (J := m.J) (s := m.s) (pc2 := 266) (lv2 := [(12, .int (sh_b2 y0)), (0, .ref 67), (1, .int x1), (5, .long x5), (7, .int x7), (8, .int x8), (9, .int x9), (11, .int x11)]) (st2 := [.int 0]) (I2 := m.I) (J2 := m.J) (fun hT v kk => ?_) ?_
    · refine sh_j0 (c := .eq) (off := (7)) (pc2 := 265) true rfl (sh_Beqt c) rfl ?_
      refine sh_w (i := (.iconst 0)) (len := 1) (pc2 := 266) (lv2 := [(12, .int (sh_b2 y0)), (0, .ref 67), (1, .int x1), (5, .long x5), (7, .int x7), (8, .int x8), (9, .int x9), (11, .int x11)]) (st2 := [.int 0]) (h2 := (sh_rep m.T m.I m.J)) rfl rfl rfl ?_
      exact kk
    exact sh_Lk_sub (sh_sub_c rfl (sh_sub_c rfl (sh_sub_c rfl (sh_sub_c rfl (sh_sub_c rfl (sh_sub_c rfl (sh_sub_c rfl (sh_sub_c rfl (sh_sub_n))))))))) (sl_303_266 e tg)
  · refine sh_Lk_lift (T := m.T) (I := m.I) (J := m.J) (s := m.s) (pc2 := 266) (lv2 := [(12, .int (sh_b2 y0)), (0, .ref 67), (1, .int x1), (5, .long x5), (7, .int x7), (8, .int x8), (9, .int x9), (11, .int x11)]) (st2 := [.int 1]) (I2 := m.I) (J2 := m.J) (fun hT v kk => ?_) ?_
    · refine sh_j0 (c := .eq) (off := (7)) (pc2 := 261) false rfl (sh_Beqf c) rfl ?_
      refine sh_w (i := (.iconst 1)) (len := 1) (pc2 := 262) (lv2 := [(12, .int (sh_b2 y0)), (0, .ref 67), (1, .int x1), (5, .long x5), (7, .int x7), (8, .int x8), (9, .int x9), (11, .int x11)]) (st2 := [.int 1]) (h2 := (sh_rep m.T m.I m.J)) rfl rfl rfl ?_
      refine sh_w (i := (.goto 4)) (len := 3) (pc2 := 266) (lv2 := [(12, .int (sh_b2 y0)), (0, .ref 67), (1, .int x1), (5, .long x5), (7, .int x7), (8, .int x8), (9, .int x9), (11, .int x11)]) (st2 := [.int 1]) (h2 := (sh_rep m.T m.I m.J)) rfl rfl rfl ?_
      exact kk
    exact sh_Lk_sub (sh_sub_c rfl (sh_sub_c rfl (sh_sub_c rfl (sh_sub_c rfl (sh_sub_c rfl (sh_sub_c rfl (sh_sub_c rfl (sh_sub_c rfl (sh_sub_n))))))))) (sl_303_266 e tg)
theorem sl_303_253 {x1 : Int32} {x5 : Int64} {x7 : Int32} {x8 : Int32} {x9 : Int32} {x11 : Int32} {m m2 : sh_X} {o : Outcome} {z : (Bool × sh_X)} (e : sf_303_253 x1 x5 x7 x8 x9 x11 m = some z) (tg : (sh_tZ o m2) z) : sh_Lk 303 253 [(0, .ref 67), (1, .int x1), (5, .long x5), (7, .int x7), (8, .int x8), (9, .int x9), (11, .int x11)] [] m o m2 13 326 := by
  unfold sf_303_253 at e
  refine sh_Lk_lift (T := m.T) (I := m.I) (J := m.J) (s := m.s) (pc2 := 254) (lv2 := [(0, .ref 67), (1, .int x1), (5, .long x5), (7, .int x7), (8, .int x8), (9, .int x9), (11, .int x11)]) (st2 := [.int 0]) (I2 := m.I) (J2 := m.J) (fun hT v kk => ?_) ?_
  · refine sh_w (i := (.iconst 0)) (len := 1) (pc2 := 254) (lv2 := [(0, .ref 67), (1, .int x1), (5, .long x5), (7, .int x7), (8, .int x8), (9, .int x9), (11, .int x11)]) (st2 := [.int 0]) (h2 := (sh_rep m.T m.I m.J)) rfl rfl rfl ?_
    exact kk
  exact sh_Lk_sub (sh_sub_c rfl (sh_sub_c rfl (sh_sub_c rfl (sh_sub_c rfl (sh_sub_c rfl (sh_sub_c rfl (sh_sub_c rfl (sh_sub_n)))))))) (sl_303_254 e tg)
theorem sl_303_219 {x1 : Int32} {x5 : Int64} {x7 : Int32} {x8 : Int32} {x9 : Int32} {x10 : Int32} {x11 : Int32} {m m2 : sh_X} {o : Outcome} {z : (Bool × sh_X)} (e : sf_303_219 x1 x5 x7 x8 x9 x10 x11 m = some z) (tg : (sh_tZ o m2) z) : sh_Lk 303 219 [(0, .ref 67), (1, .int x1), (5, .long x5), (7, .int x7), (8, .int x8), (9, .int x9), (10, .int x10), (11, .int x11)] [] m o m2 13 326 := by
  unfold sf_303_219 at e
  refine sh_Lk_lift (T := m.T) (I := m.I) (J := m.J) (s := m.s) (pc2 := 225) (lv2 := [(0, .ref 67), (1, .int x1), (5, .long x5), (7, .int x7), (8, .int x8), (9, .int x9), (10, .int x10), (11, .int x11)]) (st2 := [.int (m.I 66 43), .int x8]) (I2 := m.I) (J2 := m.J) (fun hT v kk => ?_) ?_
  · refine sh_w (i := (.iload 8)) (len := 2) (pc2 := 221) (lv2 := [(0, .ref 67), (1, .int x1), (5, .long x5), (7, .int x7), (8, .int x8), (9, .int x9), (10, .int x10), (11, .int x11)]) (st2 := [.int x8]) (h2 := (sh_rep m.T m.I m.J)) rfl rfl rfl ?_
    refine sh_w (i := (.aload_n 0)) (len := 1) (pc2 := 222) (lv2 := [(0, .ref 67), (1, .int x1), (5, .long x5), (7, .int x7), (8, .int x8), (9, .int x9), (10, .int x10), (11, .int x11)]) (st2 := [.ref 67, .int x8]) (h2 := (sh_rep m.T m.I m.J)) rfl rfl rfl ?_
    refine sh_gI1 (len := 3) (x := m.I 66 43) (pc2 := 225) rfl rfl (sh_s66 hT.st) rfl rfl rfl ?_
    exact kk
  rcases sh_ite e with ⟨c, e⟩ | ⟨c, e⟩
  · refine sh_Lk_lift (T := m.T) (I := m.I) (J := m.J) (s := m.s) (pc2 := 234) (lv2 := [(0, .ref 67), (1, .int x1), (5, .long x5), (7, .int x7), (8, .int x8), (9, .int x9), (10, .int x10), (11, .int x11)]) (st2 := [.int (m.I 66 44), .int x9]) (I2 := m.I) (J2 := m.J) (fun hT v kk => ?_) ?_
    · refine sh_jc (c := .ne) (off := (28)) (pc2 := 228) false rfl (sh_Bnef c) rfl ?_
      refine sh_w (i := (.iload 9)) (len := 2) (pc2 := 230) (lv2 := [(0, .ref 67), (1, .int x1), (5, .long x5), (7, .int x7), (8, .int x8), (9, .int x9), (10, .int x10), (11, .int x11)]) (st2 := [.int x9]) (h2 := (sh_rep m.T m.I m.J)) rfl rfl rfl ?_
      refine sh_w (i := (.aload_n 0)) (len := 1) (pc2 := 231) (lv2 := [(0, .ref 67), (1, .int x1), (5, .long x5), (7, .int x7), (8, .int x8), (9, .int x9), (10, .int x10), (11, .int x11)]) (st2 := [.ref 67, .int x9]) (h2 := (sh_rep m.T m.I m.J)) rfl rfl rfl ?_
      refine sh_gI1 (len := 3) (x := m.I 66 44) (pc2 := 234) rfl rfl (sh_s66 hT.st) rfl rfl rfl ?_
      exact kk
    rcases sh_ite e with ⟨c, e⟩ | ⟨c, e⟩
    · refine sh_Lk_lift (T := m.T) (I := m.I) (J := m.J) (s := m.s) (pc2 := 239) (lv2 := [(0, .ref 67), (1, .int x1), (5, .long x5), (7, .int x7), (8, .int x8), (9, .int x9), (10, .int x10), (11, .int x11)]) (st2 := [.int x10]) (I2 := m.I) (J2 := m.J) (fun hT v kk => ?_) ?_
      · refine sh_jc (c := .ne) (off := (19)) (pc2 := 237) false rfl (sh_Bnef c) rfl ?_
        refine sh_w (i := (.iload 10)) (len := 2) (pc2 := 239) (lv2 := [(0, .ref 67), (1, .int x1), (5, .long x5), (7, .int x7), (8, .int x8), (9, .int x9), (10, .int x10), (11, .int x11)]) (st2 := [.int x10]) (h2 := (sh_rep m.T m.I m.J)) rfl rfl rfl ?_
        exact kk
      rcases sh_ite e with ⟨c, e⟩ | ⟨c, e⟩
      · refine sh_Lk_lift (T := m.T) (I := m.I) (J := m.J) (s := m.s) (pc2 := 246) (lv2 := [(0, .ref 67), (1, .int x1), (5, .long x5), (7, .int x7), (8, .int x8), (9, .int x9), (10, .int x10), (11, .int x11)]) (st2 := [.int (m.I 66 45)]) (I2 := m.I) (J2 := m.J) (fun hT v kk => ?_) ?_
        · refine sh_j0 (c := .ne) (off := (14)) (pc2 := 242) false rfl (sh_Bnef c) rfl ?_
          refine sh_w (i := (.aload_n 0)) (len := 1) (pc2 := 243) (lv2 := [(0, .ref 67), (1, .int x1), (5, .long x5), (7, .int x7), (8, .int x8), (9, .int x9), (10, .int x10), (11, .int x11)]) (st2 := [.ref 67]) (h2 := (sh_rep m.T m.I m.J)) rfl rfl rfl ?_
          refine sh_gI1 (len := 3) (x := m.I 66 45) (pc2 := 246) rfl rfl (sh_s66 hT.st) rfl rfl rfl ?_
          exact kk
        rcases sh_ite e with ⟨c, e⟩ | ⟨c, e⟩
        · refine sh_Lk_lift (T := m.T) (I := m.I) (J := m.J) (s := m.s) (pc2 := 254) (lv2 := [(0, .ref 67), (1, .int x1), (5, .long x5), (7, .int x7), (8, .int x8), (9, .int x9), (10, .int x10), (11, .int x11)]) (st2 := [.int 1]) (I2 := m.I) (J2 := m.J) (fun hT v kk => ?_) ?_
          · refine sh_j0 (c := .ne) (off := (7)) (pc2 := 249) false rfl (sh_Bnef c) rfl ?_
            refine sh_w (i := (.iconst 1)) (len := 1) (pc2 := 250) (lv2 := [(0, .ref 67), (1, .int x1), (5, .long x5), (7, .int x7), (8, .int x8), (9, .int x9), (10, .int x10), (11, .int x11)]) (st2 := [.int 1]) (h2 := (sh_rep m.T m.I m.J)) rfl rfl rfl ?_
            refine sh_w (i := (.goto 4)) (len := 3) (pc2 := 254) (lv2 := [(0, .ref 67), (1, .int x1), (5, .long x5), (7, .int x7), (8, .int x8), (9, .int x9), (10, .int x10), (11, .int x11)]) (st2 := [.int 1]) (h2 := (sh_rep m.T m.I m.J)) rfl rfl rfl ?_
            exact kk
          exact sh_Lk_sub (sh_sub_c rfl (sh_sub_c rfl (sh_sub_c rfl (sh_sub_c rfl (sh_sub_c rfl (sh_sub_c rfl (sh_sub_c rfl (sh_sub_n)))))))) (sl_303_254 e tg)
        · refine sh_Lk_lift (T := m.T) (I := m.I) (J := m.J) (s := m.s) (pc2 := 253) (lv2 := [(0, .ref 67), (1, .int x1), (5, .long x5), (7, .int x7), (8, .int x8), (9, .int x9), (10, .int x10), (11, .int x11)]) (st2 := []) (I2 := m.I) (J2 := m.J) (fun hT v kk => ?_) ?_
          · refine sh_j0 (c := .ne) (off := (7)) (pc2 := 253) true rfl (sh_Bnet c) rfl ?_
            exact kk
          exact sh_Lk_sub (sh_sub_c rfl (sh_sub_c rfl (sh_sub_c rfl (sh_sub_c rfl (sh_sub_c rfl (sh_sub_c rfl (sh_sub_c rfl (sh_sub_n)))))))) (sl_303_253 e tg)
      · refine sh_Lk_lift (T := m.T) (I := m.I) (J := m.J) (s := m.s) (pc2 := 253) (lv2 := [(0, .ref 67), (1, .int x1), (5, .long x5), (7, .int x7), (8, .int x8), (9, .int x9), (10, .int x10), (11, .int x11)]) (st2 := []) (I2 := m.I) (J2 := m.J) (fun hT v kk => ?_) ?_
        · refine sh_j0 (c := .ne) (off := (14)) (pc2 := 253) true rfl (sh_Bnet c) rfl ?_
          exact kk
        exact sh_Lk_sub (sh_sub_c rfl (sh_sub_c rfl (sh_sub_c rfl (sh_sub_c rfl (sh_sub_c rfl (sh_sub_c rfl (sh_sub_c rfl (sh_sub_n)))))))) (sl_303_253 e tg)
    · refine sh_Lk_lift (T := m.T) (I := m.I) (J := m.J) (s := m.s) (pc2 := 253) (lv2 := [(0, .ref 67), (1, .int x1), (5, .long x5), (7, .int x7), (8, .int x8), (9, .int x9), (10, .int x10), (11, .int x11)]) (st2 := []) (I2 := m.I) (J2 := m.J) (fun hT v kk => ?_) ?_
      · refine sh_jc (c := .ne) (off := (19)) (pc2 := 253) true rfl (sh_Bnet c) rfl ?_
        exact kk
      exact sh_Lk_sub (sh_sub_c rfl (sh_sub_c rfl (sh_sub_c rfl (sh_sub_c rfl (sh_sub_c rfl (sh_sub_c rfl (sh_sub_c rfl (sh_sub_n)))))))) (sl_303_253 e tg)
  · refine sh_Lk_lift (T := m.T) (I := m.I) (J := m.J) (s := m.s) (pc2 := 253) (lv2 := [(0, .ref 67), (1, .int x1), (5, .long x5), (7, .int x7), (8, .int x8), (9, .int x9), (10, .int x10), (11, .int x11)]) (st2 := []) (I2 := m.I) (J2 := m.J) (fun hT v kk => ?_) ?_
    · refine sh_jc (c := .ne) (off := (28)) (pc2 := 253) true rfl (sh_Bnet c) rfl ?_
      exact kk
    exact sh_Lk_sub (sh_sub_c rfl (sh_sub_c rfl (sh_sub_c rfl (sh_sub_c rfl (sh_sub_c rfl (sh_sub_c rfl (sh_sub_c rfl (sh_sub_n)))))))) (sl_303_253 e tg)
theorem sl_303_190 {x1 : Int32} {x5 : Int64} {x7 : Int32} {x8 : Int32} {x9 : Int32} {x10 : Int32} {x11 : Int32} {m m2 : sh_X} {o : Outcome} {z : (Bool × sh_X)} (e : sf_303_190 x1 x5 x7 x8 x9 x10 x11 m = some z) (tg : (sh_tZ o m2) z) : sh_Lk 303 190 [(0, .ref 67), (1, .int x1), (5, .long x5), (7, .int x7), (8, .int x8), (9, .int x9), (10, .int x10), (11, .int x11)] [] m o m2 13 326 := by
  unfold sf_303_190 at e
  refine sh_Lk_lift (T := m.T) (I := m.I) (J := m.J) (s := m.s) (pc2 := 195) (lv2 := [(0, .ref 67), (1, .int x1), (5, .long x5), (7, .int x7), (8, .int x8), (9, .int x9), (10, .int x10), (11, .int x11)]) (st2 := [.int 3, .int (m.I 66 43)]) (I2 := m.I) (J2 := m.J) (fun hT v kk => ?_) ?_
  · refine sh_w (i := (.aload_n 0)) (len := 1) (pc2 := 191) (lv2 := [(0, .ref 67), (1, .int x1), (5, .long x5), (7, .int x7), (8, .int x8), (9, .int x9), (10, .int x10), (11, .int x11)]) (st2 := [.ref 67]) (h2 := (sh_rep m.T m.I m.J)) rfl rfl rfl ?_
    refine sh_gI1 (len := 3) (x := m.I 66 43) (pc2 := 194) rfl rfl (sh_s66 hT.st) rfl rfl rfl ?_
    refine sh_w (i := (.iconst 3)) (len := 1) (pc2 := 195) (lv2 := [(0, .ref 67), (1, .int x1), (5, .long x5), (7, .int x7), (8, .int x8), (9, .int x9), (10, .int x10), (11, .int x11)]) (st2 := [.int 3, .int (m.I 66 43)]) (h2 := (sh_rep m.T m.I m.J)) rfl rfl rfl ?_
    exact kk
  rcases sh_ite e with ⟨c, e⟩ | ⟨c, e⟩
  · refine sh_Lk_lift (T := m.T) (I := m.I) (J := m.J) (s := m.s) (pc2 := 204) (lv2 := [(0, .ref 67), (1, .int x1), (5, .long x5), (7, .int x7), (8, .int x8), (9, .int x9), (10, .int x10), (11, .int x11)]) (st2 := [.int x1, .ref 76, .ref 67]) (I2 := m.I) (J2 := m.J) (fun hT v kk => ?_) ?_
    · refine sh_jc (c := .ne) (off := (24)) (pc2 := 198) false rfl (sh_Bnef c) rfl ?_
      refine sh_w (i := (.aload_n 0)) (len := 1) (pc2 := 199) (lv2 := [(0, .ref 67), (1, .int x1), (5, .long x5), (7, .int x7), (8, .int x8), (9, .int x9), (10, .int x10), (11, .int x11)]) (st2 := [.ref 67]) (h2 := (sh_rep m.T m.I m.J)) rfl rfl rfl ?_
      refine sh_w (i := (.aload_n 0)) (len := 1) (pc2 := 200) (lv2 := [(0, .ref 67), (1, .int x1), (5, .long x5), (7, .int x7), (8, .int x8), (9, .int x9), (10, .int x10), (11, .int x11)]) (st2 := [.ref 67, .ref 67]) (h2 := (sh_rep m.T m.I m.J)) rfl rfl rfl ?_
      refine sh_gR1 (len := 3) (x := .ref 76) (pc2 := 203) rfl rfl (sh_s66 hT.st) rfl rfl ?_
      refine sh_w (i := (.iload_n 1)) (len := 1) (pc2 := 204) (lv2 := [(0, .ref 67), (1, .int x1), (5, .long x5), (7, .int x7), (8, .int x8), (9, .int x9), (10, .int x10), (11, .int x11)]) (st2 := [.int x1, .ref 76, .ref 67]) (h2 := (sh_rep m.T m.I m.J)) rfl rfl rfl ?_
      exact kk
    obtain ⟨c, e⟩ := sh_gd e
    refine sh_Lk_lift (T := m.T) (I := m.I) (J := m.J) (s := m.s) (pc2 := 211) (lv2 := [(0, .ref 67), (1, .int x1), (5, .long x5), (7, .int x7), (8, .int x8), (9, .int x9), (10, .int x10), (11, .int x11)]) (st2 := [.int x10, .int x9, .int x8, .int (m.I 75 (Int32.toNatClampNeg x1)), .ref 67]) (I2 := m.I) (J2 := m.J) (fun hT v kk => ?_) ?_
    · refine sh_ia1 (x := m.I 75 (Int32.toNatClampNeg x1)) (pc2 := 205) rfl (sh_s75 hT.st) (sh_okb1 c) (sh_okb2 c) rfl rfl ?_
      refine sh_w (i := (.iload 8)) (len := 2) (pc2 := 207) (lv2 := [(0, .ref 67), (1, .int x1), (5, .long x5), (7, .int x7), (8, .int x8), (9, .int x9), (10, .int x10), (11, .int x11)]) (st2 := [.int x8, .int (m.I 75 (Int32.toNatClampNeg x1)), .ref 67]) (h2 := (sh_rep m.T m.I m.J)) rfl rfl rfl ?_
      refine sh_w (i := (.iload 9)) (len := 2) (pc2 := 209) (lv2 := [(0, .ref 67), (1, .int x1), (5, .long x5), (7, .int x7), (8, .int x8), (9, .int x9), (10, .int x10), (11, .int x11)]) (st2 := [.int x9, .int x8, .int (m.I 75 (Int32.toNatClampNeg x1)), .ref 67]) (h2 := (sh_rep m.T m.I m.J)) rfl rfl rfl ?_
      refine sh_w (i := (.iload 10)) (len := 2) (pc2 := 211) (lv2 := [(0, .ref 67), (1, .int x1), (5, .long x5), (7, .int x7), (8, .int x8), (9, .int x9), (10, .int x10), (11, .int x11)]) (st2 := [.int x10, .int x9, .int x8, .int (m.I 75 (Int32.toNatClampNeg x1)), .ref 67]) (h2 := (sh_rep m.T m.I m.J)) rfl rfl rfl ?_
      exact kk
    obtain ⟨r1, m11, e1, e⟩ := sh_bn_e e
    refine sh_Lk_cV (r := (some (.int (sh_b2 r1)))) (st2 := [.int (sh_b2 r1)]) (pc2 := 214) (k2 := 299) (a := 66) (as := [.ref 67, .int (m.I 75 (Int32.toNatClampNeg x1)), .int x8, .int x9, .int x10]) (rest := []) rfl rfl rfl (fun hT => (sh_s66 hT.st)) rfl rfl ⟨Nat.le_of_ble_eq_true rfl, Nat.le_of_ble_eq_true rfl⟩ (sl_299 e1 ⟨rfl, rfl⟩) rfl rfl (Nat.le_of_ble_eq_true rfl) (Nat.le_of_ble_eq_true rfl) ?_
    rcases sh_ite e with ⟨c, e⟩ | ⟨c, e⟩
    · refine sh_Lk_lift (T := m11.T) (I := m11.I) (J := m11.J) (s := m11.s) (pc2 := 219) (lv2 := [(0, .ref 67), (1, .int x1), (5, .long x5), (7, .int x7), (8, .int x8), (9, .int x9), (10, .int x10), (11, .int x11)]) (st2 := []) (I2 := m11.I) (J2 := m11.J) (fun hT v kk => ?_) ?_
      · refine sh_j0 (c := .ne) (off := (5)) (pc2 := 219) true rfl (sh_Znet c) rfl ?_
        exact kk
      exact sh_Lk_sub (sh_sub_c rfl (sh_sub_c rfl (sh_sub_c rfl (sh_sub_c rfl (sh_sub_c rfl (sh_sub_c rfl (sh_sub_c rfl (sh_sub_c rfl (sh_sub_n))))))))) (sl_303_219 e tg)
    · refine sh_Lk_lift (T := m11.T) (I := m11.I) (J := m11.J) (s := m11.s) (pc2 := 218) (lv2 := [(0, .ref 67), (1, .int x1), (5, .long x5), (7, .int x7), (8, .int x8), (9, .int x9), (10, .int x10), (11, .int x11)]) (st2 := [.int 0]) (I2 := m11.I) (J2 := m11.J) (fun hT v kk => ?_) ?_
      · refine sh_j0 (c := .ne) (off := (5)) (pc2 := 217) false rfl (sh_Znef c) rfl ?_
        refine sh_w (i := (.iconst 0)) (len := 1) (pc2 := 218) (lv2 := [(0, .ref 67), (1, .int x1), (5, .long x5), (7, .int x7), (8, .int x8), (9, .int x9), (10, .int x10), (11, .int x11)]) (st2 := [.int 0]) (h2 := (sh_rep m11.T m11.I m11.J)) rfl rfl rfl ?_
        exact kk
      obtain rfl := Option.some.inj e
      obtain ⟨rfl, rfl⟩ := tg
      exact sh_Lk_ret (i := .ireturn) rfl rfl rfl (Nat.le_of_ble_eq_true rfl) (Nat.le_of_ble_eq_true rfl)
  · refine sh_Lk_lift (T := m.T) (I := m.I) (J := m.J) (s := m.s) (pc2 := 219) (lv2 := [(0, .ref 67), (1, .int x1), (5, .long x5), (7, .int x7), (8, .int x8), (9, .int x9), (10, .int x10), (11, .int x11)]) (st2 := []) (I2 := m.I) (J2 := m.J) (fun hT v kk => ?_) ?_
    · refine sh_jc (c := .ne) (off := (24)) (pc2 := 219) true rfl (sh_Bnet c) rfl ?_
      exact kk
    exact sh_Lk_sub (sh_sub_c rfl (sh_sub_c rfl (sh_sub_c rfl (sh_sub_c rfl (sh_sub_c rfl (sh_sub_c rfl (sh_sub_c rfl (sh_sub_c rfl (sh_sub_n))))))))) (sl_303_219 e tg)
theorem sl_303_143 {x1 : Int32} {x5 : Int64} {x7 : Int32} {x11 : Int32} {x13 : Int32} {x14 : Int32} {x15 : Int32} {x16 : Int64} {y1 : Int32} {y2 : Int32} {y3 : Int32} {y4 : Int32} {m m2 : sh_X} {o : Outcome} {z : (Bool × sh_X)} (e : sf_303_143 x1 x5 x7 x11 x13 x14 x15 x16 y1 y2 y3 y4 m = some z) (tg : (sh_tZ o m2) z) : sh_Lk 303 143 [(0, .ref 67), (1, .int x1), (5, .long x5), (7, .int x7), (11, .int x11), (13, .int x13), (14, .int x14), (15, .int x15), (16, .long x16)] [.int y4, .int y3, .int y2, .int y1, .ref 67] m o m2 13 326 := by
  unfold sf_303_143 at e
  obtain ⟨r1, m11, e1, e⟩ := sh_bn_e e
  refine sh_Lk_cV (r := (some (.int (sh_b2 r1)))) (st2 := [.int (sh_b2 r1)]) (pc2 := 146) (k2 := 299) (a := 66) (as := [.ref 67, .int y1, .int y2, .int y3, .int y4]) (rest := []) rfl rfl rfl (fun hT => (sh_s66 hT.st)) rfl rfl ⟨Nat.le_of_ble_eq_true rfl, Nat.le_of_ble_eq_true rfl⟩ (sl_299 e1 ⟨rfl, rfl⟩) rfl rfl (Nat.le_of_ble_eq_true rfl) (Nat.le_of_ble_eq_true rfl) ?_
  rcases sh_ite e with ⟨c, e⟩ | ⟨c, e⟩
  · refine sh_Lk_lift (T := m11.T) (I := m11.I) (J := m11.J) (s := m11.s) (pc2 := 190) (lv2 := [(10, .int 0), (9, .int (m11.I 66 44)), (8, .int (m11.I 66 43)), (0, .ref 67), (1, .int x1), (5, .long x5), (7, .int x7), (11, .int x11), (13, .int x13), (14, .int x14), (15, .int x15), (16, .long x16)]) (st2 := []) (I2 := sh_u2 (sh_u2 (sh_u2 m11.I 66 43 x13) 66 44 x14) 66 45 x15) (J2 := sh_u2 m11.J 66 46 x16) (fun hT v kk => ?_) ?_
    · refine sh_j0 (c := .ne) (off := (5)) (pc2 := 151) true rfl (sh_Znet c) rfl ?_
      refine sh_w (i := (.aload_n 0)) (len := 1) (pc2 := 152) (lv2 := [(0, .ref 67), (1, .int x1), (5, .long x5), (7, .int x7), (11, .int x11), (13, .int x13), (14, .int x14), (15, .int x15), (16, .long x16)]) (st2 := [.ref 67]) (h2 := (sh_rep m11.T m11.I m11.J)) rfl rfl rfl ?_
      refine sh_gI1 (len := 3) (x := m11.I 66 43) (pc2 := 155) rfl rfl (sh_s66 hT.st) rfl rfl rfl ?_
      refine sh_w (i := (.istore 8)) (len := 2) (pc2 := 157) (lv2 := [(8, .int (m11.I 66 43)), (0, .ref 67), (1, .int x1), (5, .long x5), (7, .int x7), (11, .int x11), (13, .int x13), (14, .int x14), (15, .int x15), (16, .long x16)]) (st2 := []) (h2 := (sh_rep m11.T m11.I m11.J)) rfl rfl rfl ?_
      refine sh_w (i := (.aload_n 0)) (len := 1) (pc2 := 158) (lv2 := [(8, .int (m11.I 66 43)), (0, .ref 67), (1, .int x1), (5, .long x5), (7, .int x7), (11, .int x11), (13, .int x13), (14, .int x14), (15, .int x15), (16, .long x16)]) (st2 := [.ref 67]) (h2 := (sh_rep m11.T m11.I m11.J)) rfl rfl rfl ?_
      refine sh_gI1 (len := 3) (x := m11.I 66 44) (pc2 := 161) rfl rfl (sh_s66 hT.st) rfl rfl rfl ?_
      refine sh_w (i := (.istore 9)) (len := 2) (pc2 := 163) (lv2 := [(9, .int (m11.I 66 44)), (8, .int (m11.I 66 43)), (0, .ref 67), (1, .int x1), (5, .long x5), (7, .int x7), (11, .int x11), (13, .int x13), (14, .int x14), (15, .int x15), (16, .long x16)]) (st2 := []) (h2 := (sh_rep m11.T m11.I m11.J)) rfl rfl rfl ?_
      refine sh_w (i := (.iconst 0)) (len := 1) (pc2 := 164) (lv2 := [(9, .int (m11.I 66 44)), (8, .int (m11.I 66 43)), (0, .ref 67), (1, .int x1), (5, .long x5), (7, .int x7), (11, .int x11), (13, .int x13), (14, .int x14), (15, .int x15), (16, .long x16)]) (st2 := [.int 0]) (h2 := (sh_rep m11.T m11.I m11.J)) rfl rfl rfl ?_
      refine sh_w (i := (.istore 10)) (len := 2) (pc2 := 166) (lv2 := [(10, .int 0), (9, .int (m11.I 66 44)), (8, .int (m11.I 66 43)), (0, .ref 67), (1, .int x1), (5, .long x5), (7, .int x7), (11, .int x11), (13, .int x13), (14, .int x14), (15, .int x15), (16, .long x16)]) (st2 := []) (h2 := (sh_rep m11.T m11.I m11.J)) rfl rfl rfl ?_
      refine sh_w (i := (.aload_n 0)) (len := 1) (pc2 := 167) (lv2 := [(10, .int 0), (9, .int (m11.I 66 44)), (8, .int (m11.I 66 43)), (0, .ref 67), (1, .int x1), (5, .long x5), (7, .int x7), (11, .int x11), (13, .int x13), (14, .int x14), (15, .int x15), (16, .long x16)]) (st2 := [.ref 67]) (h2 := (sh_rep m11.T m11.I m11.J)) rfl rfl rfl ?_
      refine sh_w (i := (.iload 13)) (len := 2) (pc2 := 169) (lv2 := [(10, .int 0), (9, .int (m11.I 66 44)), (8, .int (m11.I 66 43)), (0, .ref 67), (1, .int x1), (5, .long x5), (7, .int x7), (11, .int x11), (13, .int x13), (14, .int x14), (15, .int x15), (16, .long x16)]) (st2 := [.int x13, .ref 67]) (h2 := (sh_rep m11.T m11.I m11.J)) rfl rfl rfl ?_
      refine sh_pI1 (x := x13) (pc2 := 172) rfl rfl (sh_s66 hT.st) rfl rfl rfl rfl ?_
      refine sh_w (i := (.aload_n 0)) (len := 1) (pc2 := 173) (lv2 := [(10, .int 0), (9, .int (m11.I 66 44)), (8, .int (m11.I 66 43)), (0, .ref 67), (1, .int x1), (5, .long x5), (7, .int x7), (11, .int x11), (13, .int x13), (14, .int x14), (15, .int x15), (16, .long x16)]) (st2 := [.ref 67]) (h2 := (sh_rep m11.T (sh_u2 m11.I 66 43 x13) m11.J)) rfl rfl rfl ?_
      refine sh_w (i := (.iload 14)) (len := 2) (pc2 := 175) (lv2 := [(10, .int 0), (9, .int (m11.I 66 44)), (8, .int (m11.I 66 43)), (0, .ref 67), (1, .int x1), (5, .long x5), (7, .int x7), (11, .int x11), (13, .int x13), (14, .int x14), (15, .int x15), (16, .long x16)]) (st2 := [.int x14, .ref 67]) (h2 := (sh_rep m11.T (sh_u2 m11.I 66 43 x13) m11.J)) rfl rfl rfl ?_
      refine sh_pI1 (x := x14) (pc2 := 178) rfl rfl (sh_s66 hT.st) rfl rfl rfl rfl ?_
      refine sh_w (i := (.aload_n 0)) (len := 1) (pc2 := 179) (lv2 := [(10, .int 0), (9, .int (m11.I 66 44)), (8, .int (m11.I 66 43)), (0, .ref 67), (1, .int x1), (5, .long x5), (7, .int x7), (11, .int x11), (13, .int x13), (14, .int x14), (15, .int x15), (16, .long x16)]) (st2 := [.ref 67]) (h2 := (sh_rep m11.T (sh_u2 (sh_u2 m11.I 66 43 x13) 66 44 x14) m11.J)) rfl rfl rfl ?_
      refine sh_w (i := (.iload 15)) (len := 2) (pc2 := 181) (lv2 := [(10, .int 0), (9, .int (m11.I 66 44)), (8, .int (m11.I 66 43)), (0, .ref 67), (1, .int x1), (5, .long x5), (7, .int x7), (11, .int x11), (13, .int x13), (14, .int x14), (15, .int x15), (16, .long x16)]) (st2 := [.int x15, .ref 67]) (h2 := (sh_rep m11.T (sh_u2 (sh_u2 m11.I 66 43 x13) 66 44 x14) m11.J)) rfl rfl rfl ?_
      refine sh_pI1 (x := x15) (pc2 := 184) rfl rfl (sh_s66 hT.st) rfl rfl rfl rfl ?_
      refine sh_w (i := (.aload_n 0)) (len := 1) (pc2 := 185) (lv2 := [(10, .int 0), (9, .int (m11.I 66 44)), (8, .int (m11.I 66 43)), (0, .ref 67), (1, .int x1), (5, .long x5), (7, .int x7), (11, .int x11), (13, .int x13), (14, .int x14), (15, .int x15), (16, .long x16)]) (st2 := [.ref 67]) (h2 := (sh_rep m11.T (sh_u2 (sh_u2 (sh_u2 m11.I 66 43 x13) 66 44 x14) 66 45 x15) m11.J)) rfl rfl rfl ?_
      refine sh_w (i := (.lload 16)) (len := 2) (pc2 := 187) (lv2 := [(10, .int 0), (9, .int (m11.I 66 44)), (8, .int (m11.I 66 43)), (0, .ref 67), (1, .int x1), (5, .long x5), (7, .int x7), (11, .int x11), (13, .int x13), (14, .int x14), (15, .int x15), (16, .long x16)]) (st2 := [.long x16, .ref 67]) (h2 := (sh_rep m11.T (sh_u2 (sh_u2 (sh_u2 m11.I 66 43 x13) 66 44 x14) 66 45 x15) m11.J)) rfl rfl rfl ?_
      refine sh_pJ1 (x := x16) (pc2 := 190) rfl rfl (sh_s66 hT.st) rfl rfl rfl rfl ?_
      exact kk
    exact sh_Lk_sub (sh_sub_c rfl (sh_sub_c rfl (sh_sub_c rfl (sh_sub_c rfl (sh_sub_c rfl (sh_sub_c rfl (sh_sub_c rfl (sh_sub_c rfl (sh_sub_n))))))))) (sl_303_190 e tg)
  · refine sh_Lk_lift (T := m11.T) (I := m11.I) (J := m11.J) (s := m11.s) (pc2 := 150) (lv2 := [(0, .ref 67), (1, .int x1), (5, .long x5), (7, .int x7), (11, .int x11), (13, .int x13), (14, .int x14), (15, .int x15), (16, .long x16)]) (st2 := [.int 0]) (I2 := m11.I) (J2 := m11.J) (fun hT v kk => ?_) ?_
    · refine sh_j0 (c := .ne) (off := (5)) (pc2 := 149) false rfl (sh_Znef c) rfl ?_
      refine sh_w (i := (.iconst 0)) (len := 1) (pc2 := 150) (lv2 := [(0, .ref 67), (1, .int x1), (5, .long x5), (7, .int x7), (11, .int x11), (13, .int x13), (14, .int x14), (15, .int x15), (16, .long x16)]) (st2 := [.int 0]) (h2 := (sh_rep m11.T m11.I m11.J)) rfl rfl rfl ?_
      exact kk
    obtain rfl := Option.some.inj e
    obtain ⟨rfl, rfl⟩ := tg
    exact sh_Lk_ret (i := .ireturn) rfl rfl rfl (Nat.le_of_ble_eq_true rfl) (Nat.le_of_ble_eq_true rfl)
theorem sl_303_132 {x1 : Int32} {x5 : Int64} {x7 : Int32} {x11 : Int32} {x12 : Bool} {x13 : Int32} {x14 : Int32} {x15 : Int32} {x16 : Int64} {y1 : Int32} {y2 : Int32} {y3 : Int32} {m m2 : sh_X} {o : Outcome} {z : (Bool × sh_X)} (e : sf_303_132 x1 x5 x7 x11 x12 x13 x14 x15 x16 y1 y2 y3 m = some z) (tg : (sh_tZ o m2) z) : sh_Lk 303 132 [(0, .ref 67), (1, .int x1), (5, .long x5), (7, .int x7), (11, .int x11), (12, .int (sh_b2 x12)), (13, .int x13), (14, .int x14), (15, .int x15), (16, .long x16)] [.int y3, .int y2, .int y1, .ref 67] m o m2 13 326 := by
  unfold sf_303_132 at e
  refine sh_Lk_lift (T := m.T) (I := m.I) (J := m.J) (s := m.s) (pc2 := 134) (lv2 := [(0, .ref 67), (1, .int x1), (5, .long x5), (7, .int x7), (11, .int x11), (12, .int (sh_b2 x12)), (13, .int x13), (14, .int x14), (15, .int x15), (16, .long x16)]) (st2 := [.int (sh_b2 x12), .int y3, .int y2, .int y1, .ref 67]) (I2 := m.I) (J2 := m.J) (fun hT v kk => ?_) ?_
  · refine sh_w (i := (.iload 12)) (len := 2) (pc2 := 134) (lv2 := [(0, .ref 67), (1, .int x1), (5, .long x5), (7, .int x7), (11, .int x11), (12, .int (sh_b2 x12)), (13, .int x13), (14, .int x14), (15, .int x15), (16, .long x16)]) (st2 := [.int (sh_b2 x12), .int y3, .int y2, .int y1, .ref 67]) (h2 := (sh_rep m.T m.I m.J)) rfl rfl rfl ?_
    exact kk
  rcases sh_ite e with ⟨c, e⟩ | ⟨c, e⟩
  · refine sh_Lk_lift (T := m.T) (I := m.I) (J := m.J) (s := m.s) (pc2 := 143) (lv2 := [(0, .ref 67), (1, .int x1), (5, .long x5), (7, .int x7), (11, .int x11), (12, .int (sh_b2 x12)), (13, .int x13), (14, .int x14), (15, .int x15), (16, .long x16)]) (st2 := [.int x15, .int y3, .int y2, .int y1, .ref 67]) (I2 := m.I) (J2 := m.J) (fun hT v kk => ?_) ?_
    · refine sh_j0 (c := .eq) (off := (8)) (pc2 := 137) false rfl (sh_Zeqf c) rfl ?_
      refine sh_w (i := (.iload 15)) (len := 2) (pc2 := 139) (lv2 := [(0, .ref 67), (1, .int x1), (5, .long x5), (7, .int x7), (11, .int x11), (12, .int (sh_b2 x12)), (13, .int x13), (14, .int x14), (15, .int x15), (16, .long x16)]) (st2 := [.int x15, .int y3, .int y2, .int y1, .ref 67]) (h2 := (sh_rep m.T m.I m.J)) rfl rfl rfl ?_
      refine sh_w (i := (.goto 4)) (len := 3) (pc2 := 143) (lv2 := [(0, .ref 67), (1, .int x1), (5, .long x5), (7, .int x7), (11, .int x11), (12, .int (sh_b2 x12)), (13, .int x13), (14, .int x14), (15, .int x15), (16, .long x16)]) (st2 := [.int x15, .int y3, .int y2, .int y1, .ref 67]) (h2 := (sh_rep m.T m.I m.J)) rfl rfl rfl ?_
      exact kk
    exact sh_Lk_sub (sh_sub_c rfl (sh_sub_c rfl (sh_sub_c rfl (sh_sub_c rfl (sh_sub_c rfl (sh_sub_c rfl (sh_sub_c rfl (sh_sub_c rfl (sh_sub_c rfl (sh_sub_n)))))))))) (sl_303_143 e tg)
  · refine sh_Lk_lift (T := m.T) (I := m.I) (J := m.J) (s := m.s) (pc2 := 143) (lv2 := [(0, .ref 67), (1, .int x1), (5, .long x5), (7, .int x7), (11, .int x11), (12, .int (sh_b2 x12)), (13, .int x13), (14, .int x14), (15, .int x15), (16, .long x16)]) (st2 := [.int 0, .int y3, .int y2, .int y1, .ref 67]) (I2 := m.I) (J2 := m.J) (fun hT v kk => ?_) ?_
    · refine sh_j0 (c := .eq) (off := (8)) (pc2 := 142) true rfl (sh_Zeqt c) rfl ?_
      refine sh_w (i := (.iconst 0)) (len := 1) (pc2 := 143) (lv2 := [(0, .ref 67), (1, .int x1), (5, .long x5), (7, .int x7), (11, .int x11), (12, .int (sh_b2 x12)), (13, .int x13), (14, .int x14), (15, .int x15), (16, .long x16)]) (st2 := [.int 0, .int y3, .int y2, .int y1, .ref 67]) (h2 := (sh_rep m.T m.I m.J)) rfl rfl rfl ?_
      exact kk
    exact sh_Lk_sub (sh_sub_c rfl (sh_sub_c rfl (sh_sub_c rfl (sh_sub_c rfl (sh_sub_c rfl (sh_sub_c rfl (sh_sub_c rfl (sh_sub_c rfl (sh_sub_c rfl (sh_sub_n)))))))))) (sl_303_143 e tg)
theorem sl_303_120 {x1 : Int32} {x5 : Int64} {x7 : Int32} {x11 : Int32} {x12 : Bool} {x13 : Int32} {x14 : Int32} {x15 : Int32} {x16 : Int64} {y1 : Int32} {y2 : Int32} {m m2 : sh_X} {o : Outcome} {z : (Bool × sh_X)} (e : sf_303_120 x1 x5 x7 x11 x12 x13 x14 x15 x16 y1 y2 m = some z) (tg : (sh_tZ o m2) z) : sh_Lk 303 120 [(0, .ref 67), (1, .int x1), (5, .long x5), (7, .int x7), (11, .int x11), (12, .int (sh_b2 x12)), (13, .int x13), (14, .int x14), (15, .int x15), (16, .long x16)] [.int y2, .int y1, .ref 67] m o m2 13 326 := by
  unfold sf_303_120 at e
  refine sh_Lk_lift (T := m.T) (I := m.I) (J := m.J) (s := m.s) (pc2 := 122) (lv2 := [(0, .ref 67), (1, .int x1), (5, .long x5), (7, .int x7), (11, .int x11), (12, .int (sh_b2 x12)), (13, .int x13), (14, .int x14), (15, .int x15), (16, .long x16)]) (st2 := [.int (sh_b2 x12), .int y2, .int y1, .ref 67]) (I2 := m.I) (J2 := m.J) (fun hT v kk => ?_) ?_
  · refine sh_w (i := (.iload 12)) (len := 2) (pc2 := 122) (lv2 := [(0, .ref 67), (1, .int x1), (5, .long x5), (7, .int x7), (11, .int x11), (12, .int (sh_b2 x12)), (13, .int x13), (14, .int x14), (15, .int x15), (16, .long x16)]) (st2 := [.int (sh_b2 x12), .int y2, .int y1, .ref 67]) (h2 := (sh_rep m.T m.I m.J)) rfl rfl rfl ?_
    exact kk
  rcases sh_ite e with ⟨c, e⟩ | ⟨c, e⟩
  · refine sh_Lk_lift (T := m.T) (I := m.I) (J := m.J) (s := m.s) (pc2 := 132) (lv2 := [(0, .ref 67), (1, .int x1), (5, .long x5), (7, .int x7), (11, .int x11), (12, .int (sh_b2 x12)), (13, .int x13), (14, .int x14), (15, .int x15), (16, .long x16)]) (st2 := [.int x14, .int y2, .int y1, .ref 67]) (I2 := m.I) (J2 := m.J) (fun hT v kk => ?_) ?_
    · refine sh_j0 (c := .eq) (off := (8)) (pc2 := 125) false rfl (sh_Zeqf c) rfl ?_
      refine sh_w (i := (.iload 14)) (len := 2) (pc2 := 127) (lv2 := [(0, .ref 67), (1, .int x1), (5, .long x5), (7, .int x7), (11, .int x11), (12, .int (sh_b2 x12)), (13, .int x13), (14, .int x14), (15, .int x15), (16, .long x16)]) (st2 := [.int x14, .int y2, .int y1, .ref 67]) (h2 := (sh_rep m.T m.I m.J)) rfl rfl rfl ?_
      refine sh_w (i := (.goto 5)) (len := 3) (pc2 := 132) (lv2 := [(0, .ref 67), (1, .int x1), (5, .long x5), (7, .int x7), (11, .int x11), (12, .int (sh_b2 x12)), (13, .int x13), (14, .int x14), (15, .int x15), (16, .long x16)]) (st2 := [.int x14, .int y2, .int y1, .ref 67]) (h2 := (sh_rep m.T m.I m.J)) rfl rfl rfl ?_
      exact kk
    exact sh_Lk_sub (sh_sub_c rfl (sh_sub_c rfl (sh_sub_c rfl (sh_sub_c rfl (sh_sub_c rfl (sh_sub_c rfl (sh_sub_c rfl (sh_sub_c rfl (sh_sub_c rfl (sh_sub_c rfl (sh_sub_n))))))))))) (sl_303_132 e tg)
  · refine sh_Lk_lift (T := m.T) (I := m.I) (J := m.J) (s := m.s) (pc2 := 132) (lv2 := [(0, .ref 67), (1, .int x1), (5, .long x5), (7, .int x7), (11, .int x11), (12, .int (sh_b2 x12)), (13, .int x13), (14, .int x14), (15, .int x15), (16, .long x16)]) (st2 := [.int 32, .int y2, .int y1, .ref 67]) (I2 := m.I) (J2 := m.J) (fun hT v kk => ?_) ?_
    · refine sh_j0 (c := .eq) (off := (8)) (pc2 := 130) true rfl (sh_Zeqt c) rfl ?_
      refine sh_w (i := (.bipush 32)) (len := 2) (pc2 := 132) (lv2 := [(0, .ref 67), (1, .int x1), (5, .long x5), (7, .int x7), (11, .int x11), (12, .int (sh_b2 x12)), (13, .int x13), (14, .int x14), (15, .int x15), (16, .long x16)]) (st2 := [.int 32, .int y2, .int y1, .ref 67]) (h2 := (sh_rep m.T m.I m.J)) rfl rfl rfl ?_
      exact kk
    exact sh_Lk_sub (sh_sub_c rfl (sh_sub_c rfl (sh_sub_c rfl (sh_sub_c rfl (sh_sub_c rfl (sh_sub_c rfl (sh_sub_c rfl (sh_sub_c rfl (sh_sub_c rfl (sh_sub_c rfl (sh_sub_n))))))))))) (sl_303_132 e tg)
theorem sl_303_70 {x1 : Int32} {x5 : Int64} {x7 : Int32} {x11 : Int32} {y0 : Bool} {m m2 : sh_X} {o : Outcome} {z : (Bool × sh_X)} (e : sf_303_70 x1 x5 x7 x11 y0 m = some z) (tg : (sh_tZ o m2) z) : sh_Lk 303 70 [(0, .ref 67), (1, .int x1), (5, .long x5), (7, .int x7), (11, .int x11)] [.int (sh_b2 y0)] m o m2 13 326 := by
  unfold sf_303_70 at e
  refine sh_Lk_lift (T := m.T) (I := m.I) (J := m.J) (s := m.s) (pc2 := 108) (lv2 := [(16, .long (m.J 66 46)), (15, .int (m.I 66 45)), (14, .int (m.I 66 44)), (13, .int (m.I 66 43)), (12, .int (sh_b2 y0)), (0, .ref 67), (1, .int x1), (5, .long x5), (7, .int x7), (11, .int x11)]) (st2 := [.int x1, .ref 75, .ref 67]) (I2 := m.I) (J2 := sh_u2 m.J 66 46 x5) (fun hT v kk => ?_) ?_
  · refine sh_w (i := (.istore 12)) (len := 2) (pc2 := 72) (lv2 := [(12, .int (sh_b2 y0)), (0, .ref 67), (1, .int x1), (5, .long x5), (7, .int x7), (11, .int x11)]) (st2 := []) (h2 := (sh_rep m.T m.I m.J)) rfl rfl rfl ?_
    refine sh_w (i := (.aload_n 0)) (len := 1) (pc2 := 73) (lv2 := [(12, .int (sh_b2 y0)), (0, .ref 67), (1, .int x1), (5, .long x5), (7, .int x7), (11, .int x11)]) (st2 := [.ref 67]) (h2 := (sh_rep m.T m.I m.J)) rfl rfl rfl ?_
    refine sh_gI1 (len := 3) (x := m.I 66 43) (pc2 := 76) rfl rfl (sh_s66 hT.st) rfl rfl rfl ?_
    refine sh_w (i := (.istore 13)) (len := 2) (pc2 := 78) (lv2 := [(13, .int (m.I 66 43)), (12, .int (sh_b2 y0)), (0, .ref 67), (1, .int x1), (5, .long x5), (7, .int x7), (11, .int x11)]) (st2 := []) (h2 := (sh_rep m.T m.I m.J)) rfl rfl rfl ?_
    refine sh_w (i := (.aload_n 0)) (len := 1) (pc2 := 79) (lv2 := [(13, .int (m.I 66 43)), (12, .int (sh_b2 y0)), (0, .ref 67), (1, .int x1), (5, .long x5), (7, .int x7), (11, .int x11)]) (st2 := [.ref 67]) (h2 := (sh_rep m.T m.I m.J)) rfl rfl rfl ?_
    refine sh_gI1 (len := 3) (x := m.I 66 44) (pc2 := 82) rfl rfl (sh_s66 hT.st) rfl rfl rfl ?_
    refine sh_w (i := (.istore 14)) (len := 2) (pc2 := 84) (lv2 := [(14, .int (m.I 66 44)), (13, .int (m.I 66 43)), (12, .int (sh_b2 y0)), (0, .ref 67), (1, .int x1), (5, .long x5), (7, .int x7), (11, .int x11)]) (st2 := []) (h2 := (sh_rep m.T m.I m.J)) rfl rfl rfl ?_
    refine sh_w (i := (.aload_n 0)) (len := 1) (pc2 := 85) (lv2 := [(14, .int (m.I 66 44)), (13, .int (m.I 66 43)), (12, .int (sh_b2 y0)), (0, .ref 67), (1, .int x1), (5, .long x5), (7, .int x7), (11, .int x11)]) (st2 := [.ref 67]) (h2 := (sh_rep m.T m.I m.J)) rfl rfl rfl ?_
    refine sh_gI1 (len := 3) (x := m.I 66 45) (pc2 := 88) rfl rfl (sh_s66 hT.st) rfl rfl rfl ?_
    refine sh_w (i := (.istore 15)) (len := 2) (pc2 := 90) (lv2 := [(15, .int (m.I 66 45)), (14, .int (m.I 66 44)), (13, .int (m.I 66 43)), (12, .int (sh_b2 y0)), (0, .ref 67), (1, .int x1), (5, .long x5), (7, .int x7), (11, .int x11)]) (st2 := []) (h2 := (sh_rep m.T m.I m.J)) rfl rfl rfl ?_
    refine sh_w (i := (.aload_n 0)) (len := 1) (pc2 := 91) (lv2 := [(15, .int (m.I 66 45)), (14, .int (m.I 66 44)), (13, .int (m.I 66 43)), (12, .int (sh_b2 y0)), (0, .ref 67), (1, .int x1), (5, .long x5), (7, .int x7), (11, .int x11)]) (st2 := [.ref 67]) (h2 := (sh_rep m.T m.I m.J)) rfl rfl rfl ?_
    refine sh_gJ1 (len := 3) (x := m.J 66 46) (pc2 := 94) rfl rfl (sh_s66 hT.st) rfl rfl rfl ?_
    refine sh_w (i := (.lstore 16)) (len := 2) (pc2 := 96) (lv2 := [(16, .long (m.J 66 46)), (15, .int (m.I 66 45)), (14, .int (m.I 66 44)), (13, .int (m.I 66 43)), (12, .int (sh_b2 y0)), (0, .ref 67), (1, .int x1), (5, .long x5), (7, .int x7), (11, .int x11)]) (st2 := []) (h2 := (sh_rep m.T m.I m.J)) rfl rfl rfl ?_
    refine sh_w (i := (.aload_n 0)) (len := 1) (pc2 := 97) (lv2 := [(16, .long (m.J 66 46)), (15, .int (m.I 66 45)), (14, .int (m.I 66 44)), (13, .int (m.I 66 43)), (12, .int (sh_b2 y0)), (0, .ref 67), (1, .int x1), (5, .long x5), (7, .int x7), (11, .int x11)]) (st2 := [.ref 67]) (h2 := (sh_rep m.T m.I m.J)) rfl rfl rfl ?_
    refine sh_w (i := (.lload 5)) (len := 2) (pc2 := 99) (lv2 := [(16, .long (m.J 66 46)), (15, .int (m.I 66 45)), (14, .int (m.I 66 44)), (13, .int (m.I 66 43)), (12, .int (sh_b2 y0)), (0, .ref 67), (1, .int x1), (5, .long x5), (7, .int x7), (11, .int x11)]) (st2 := [.long x5, .ref 67]) (h2 := (sh_rep m.T m.I m.J)) rfl rfl rfl ?_
    refine sh_pJ1 (x := x5) (pc2 := 102) rfl rfl (sh_s66 hT.st) rfl rfl rfl rfl ?_
    refine sh_w (i := (.aload_n 0)) (len := 1) (pc2 := 103) (lv2 := [(16, .long (m.J 66 46)), (15, .int (m.I 66 45)), (14, .int (m.I 66 44)), (13, .int (m.I 66 43)), (12, .int (sh_b2 y0)), (0, .ref 67), (1, .int x1), (5, .long x5), (7, .int x7), (11, .int x11)]) (st2 := [.ref 67]) (h2 := (sh_rep m.T m.I (sh_u2 m.J 66 46 x5))) rfl rfl rfl ?_
    refine sh_w (i := (.aload_n 0)) (len := 1) (pc2 := 104) (lv2 := [(16, .long (m.J 66 46)), (15, .int (m.I 66 45)), (14, .int (m.I 66 44)), (13, .int (m.I 66 43)), (12, .int (sh_b2 y0)), (0, .ref 67), (1, .int x1), (5, .long x5), (7, .int x7), (11, .int x11)]) (st2 := [.ref 67, .ref 67]) (h2 := (sh_rep m.T m.I (sh_u2 m.J 66 46 x5))) rfl rfl rfl ?_
    refine sh_gR1 (len := 3) (x := .ref 75) (pc2 := 107) rfl rfl (sh_s66 hT.st) rfl rfl ?_
    refine sh_w (i := (.iload_n 1)) (len := 1) (pc2 := 108) (lv2 := [(16, .long (m.J 66 46)), (15, .int (m.I 66 45)), (14, .int (m.I 66 44)), (13, .int (m.I 66 43)), (12, .int (sh_b2 y0)), (0, .ref 67), (1, .int x1), (5, .long x5), (7, .int x7), (11, .int x11)]) (st2 := [.int x1, .ref 75, .ref 67]) (h2 := (sh_rep m.T m.I (sh_u2 m.J 66 46 x5))) rfl rfl rfl ?_
    exact kk
  obtain ⟨c, e⟩ := sh_gd e
  refine sh_Lk_lift (T := m.T) (I := m.I) (J := sh_u2 m.J 66 46 x5) (s := m.s) (pc2 := 111) (lv2 := [(16, .long (m.J 66 46)), (15, .int (m.I 66 45)), (14, .int (m.I 66 44)), (13, .int (m.I 66 43)), (12, .int (sh_b2 y0)), (0, .ref 67), (1, .int x1), (5, .long x5), (7, .int x7), (11, .int x11)]) (st2 := [.int (sh_b2 y0), .int (m.I 74 (Int32.toNatClampNeg x1)), .ref 67]) (I2 := m.I) (J2 := sh_u2 m.J 66 46 x5) (fun hT v kk => ?_) ?_
  · refine sh_ia1 (x := m.I 74 (Int32.toNatClampNeg x1)) (pc2 := 109) rfl (sh_s74 hT.st) (sh_okb1 c) (sh_okb2 c) rfl rfl ?_
    refine sh_w (i := (.iload 12)) (len := 2) (pc2 := 111) (lv2 := [(16, .long (m.J 66 46)), (15, .int (m.I 66 45)), (14, .int (m.I 66 44)), (13, .int (m.I 66 43)), (12, .int (sh_b2 y0)), (0, .ref 67), (1, .int x1), (5, .long x5), (7, .int x7), (11, .int x11)]) (st2 := [.int (sh_b2 y0), .int (m.I 74 (Int32.toNatClampNeg x1)), .ref 67]) (h2 := (sh_rep m.T m.I (sh_u2 m.J 66 46 x5))) rfl rfl rfl ?_
    exact kk
  rcases sh_ite e with ⟨c, e⟩ | ⟨c, e⟩
  · refine sh_Lk_lift (T := m.T) (I := m.I) (J := sh_u2 m.J 66 46 x5) (s := m.s) (pc2 := 120) (lv2 := [(16, .long (m.J 66 46)), (15, .int (m.I 66 45)), (14, .int (m.I 66 44)), (13, .int (m.I 66 43)), (12, .int (sh_b2 y0)), (0, .ref 67), (1, .int x1), (5, .long x5), (7, .int x7), (11, .int x11)]) (st2 := [.int (m.I 66 43), .int (m.I 74 (Int32.toNatClampNeg x1)), .ref 67]) (I2 := m.I) (J2 := sh_u2 m.J 66 46 x5) (fun hT v kk => ?_) ?_
    · refine sh_j0 (c := .eq) (off := (8)) (pc2 := 114) false rfl (sh_Zeqf c) rfl ?_
      refine sh_w (i := (.iload 13)) (len := 2) (pc2 := 116) (lv2 := [(16, .long (m.J 66 46)), (15, .int (m.I 66 45)), (14, .int (m.I 66 44)), (13, .int (m.I 66 43)), (12, .int (sh_b2 y0)), (0, .ref 67), (1, .int x1), (5, .long x5), (7, .int x7), (11, .int x11)]) (st2 := [.int (m.I 66 43), .int (m.I 74 (Int32.toNatClampNeg x1)), .ref 67]) (h2 := (sh_rep m.T m.I (sh_u2 m.J 66 46 x5))) rfl rfl rfl ?_
      refine sh_w (i := (.goto 4)) (len := 3) (pc2 := 120) (lv2 := [(16, .long (m.J 66 46)), (15, .int (m.I 66 45)), (14, .int (m.I 66 44)), (13, .int (m.I 66 43)), (12, .int (sh_b2 y0)), (0, .ref 67), (1, .int x1), (5, .long x5), (7, .int x7), (11, .int x11)]) (st2 := [.int (m.I 66 43), .int (m.I 74 (Int32.toNatClampNeg x1)), .ref 67]) (h2 := (sh_rep m.T m.I (sh_u2 m.J 66 46 x5))) rfl rfl rfl ?_
      exact kk
    exact sh_Lk_sub (sh_sub_c rfl (sh_sub_c rfl (sh_sub_c rfl (sh_sub_c rfl (sh_sub_c rfl (sh_sub_c rfl (sh_sub_c rfl (sh_sub_c rfl (sh_sub_c rfl (sh_sub_c rfl (sh_sub_n))))))))))) (sl_303_120 e tg)
  · refine sh_Lk_lift (T := m.T) (I := m.I) (J := sh_u2 m.J 66 46 x5) (s := m.s) (pc2 := 120) (lv2 := [(16, .long (m.J 66 46)), (15, .int (m.I 66 45)), (14, .int (m.I 66 44)), (13, .int (m.I 66 43)), (12, .int (sh_b2 y0)), (0, .ref 67), (1, .int x1), (5, .long x5), (7, .int x7), (11, .int x11)]) (st2 := [.int 2, .int (m.I 74 (Int32.toNatClampNeg x1)), .ref 67]) (I2 := m.I) (J2 := sh_u2 m.J 66 46 x5) (fun hT v kk => ?_) ?_
    · refine sh_j0 (c := .eq) (off := (8)) (pc2 := 119) true rfl (sh_Zeqt c) rfl ?_
      refine sh_w (i := (.iconst 2)) (len := 1) (pc2 := 120) (lv2 := [(16, .long (m.J 66 46)), (15, .int (m.I 66 45)), (14, .int (m.I 66 44)), (13, .int (m.I 66 43)), (12, .int (sh_b2 y0)), (0, .ref 67), (1, .int x1), (5, .long x5), (7, .int x7), (11, .int x11)]) (st2 := [.int 2, .int (m.I 74 (Int32.toNatClampNeg x1)), .ref 67]) (h2 := (sh_rep m.T m.I (sh_u2 m.J 66 46 x5))) rfl rfl rfl ?_
      exact kk
    exact sh_Lk_sub (sh_sub_c rfl (sh_sub_c rfl (sh_sub_c rfl (sh_sub_c rfl (sh_sub_c rfl (sh_sub_c rfl (sh_sub_c rfl (sh_sub_c rfl (sh_sub_c rfl (sh_sub_c rfl (sh_sub_n))))))))))) (sl_303_120 e tg)
theorem sl_303 {x1 : Int32} {x2 : Int32} {x3 : Int32} {x4 : Int32} {x5 : Int64} {m m2 : sh_X} {o : Outcome} {z : (Bool × sh_X)} (e : sf_303 x1 x2 x3 x4 x5 m = some z) (tg : (sh_tZ o m2) z) : sh_Lk 303 0 [(0, .ref 67), (1, .int x1), (2, .int x2), (3, .int x3), (4, .int x4), (5, .long x5)] [] m o m2 13 326 := by
  unfold sf_303 at e
  refine sh_Lk_lift (T := m.T) (I := m.I) (J := m.J) (s := m.s) (pc2 := 9) (lv2 := [(0, .ref 67), (1, .int x1), (2, .int x2), (3, .int x3), (4, .int x4), (5, .long x5)]) (st2 := [.int x1, .ref 74, .ref 69]) (I2 := m.I) (J2 := m.J) (fun hT v kk => ?_) ?_
  · refine sh_w (i := (.aload_n 0)) (len := 1) (pc2 := 1) (lv2 := [(0, .ref 67), (1, .int x1), (2, .int x2), (3, .int x3), (4, .int x4), (5, .long x5)]) (st2 := [.ref 67]) (h2 := (sh_rep m.T m.I m.J)) rfl rfl rfl ?_
    refine sh_gR1 (len := 3) (x := .ref 69) (pc2 := 4) rfl rfl (sh_s66 hT.st) rfl rfl ?_
    refine sh_w (i := (.aload_n 0)) (len := 1) (pc2 := 5) (lv2 := [(0, .ref 67), (1, .int x1), (2, .int x2), (3, .int x3), (4, .int x4), (5, .long x5)]) (st2 := [.ref 67, .ref 69]) (h2 := (sh_rep m.T m.I m.J)) rfl rfl rfl ?_
    refine sh_gR1 (len := 3) (x := .ref 74) (pc2 := 8) rfl rfl (sh_s66 hT.st) rfl rfl ?_
    refine sh_w (i := (.iload_n 1)) (len := 1) (pc2 := 9) (lv2 := [(0, .ref 67), (1, .int x1), (2, .int x2), (3, .int x3), (4, .int x4), (5, .long x5)]) (st2 := [.int x1, .ref 74, .ref 69]) (h2 := (sh_rep m.T m.I m.J)) rfl rfl rfl ?_
    exact kk
  obtain ⟨c, e⟩ := sh_gd e
  refine sh_Lk_lift (T := m.T) (I := m.I) (J := m.J) (s := m.s) (pc2 := 10) (lv2 := [(0, .ref 67), (1, .int x1), (2, .int x2), (3, .int x3), (4, .int x4), (5, .long x5)]) (st2 := [.int (m.I 73 (Int32.toNatClampNeg x1)), .ref 69]) (I2 := m.I) (J2 := m.J) (fun hT v kk => ?_) ?_
  · refine sh_ia1 (x := m.I 73 (Int32.toNatClampNeg x1)) (pc2 := 10) rfl (sh_s73 hT.st) (sh_okb1 c) (sh_okb2 c) rfl rfl ?_
    exact kk
  obtain ⟨c, e⟩ := sh_gd e
  refine sh_Lk_lift (T := m.T) (I := m.I) (J := m.J) (s := m.s) (pc2 := 25) (lv2 := [(10, .int x4), (9, .int x3), (8, .int x2), (7, .int (m.I 68 (Int32.toNatClampNeg (m.I 73 (Int32.toNatClampNeg x1))))), (0, .ref 67), (1, .int x1), (2, .int x2), (3, .int x3), (4, .int x4), (5, .long x5)]) (st2 := [.int (m.I 68 (Int32.toNatClampNeg (m.I 73 (Int32.toNatClampNeg x1))))]) (I2 := m.I) (J2 := m.J) (fun hT v kk => ?_) ?_
  · refine sh_ia1 (x := m.I 68 (Int32.toNatClampNeg (m.I 73 (Int32.toNatClampNeg x1)))) (pc2 := 11) rfl (sh_s68 hT.st) (sh_okb1 c) (sh_okb2 c) rfl rfl ?_
    refine sh_w (i := (.istore 7)) (len := 2) (pc2 := 13) (lv2 := [(7, .int (m.I 68 (Int32.toNatClampNeg (m.I 73 (Int32.toNatClampNeg x1))))), (0, .ref 67), (1, .int x1), (2, .int x2), (3, .int x3), (4, .int x4), (5, .long x5)]) (st2 := []) (h2 := (sh_rep m.T m.I m.J)) rfl rfl rfl ?_
    refine sh_w (i := (.iload_n 2)) (len := 1) (pc2 := 14) (lv2 := [(7, .int (m.I 68 (Int32.toNatClampNeg (m.I 73 (Int32.toNatClampNeg x1))))), (0, .ref 67), (1, .int x1), (2, .int x2), (3, .int x3), (4, .int x4), (5, .long x5)]) (st2 := [.int x2]) (h2 := (sh_rep m.T m.I m.J)) rfl rfl rfl ?_
    refine sh_w (i := (.istore 8)) (len := 2) (pc2 := 16) (lv2 := [(8, .int x2), (7, .int (m.I 68 (Int32.toNatClampNeg (m.I 73 (Int32.toNatClampNeg x1))))), (0, .ref 67), (1, .int x1), (2, .int x2), (3, .int x3), (4, .int x4), (5, .long x5)]) (st2 := []) (h2 := (sh_rep m.T m.I m.J)) rfl rfl rfl ?_
    refine sh_w (i := (.iload_n 3)) (len := 1) (pc2 := 17) (lv2 := [(8, .int x2), (7, .int (m.I 68 (Int32.toNatClampNeg (m.I 73 (Int32.toNatClampNeg x1))))), (0, .ref 67), (1, .int x1), (2, .int x2), (3, .int x3), (4, .int x4), (5, .long x5)]) (st2 := [.int x3]) (h2 := (sh_rep m.T m.I m.J)) rfl rfl rfl ?_
    refine sh_w (i := (.istore 9)) (len := 2) (pc2 := 19) (lv2 := [(9, .int x3), (8, .int x2), (7, .int (m.I 68 (Int32.toNatClampNeg (m.I 73 (Int32.toNatClampNeg x1))))), (0, .ref 67), (1, .int x1), (2, .int x2), (3, .int x3), (4, .int x4), (5, .long x5)]) (st2 := []) (h2 := (sh_rep m.T m.I m.J)) rfl rfl rfl ?_
    refine sh_w (i := (.iload 4)) (len := 2) (pc2 := 21) (lv2 := [(9, .int x3), (8, .int x2), (7, .int (m.I 68 (Int32.toNatClampNeg (m.I 73 (Int32.toNatClampNeg x1))))), (0, .ref 67), (1, .int x1), (2, .int x2), (3, .int x3), (4, .int x4), (5, .long x5)]) (st2 := [.int x4]) (h2 := (sh_rep m.T m.I m.J)) rfl rfl rfl ?_
    refine sh_w (i := (.istore 10)) (len := 2) (pc2 := 23) (lv2 := [(10, .int x4), (9, .int x3), (8, .int x2), (7, .int (m.I 68 (Int32.toNatClampNeg (m.I 73 (Int32.toNatClampNeg x1))))), (0, .ref 67), (1, .int x1), (2, .int x2), (3, .int x3), (4, .int x4), (5, .long x5)]) (st2 := []) (h2 := (sh_rep m.T m.I m.J)) rfl rfl rfl ?_
    refine sh_w (i := (.iload 7)) (len := 2) (pc2 := 25) (lv2 := [(10, .int x4), (9, .int x3), (8, .int x2), (7, .int (m.I 68 (Int32.toNatClampNeg (m.I 73 (Int32.toNatClampNeg x1))))), (0, .ref 67), (1, .int x1), (2, .int x2), (3, .int x3), (4, .int x4), (5, .long x5)]) (st2 := [.int (m.I 68 (Int32.toNatClampNeg (m.I 73 (Int32.toNatClampNeg x1))))]) (h2 := (sh_rep m.T m.I m.J)) rfl rfl rfl ?_
    exact kk
  refine sh_Lk_cS (r := (some (.int (sf_274 (m.I 68 (Int32.toNatClampNeg (m.I 73 (Int32.toNatClampNeg x1)))))))) (st2 := [.int (sf_274 (m.I 68 (Int32.toNatClampNeg (m.I 73 (Int32.toNatClampNeg x1)))))]) (pc2 := 28) (k2 := 274) (as := [.int (m.I 68 (Int32.toNatClampNeg (m.I 73 (Int32.toNatClampNeg x1))))]) (rest := []) rfl rfl (by decide) (Nat.le_of_ble_eq_true rfl) rfl rfl ⟨Nat.le_of_ble_eq_true rfl, Nat.le_of_ble_eq_true rfl⟩ (sl_274 (m := m) rfl ⟨rfl, rfl⟩) rfl rfl (Nat.le_of_ble_eq_true rfl) (Nat.le_of_ble_eq_true rfl) ?_
  refine sh_Lk_lift (T := m.T) (I := m.I) (J := m.J) (s := m.s) (pc2 := 34) (lv2 := [(11, .int (sf_274 (m.I 68 (Int32.toNatClampNeg (m.I 73 (Int32.toNatClampNeg x1)))))), (10, .int x4), (9, .int x3), (8, .int x2), (7, .int (m.I 68 (Int32.toNatClampNeg (m.I 73 (Int32.toNatClampNeg x1))))), (0, .ref 67), (1, .int x1), (2, .int x2), (3, .int x3), (4, .int x4), (5, .long x5)]) (st2 := [.int 8, .int (sf_274 (m.I 68 (Int32.toNatClampNeg (m.I 73 (Int32.toNatClampNeg x1)))))]) (I2 := m.I) (J2 := m.J) (fun hT v kk => ?_) ?_
  · refine sh_w (i := (.istore 11)) (len := 2) (pc2 := 30) (lv2 := [(11, .int (sf_274 (m.I 68 (Int32.toNatClampNeg (m.I 73 (Int32.toNatClampNeg x1)))))), (10, .int x4), (9, .int x3), (8, .int x2), (7, .int (m.I 68 (Int32.toNatClampNeg (m.I 73 (Int32.toNatClampNeg x1))))), (0, .ref 67), (1, .int x1), (2, .int x2), (3, .int x3), (4, .int x4), (5, .long x5)]) (st2 := []) (h2 := (sh_rep m.T m.I m.J)) rfl rfl rfl ?_
    refine sh_w (i := (.iload 11)) (len := 2) (pc2 := 32) (lv2 := [(11, .int (sf_274 (m.I 68 (Int32.toNatClampNeg (m.I 73 (Int32.toNatClampNeg x1)))))), (10, .int x4), (9, .int x3), (8, .int x2), (7, .int (m.I 68 (Int32.toNatClampNeg (m.I 73 (Int32.toNatClampNeg x1))))), (0, .ref 67), (1, .int x1), (2, .int x2), (3, .int x3), (4, .int x4), (5, .long x5)]) (st2 := [.int (sf_274 (m.I 68 (Int32.toNatClampNeg (m.I 73 (Int32.toNatClampNeg x1)))))]) (h2 := (sh_rep m.T m.I m.J)) rfl rfl rfl ?_
    refine sh_w (i := (.bipush 8)) (len := 2) (pc2 := 34) (lv2 := [(11, .int (sf_274 (m.I 68 (Int32.toNatClampNeg (m.I 73 (Int32.toNatClampNeg x1)))))), (10, .int x4), (9, .int x3), (8, .int x2), (7, .int (m.I 68 (Int32.toNatClampNeg (m.I 73 (Int32.toNatClampNeg x1))))), (0, .ref 67), (1, .int x1), (2, .int x2), (3, .int x3), (4, .int x4), (5, .long x5)]) (st2 := [.int 8, .int (sf_274 (m.I 68 (Int32.toNatClampNeg (m.I 73 (Int32.toNatClampNeg x1)))))]) (h2 := (sh_rep m.T m.I m.J)) rfl rfl rfl ?_
    exact kk
  rcases sh_ite e with ⟨c, e⟩ | ⟨c, e⟩
  · refine sh_Lk_lift (T := m.T) (I := m.I) (J := m.J) (s := m.s) (pc2 := 47) (lv2 := [(11, .int (sf_274 (m.I 68 (Int32.toNatClampNeg (m.I 73 (Int32.toNatClampNeg x1)))))), (10, .int x4), (9, .int x3), (8, .int x2), (7, .int (m.I 68 (Int32.toNatClampNeg (m.I 73 (Int32.toNatClampNeg x1))))), (0, .ref 67), (1, .int x1), (2, .int x2), (3, .int x3), (4, .int x4), (5, .long x5)]) (st2 := [.long x5, .int x4, .int x3, .int x2, .int x1, .ref 67]) (I2 := m.I) (J2 := m.J) (fun hT v kk => ?_) ?_
    · refine sh_jc (c := .ne) (off := (17)) (pc2 := 37) false rfl (sh_Bnef c) rfl ?_
      refine sh_w (i := (.aload_n 0)) (len := 1) (pc2 := 38) (lv2 := [(11, .int (sf_274 (m.I 68 (Int32.toNatClampNeg (m.I 73 (Int32.toNatClampNeg x1)))))), (10, .int x4), (9, .int x3), (8, .int x2), (7, .int (m.I 68 (Int32.toNatClampNeg (m.I 73 (Int32.toNatClampNeg x1))))), (0, .ref 67), (1, .int x1), (2, .int x2), (3, .int x3), (4, .int x4), (5, .long x5)]) (st2 := [.ref 67]) (h2 := (sh_rep m.T m.I m.J)) rfl rfl rfl ?_
      refine sh_w (i := (.iload_n 1)) (len := 1) (pc2 := 39) (lv2 := [(11, .int (sf_274 (m.I 68 (Int32.toNatClampNeg (m.I 73 (Int32.toNatClampNeg x1)))))), (10, .int x4), (9, .int x3), (8, .int x2), (7, .int (m.I 68 (Int32.toNatClampNeg (m.I 73 (Int32.toNatClampNeg x1))))), (0, .ref 67), (1, .int x1), (2, .int x2), (3, .int x3), (4, .int x4), (5, .long x5)]) (st2 := [.int x1, .ref 67]) (h2 := (sh_rep m.T m.I m.J)) rfl rfl rfl ?_
      refine sh_w (i := (.iload 8)) (len := 2) (pc2 := 41) (lv2 := [(11, .int (sf_274 (m.I 68 (Int32.toNatClampNeg (m.I 73 (Int32.toNatClampNeg x1)))))), (10, .int x4), (9, .int x3), (8, .int x2), (7, .int (m.I 68 (Int32.toNatClampNeg (m.I 73 (Int32.toNatClampNeg x1))))), (0, .ref 67), (1, .int x1), (2, .int x2), (3, .int x3), (4, .int x4), (5, .long x5)]) (st2 := [.int x2, .int x1, .ref 67]) (h2 := (sh_rep m.T m.I m.J)) rfl rfl rfl ?_
      refine sh_w (i := (.iload 9)) (len := 2) (pc2 := 43) (lv2 := [(11, .int (sf_274 (m.I 68 (Int32.toNatClampNeg (m.I 73 (Int32.toNatClampNeg x1)))))), (10, .int x4), (9, .int x3), (8, .int x2), (7, .int (m.I 68 (Int32.toNatClampNeg (m.I 73 (Int32.toNatClampNeg x1))))), (0, .ref 67), (1, .int x1), (2, .int x2), (3, .int x3), (4, .int x4), (5, .long x5)]) (st2 := [.int x3, .int x2, .int x1, .ref 67]) (h2 := (sh_rep m.T m.I m.J)) rfl rfl rfl ?_
      refine sh_w (i := (.iload 10)) (len := 2) (pc2 := 45) (lv2 := [(11, .int (sf_274 (m.I 68 (Int32.toNatClampNeg (m.I 73 (Int32.toNatClampNeg x1)))))), (10, .int x4), (9, .int x3), (8, .int x2), (7, .int (m.I 68 (Int32.toNatClampNeg (m.I 73 (Int32.toNatClampNeg x1))))), (0, .ref 67), (1, .int x1), (2, .int x2), (3, .int x3), (4, .int x4), (5, .long x5)]) (st2 := [.int x4, .int x3, .int x2, .int x1, .ref 67]) (h2 := (sh_rep m.T m.I m.J)) rfl rfl rfl ?_
      refine sh_w (i := (.lload 5)) (len := 2) (pc2 := 47) (lv2 := [(11, .int (sf_274 (m.I 68 (Int32.toNatClampNeg (m.I 73 (Int32.toNatClampNeg x1)))))), (10, .int x4), (9, .int x3), (8, .int x2), (7, .int (m.I 68 (Int32.toNatClampNeg (m.I 73 (Int32.toNatClampNeg x1))))), (0, .ref 67), (1, .int x1), (2, .int x2), (3, .int x3), (4, .int x4), (5, .long x5)]) (st2 := [.long x5, .int x4, .int x3, .int x2, .int x1, .ref 67]) (h2 := (sh_rep m.T m.I m.J)) rfl rfl rfl ?_
      exact kk
    obtain ⟨r2, m12, e2, e⟩ := sh_bn_e e
    refine sh_Lk_cV (r := (some (.int (sh_b2 r2)))) (st2 := [.int (sh_b2 r2)]) (pc2 := 50) (k2 := 304) (a := 66) (as := [.ref 67, .int x1, .int x2, .int x3, .int x4, .long x5]) (rest := []) rfl rfl rfl (fun hT => (sh_s66 hT.st)) rfl rfl ⟨Nat.le_of_ble_eq_true rfl, Nat.le_of_ble_eq_true rfl⟩ (sl_304 e2 ⟨rfl, rfl⟩) rfl rfl (Nat.le_of_ble_eq_true rfl) (Nat.le_of_ble_eq_true rfl) ?_
    obtain rfl := Option.some.inj e
    obtain ⟨rfl, rfl⟩ := tg
    exact sh_Lk_ret (i := .ireturn) rfl rfl (sh_rb rfl _) (Nat.le_of_ble_eq_true rfl) (Nat.le_of_ble_eq_true rfl)
  · refine sh_Lk_lift (T := m.T) (I := m.I) (J := m.J) (s := m.s) (pc2 := 54) (lv2 := [(11, .int (sf_274 (m.I 68 (Int32.toNatClampNeg (m.I 73 (Int32.toNatClampNeg x1)))))), (10, .int x4), (9, .int x3), (8, .int x2), (7, .int (m.I 68 (Int32.toNatClampNeg (m.I 73 (Int32.toNatClampNeg x1))))), (0, .ref 67), (1, .int x1), (2, .int x2), (3, .int x3), (4, .int x4), (5, .long x5)]) (st2 := [.int 3, .int x2]) (I2 := m.I) (J2 := m.J) (fun hT v kk => ?_) ?_
    · refine sh_jc (c := .ne) (off := (17)) (pc2 := 51) true rfl (sh_Bnet c) rfl ?_
      refine sh_w (i := (.iload 8)) (len := 2) (pc2 := 53) (lv2 := [(11, .int (sf_274 (m.I 68 (Int32.toNatClampNeg (m.I 73 (Int32.toNatClampNeg x1)))))), (10, .int x4), (9, .int x3), (8, .int x2), (7, .int (m.I 68 (Int32.toNatClampNeg (m.I 73 (Int32.toNatClampNeg x1))))), (0, .ref 67), (1, .int x1), (2, .int x2), (3, .int x3), (4, .int x4), (5, .long x5)]) (st2 := [.int x2]) (h2 := (sh_rep m.T m.I m.J)) rfl rfl rfl ?_
      refine sh_w (i := (.iconst 3)) (len := 1) (pc2 := 54) (lv2 := [(11, .int (sf_274 (m.I 68 (Int32.toNatClampNeg (m.I 73 (Int32.toNatClampNeg x1)))))), (10, .int x4), (9, .int x3), (8, .int x2), (7, .int (m.I 68 (Int32.toNatClampNeg (m.I 73 (Int32.toNatClampNeg x1))))), (0, .ref 67), (1, .int x1), (2, .int x2), (3, .int x3), (4, .int x4), (5, .long x5)]) (st2 := [.int 3, .int x2]) (h2 := (sh_rep m.T m.I m.J)) rfl rfl rfl ?_
      exact kk
    rcases sh_ite e with ⟨c, e⟩ | ⟨c, e⟩
    · refine sh_Lk_lift (T := m.T) (I := m.I) (J := m.J) (s := m.s) (pc2 := 62) (lv2 := [(11, .int (sf_274 (m.I 68 (Int32.toNatClampNeg (m.I 73 (Int32.toNatClampNeg x1)))))), (10, .int x4), (9, .int x3), (8, .int x2), (7, .int (m.I 68 (Int32.toNatClampNeg (m.I 73 (Int32.toNatClampNeg x1))))), (0, .ref 67), (1, .int x1), (2, .int x2), (3, .int x3), (4, .int x4), (5, .long x5)]) (st2 := [.int 3, .int (m.I 66 43)]) (I2 := m.I) (J2 := m.J) (fun hT v kk => ?_) ?_
      · refine sh_jc (c := .ne) (off := (136)) (pc2 := 57) false rfl (sh_Bnef c) rfl ?_
        refine sh_w (i := (.aload_n 0)) (len := 1) (pc2 := 58) (lv2 := [(11, .int (sf_274 (m.I 68 (Int32.toNatClampNeg (m.I 73 (Int32.toNatClampNeg x1)))))), (10, .int x4), (9, .int x3), (8, .int x2), (7, .int (m.I 68 (Int32.toNatClampNeg (m.I 73 (Int32.toNatClampNeg x1))))), (0, .ref 67), (1, .int x1), (2, .int x2), (3, .int x3), (4, .int x4), (5, .long x5)]) (st2 := [.ref 67]) (h2 := (sh_rep m.T m.I m.J)) rfl rfl rfl ?_
        refine sh_gI1 (len := 3) (x := m.I 66 43) (pc2 := 61) rfl rfl (sh_s66 hT.st) rfl rfl rfl ?_
        refine sh_w (i := (.iconst 3)) (len := 1) (pc2 := 62) (lv2 := [(11, .int (sf_274 (m.I 68 (Int32.toNatClampNeg (m.I 73 (Int32.toNatClampNeg x1)))))), (10, .int x4), (9, .int x3), (8, .int x2), (7, .int (m.I 68 (Int32.toNatClampNeg (m.I 73 (Int32.toNatClampNeg x1))))), (0, .ref 67), (1, .int x1), (2, .int x2), (3, .int x3), (4, .int x4), (5, .long x5)]) (st2 := [.int 3, .int (m.I 66 43)]) (h2 := (sh_rep m.T m.I m.J)) rfl rfl rfl ?_
        exact kk
      rcases sh_ite e with ⟨c, e⟩ | ⟨c, e⟩
      · refine sh_Lk_lift (T := m.T) (I := m.I) (J := m.J) (s := m.s) (pc2 := 70) (lv2 := [(11, .int (sf_274 (m.I 68 (Int32.toNatClampNeg (m.I 73 (Int32.toNatClampNeg x1)))))), (10, .int x4), (9, .int x3), (8, .int x2), (7, .int (m.I 68 (Int32.toNatClampNeg (m.I 73 (Int32.toNatClampNeg x1))))), (0, .ref 67), (1, .int x1), (2, .int x2), (3, .int x3), (4, .int x4), (5, .long x5)]) (st2 := [.int 0]) (I2 := m.I) (J2 := m.J) (fun hT v kk => ?_) ?_
        · refine sh_jc (c := .eq) (off := (7)) (pc2 := 69) true rfl (sh_Beqt c) rfl ?_
          refine sh_w (i := (.iconst 0)) (len := 1) (pc2 := 70) (lv2 := [(11, .int (sf_274 (m.I 68 (Int32.toNatClampNeg (m.I 73 (Int32.toNatClampNeg x1)))))), (10, .int x4), (9, .int x3), (8, .int x2), (7, .int (m.I 68 (Int32.toNatClampNeg (m.I 73 (Int32.toNatClampNeg x1))))), (0, .ref 67), (1, .int x1), (2, .int x2), (3, .int x3), (4, .int x4), (5, .long x5)]) (st2 := [.int 0]) (h2 := (sh_rep m.T m.I m.J)) rfl rfl rfl ?_
          exact kk
        exact sh_Lk_sub (sh_sub_c rfl (sh_sub_c rfl (sh_sub_c rfl (sh_sub_c rfl (sh_sub_c rfl (sh_sub_n)))))) (sl_303_70 e tg)
      · refine sh_Lk_lift (T := m.T) (I := m.I) (J := m.J) (s := m.s) (pc2 := 70) (lv2 := [(11, .int (sf_274 (m.I 68 (Int32.toNatClampNeg (m.I 73 (Int32.toNatClampNeg x1)))))), (10, .int x4), (9, .int x3), (8, .int x2), (7, .int (m.I 68 (Int32.toNatClampNeg (m.I 73 (Int32.toNatClampNeg x1))))), (0, .ref 67), (1, .int x1), (2, .int x2), (3, .int x3), (4, .int x4), (5, .long x5)]) (st2 := [.int 1]) (I2 := m.I) (J2 := m.J) (fun hT v kk => ?_) ?_
        · refine sh_jc (c := .eq) (off := (7)) (pc2 := 65) false rfl (sh_Beqf c) rfl ?_
          refine sh_w (i := (.iconst 1)) (len := 1) (pc2 := 66) (lv2 := [(11, .int (sf_274 (m.I 68 (Int32.toNatClampNeg (m.I 73 (Int32.toNatClampNeg x1)))))), (10, .int x4), (9, .int x3), (8, .int x2), (7, .int (m.I 68 (Int32.toNatClampNeg (m.I 73 (Int32.toNatClampNeg x1))))), (0, .ref 67), (1, .int x1), (2, .int x2), (3, .int x3), (4, .int x4), (5, .long x5)]) (st2 := [.int 1]) (h2 := (sh_rep m.T m.I m.J)) rfl rfl rfl ?_
          refine sh_w (i := (.goto 4)) (len := 3) (pc2 := 70) (lv2 := [(11, .int (sf_274 (m.I 68 (Int32.toNatClampNeg (m.I 73 (Int32.toNatClampNeg x1)))))), (10, .int x4), (9, .int x3), (8, .int x2), (7, .int (m.I 68 (Int32.toNatClampNeg (m.I 73 (Int32.toNatClampNeg x1))))), (0, .ref 67), (1, .int x1), (2, .int x2), (3, .int x3), (4, .int x4), (5, .long x5)]) (st2 := [.int 1]) (h2 := (sh_rep m.T m.I m.J)) rfl rfl rfl ?_
          exact kk
        exact sh_Lk_sub (sh_sub_c rfl (sh_sub_c rfl (sh_sub_c rfl (sh_sub_c rfl (sh_sub_c rfl (sh_sub_n)))))) (sl_303_70 e tg)
    · refine sh_Lk_lift (T := m.T) (I := m.I) (J := m.J) (s := m.s) (pc2 := 190) (lv2 := [(11, .int (sf_274 (m.I 68 (Int32.toNatClampNeg (m.I 73 (Int32.toNatClampNeg x1)))))), (10, .int x4), (9, .int x3), (8, .int x2), (7, .int (m.I 68 (Int32.toNatClampNeg (m.I 73 (Int32.toNatClampNeg x1))))), (0, .ref 67), (1, .int x1), (2, .int x2), (3, .int x3), (4, .int x4), (5, .long x5)]) (st2 := []) (I2 := m.I) (J2 := m.J) (fun hT v kk => ?_) ?_
      · refine sh_jc (c := .ne) (off := (136)) (pc2 := 190) true rfl (sh_Bnet c) rfl ?_
        exact kk
      exact sh_Lk_sub (sh_sub_c rfl (sh_sub_c rfl (sh_sub_c rfl (sh_sub_c rfl (sh_sub_c rfl (sh_sub_c rfl (sh_sub_c rfl (sh_sub_c rfl (sh_sub_n))))))))) (sl_303_190 e tg)
theorem sl_310_51 {m m2 : sh_X} {o : Outcome} {z : (Bool × sh_X)} (e : sf_310_51 m = some z) (tg : (sh_tZ o m2) z) : sh_Lk 310 51 [] [] m o m2 9 223 := by
  unfold sf_310_51 at e
  refine sh_Lk_lift (T := m.T) (I := m.I) (J := m.J) (s := m.s) (pc2 := 56) (lv2 := []) (st2 := [.int 1]) (I2 := m.I) (J2 := m.J) (fun hT v kk => ?_) ?_
  · refine sh_w (i := (.iconst 1)) (len := 1) (pc2 := 52) (lv2 := []) (st2 := [.int 1]) (h2 := (sh_rep m.T m.I m.J)) rfl rfl rfl ?_
    refine sh_w (i := (.goto 4)) (len := 3) (pc2 := 56) (lv2 := []) (st2 := [.int 1]) (h2 := (sh_rep m.T m.I m.J)) rfl rfl rfl ?_
    exact kk
  obtain rfl := Option.some.inj e
  obtain ⟨rfl, rfl⟩ := tg
  exact sh_Lk_ret (i := .ireturn) rfl rfl rfl (Nat.le_of_ble_eq_true rfl) (Nat.le_of_ble_eq_true rfl)
theorem sl_310_90 {m m2 : sh_X} {o : Outcome} {z : (Bool × sh_X)} (e : sf_310_90 m = some z) (tg : (sh_tZ o m2) z) : sh_Lk 310 90 [] [] m o m2 9 223 := by
  unfold sf_310_90 at e
  refine sh_Lk_lift (T := m.T) (I := m.I) (J := m.J) (s := m.s) (pc2 := 95) (lv2 := []) (st2 := [.int 1]) (I2 := m.I) (J2 := m.J) (fun hT v kk => ?_) ?_
  · refine sh_w (i := (.iconst 1)) (len := 1) (pc2 := 91) (lv2 := []) (st2 := [.int 1]) (h2 := (sh_rep m.T m.I m.J)) rfl rfl rfl ?_
    refine sh_w (i := (.goto 4)) (len := 3) (pc2 := 95) (lv2 := []) (st2 := [.int 1]) (h2 := (sh_rep m.T m.I m.J)) rfl rfl rfl ?_
    exact kk
  obtain rfl := Option.some.inj e
  obtain ⟨rfl, rfl⟩ := tg
  exact sh_Lk_ret (i := .ireturn) rfl rfl rfl (Nat.le_of_ble_eq_true rfl) (Nat.le_of_ble_eq_true rfl)
theorem sl_310_71 {x1 : Int32} {m m2 : sh_X} {o : Outcome} {z : (Bool × sh_X)} (e : sf_310_71 x1 m = some z) (tg : (sh_tZ o m2) z) : sh_Lk 310 71 [(0, .ref 67), (1, .int x1)] [] m o m2 9 223 := by
  unfold sf_310_71 at e
  refine sh_Lk_lift (T := m.T) (I := m.I) (J := m.J) (s := m.s) (pc2 := 82) (lv2 := [(0, .ref 67), (1, .int x1)]) (st2 := [.int x1, .ref 79, .ref 70, .int 4, .ref 67]) (I2 := m.I) (J2 := m.J) (fun hT v kk => ?_) ?_
  · refine sh_w (i := (.aload_n 0)) (len := 1) (pc2 := 72) (lv2 := [(0, .ref 67), (1, .int x1)]) (st2 := [.ref 67]) (h2 := (sh_rep m.T m.I m.J)) rfl rfl rfl ?_
    refine sh_w (i := (.iconst 4)) (len := 1) (pc2 := 73) (lv2 := [(0, .ref 67), (1, .int x1)]) (st2 := [.int 4, .ref 67]) (h2 := (sh_rep m.T m.I m.J)) rfl rfl rfl ?_
    refine sh_w (i := (.aload_n 0)) (len := 1) (pc2 := 74) (lv2 := [(0, .ref 67), (1, .int x1)]) (st2 := [.ref 67, .int 4, .ref 67]) (h2 := (sh_rep m.T m.I m.J)) rfl rfl rfl ?_
    refine sh_gR1 (len := 3) (x := .ref 70) (pc2 := 77) rfl rfl (sh_s66 hT.st) rfl rfl ?_
    refine sh_w (i := (.aload_n 0)) (len := 1) (pc2 := 78) (lv2 := [(0, .ref 67), (1, .int x1)]) (st2 := [.ref 67, .ref 70, .int 4, .ref 67]) (h2 := (sh_rep m.T m.I m.J)) rfl rfl rfl ?_
    refine sh_gR1 (len := 3) (x := .ref 79) (pc2 := 81) rfl rfl (sh_s66 hT.st) rfl rfl ?_
    refine sh_w (i := (.iload_n 1)) (len := 1) (pc2 := 82) (lv2 := [(0, .ref 67), (1, .int x1)]) (st2 := [.int x1, .ref 79, .ref 70, .int 4, .ref 67]) (h2 := (sh_rep m.T m.I m.J)) rfl rfl rfl ?_
    exact kk
  obtain ⟨c, e⟩ := sh_gd e
  refine sh_Lk_lift (T := m.T) (I := m.I) (J := m.J) (s := m.s) (pc2 := 83) (lv2 := [(0, .ref 67), (1, .int x1)]) (st2 := [.int (m.I 78 (Int32.toNatClampNeg x1)), .ref 70, .int 4, .ref 67]) (I2 := m.I) (J2 := m.J) (fun hT v kk => ?_) ?_
  · refine sh_ia1 (x := m.I 78 (Int32.toNatClampNeg x1)) (pc2 := 83) rfl (sh_s78 hT.st) (sh_okb1 c) (sh_okb2 c) rfl rfl ?_
    exact kk
  obtain ⟨c, e⟩ := sh_gd e
  refine sh_Lk_lift (T := m.T) (I := m.I) (J := m.J) (s := m.s) (pc2 := 84) (lv2 := [(0, .ref 67), (1, .int x1)]) (st2 := [.int (m.I 69 (Int32.toNatClampNeg (m.I 78 (Int32.toNatClampNeg x1)))), .int 4, .ref 67]) (I2 := m.I) (J2 := m.J) (fun hT v kk => ?_) ?_
  · refine sh_ia1 (x := m.I 69 (Int32.toNatClampNeg (m.I 78 (Int32.toNatClampNeg x1)))) (pc2 := 84) rfl (sh_s69 hT.st) (sh_okb1 c) (sh_okb2 c) rfl rfl ?_
    exact kk
  obtain ⟨r1, m11, e1, e⟩ := sh_bn_e e
  refine sh_Lk_cV (r := (some (.int (sh_b2 r1)))) (st2 := [.int (sh_b2 r1)]) (pc2 := 87) (k2 := 252) (a := 66) (as := [.ref 67, .int 4, .int (m.I 69 (Int32.toNatClampNeg (m.I 78 (Int32.toNatClampNeg x1))))]) (rest := []) rfl rfl rfl (fun hT => (sh_s66 hT.st)) rfl rfl ⟨Nat.le_of_ble_eq_true rfl, Nat.le_of_ble_eq_true rfl⟩ (sl_252 e1 ⟨rfl, rfl⟩) rfl rfl (Nat.le_of_ble_eq_true rfl) (Nat.le_of_ble_eq_true rfl) ?_
  rcases sh_ite e with ⟨c, e⟩ | ⟨c, e⟩
  · refine sh_Lk_lift (T := m11.T) (I := m11.I) (J := m11.J) (s := m11.s) (pc2 := 90) (lv2 := [(0, .ref 67), (1, .int x1)]) (st2 := []) (I2 := m11.I) (J2 := m11.J) (fun hT v kk => ?_) ?_
    · refine sh_j0 (c := .eq) (off := (7)) (pc2 := 90) false rfl (sh_Zeqf c) rfl ?_
      exact kk
    exact sh_Lk_sub (sh_sub_n) (sl_310_90 e tg)
  · refine sh_Lk_lift (T := m11.T) (I := m11.I) (J := m11.J) (s := m11.s) (pc2 := 95) (lv2 := [(0, .ref 67), (1, .int x1)]) (st2 := [.int 0]) (I2 := m11.I) (J2 := m11.J) (fun hT v kk => ?_) ?_
    · refine sh_j0 (c := .eq) (off := (7)) (pc2 := 94) true rfl (sh_Zeqt c) rfl ?_
      refine sh_w (i := (.iconst 0)) (len := 1) (pc2 := 95) (lv2 := [(0, .ref 67), (1, .int x1)]) (st2 := [.int 0]) (h2 := (sh_rep m11.T m11.I m11.J)) rfl rfl rfl ?_
      exact kk
    obtain rfl := Option.some.inj e
    obtain ⟨rfl, rfl⟩ := tg
    exact sh_Lk_ret (i := .ireturn) rfl rfl rfl (Nat.le_of_ble_eq_true rfl) (Nat.le_of_ble_eq_true rfl)
theorem sl_310 {x1 : Int32} {m m2 : sh_X} {o : Outcome} {z : (Bool × sh_X)} (e : sf_310 x1 m = some z) (tg : (sh_tZ o m2) z) : sh_Lk 310 0 [(0, .ref 67), (1, .int x1)] [] m o m2 9 223 := by
  unfold sf_310 at e
  refine sh_Lk_lift (T := m.T) (I := m.I) (J := m.J) (s := m.s) (pc2 := 5) (lv2 := [(0, .ref 67), (1, .int x1)]) (st2 := [.int 3, .int (m.I 66 43)]) (I2 := m.I) (J2 := m.J) (fun hT v kk => ?_) ?_
  · refine sh_w (i := (.aload_n 0)) (len := 1) (pc2 := 1) (lv2 := [(0, .ref 67), (1, .int x1)]) (st2 := [.ref 67]) (h2 := (sh_rep m.T m.I m.J)) rfl rfl rfl ?_
    refine sh_gI1 (len := 3) (x := m.I 66 43) (pc2 := 4) rfl rfl (sh_s66 hT.st) rfl rfl rfl ?_
    refine sh_w (i := (.iconst 3)) (len := 1) (pc2 := 5) (lv2 := [(0, .ref 67), (1, .int x1)]) (st2 := [.int 3, .int (m.I 66 43)]) (h2 := (sh_rep m.T m.I m.J)) rfl rfl rfl ?_
    exact kk
  rcases sh_ite e with ⟨c, e⟩ | ⟨c, e⟩
  · refine sh_Lk_lift (T := m.T) (I := m.I) (J := m.J) (s := m.s) (pc2 := 26) (lv2 := [(0, .ref 67), (1, .int x1)]) (st2 := [.long (m.J 66 46), .int 32, .int 2]) (I2 := sh_u2 (sh_u2 m.I 66 43 2) 66 44 32) (J2 := m.J) (fun hT v kk => ?_) ?_
    · refine sh_jc (c := .ne) (off := (52)) (pc2 := 8) false rfl (sh_Bnef c) rfl ?_
      refine sh_w (i := (.aload_n 0)) (len := 1) (pc2 := 9) (lv2 := [(0, .ref 67), (1, .int x1)]) (st2 := [.ref 67]) (h2 := (sh_rep m.T m.I m.J)) rfl rfl rfl ?_
      refine sh_w (i := (.iconst 2)) (len := 1) (pc2 := 10) (lv2 := [(0, .ref 67), (1, .int x1)]) (st2 := [.int 2, .ref 67]) (h2 := (sh_rep m.T m.I m.J)) rfl rfl rfl ?_
      refine sh_pI1 (x := 2) (pc2 := 13) rfl rfl (sh_s66 hT.st) rfl rfl rfl rfl ?_
      refine sh_w (i := (.aload_n 0)) (len := 1) (pc2 := 14) (lv2 := [(0, .ref 67), (1, .int x1)]) (st2 := [.ref 67]) (h2 := (sh_rep m.T (sh_u2 m.I 66 43 2) m.J)) rfl rfl rfl ?_
      refine sh_w (i := (.bipush 32)) (len := 2) (pc2 := 16) (lv2 := [(0, .ref 67), (1, .int x1)]) (st2 := [.int 32, .ref 67]) (h2 := (sh_rep m.T (sh_u2 m.I 66 43 2) m.J)) rfl rfl rfl ?_
      refine sh_pI1 (x := 32) (pc2 := 19) rfl rfl (sh_s66 hT.st) rfl rfl rfl rfl ?_
      refine sh_w (i := (.iconst 2)) (len := 1) (pc2 := 20) (lv2 := [(0, .ref 67), (1, .int x1)]) (st2 := [.int 2]) (h2 := (sh_rep m.T (sh_u2 (sh_u2 m.I 66 43 2) 66 44 32) m.J)) rfl rfl rfl ?_
      refine sh_w (i := (.bipush 32)) (len := 2) (pc2 := 22) (lv2 := [(0, .ref 67), (1, .int x1)]) (st2 := [.int 32, .int 2]) (h2 := (sh_rep m.T (sh_u2 (sh_u2 m.I 66 43 2) 66 44 32) m.J)) rfl rfl rfl ?_
      refine sh_w (i := (.aload_n 0)) (len := 1) (pc2 := 23) (lv2 := [(0, .ref 67), (1, .int x1)]) (st2 := [.ref 67, .int 32, .int 2]) (h2 := (sh_rep m.T (sh_u2 (sh_u2 m.I 66 43 2) 66 44 32) m.J)) rfl rfl rfl ?_
      refine sh_gJ1 (len := 3) (x := m.J 66 46) (pc2 := 26) rfl rfl (sh_s66 hT.st) rfl rfl rfl ?_
      exact kk
    refine sh_Lk_cS (r := (some (.int (sh_b2 (sf_300 2 32 (m.J 66 46)))))) (st2 := [.int (sh_b2 (sf_300 2 32 (m.J 66 46)))]) (pc2 := 29) (k2 := 300) (as := [.int 2, .int 32, .long (m.J 66 46)]) (rest := []) rfl rfl (by decide) (Nat.le_of_ble_eq_true rfl) rfl rfl ⟨Nat.le_of_ble_eq_true rfl, Nat.le_of_ble_eq_true rfl⟩ (sl_300 (m := ⟨m.T, sh_u2 (sh_u2 m.I 66 43 2) 66 44 32, m.J, m.s⟩) rfl ⟨rfl, rfl⟩) rfl rfl (Nat.le_of_ble_eq_true rfl) (Nat.le_of_ble_eq_true rfl) ?_
    rcases sh_ite e with ⟨c, e⟩ | ⟨c, e⟩
    · refine sh_Lk_lift (T := m.T) (I := sh_u2 (sh_u2 m.I 66 43 2) 66 44 32) (J := m.J) (s := m.s) (pc2 := 51) (lv2 := [(0, .ref 67), (1, .int x1)]) (st2 := []) (I2 := sh_u2 (sh_u2 m.I 66 43 2) 66 44 32) (J2 := m.J) (fun hT v kk => ?_) ?_
      · refine sh_j0 (c := .ne) (off := (22)) (pc2 := 51) true rfl (sh_Znet c) rfl ?_
        exact kk
      exact sh_Lk_sub (sh_sub_n) (sl_310_51 e tg)
    · refine sh_Lk_lift (T := m.T) (I := sh_u2 (sh_u2 m.I 66 43 2) 66 44 32) (J := m.J) (s := m.s) (pc2 := 43) (lv2 := [(0, .ref 67), (1, .int x1)]) (st2 := [.int x1, .ref 74, .ref 70, .int 5, .ref 67]) (I2 := sh_u2 (sh_u2 m.I 66 43 2) 66 44 32) (J2 := m.J) (fun hT v kk => ?_) ?_
      · refine sh_j0 (c := .ne) (off := (22)) (pc2 := 32) false rfl (sh_Znef c) rfl ?_
        refine sh_w (i := (.aload_n 0)) (len := 1) (pc2 := 33) (lv2 := [(0, .ref 67), (1, .int x1)]) (st2 := [.ref 67]) (h2 := (sh_rep m.T (sh_u2 (sh_u2 m.I 66 43 2) 66 44 32) m.J)) rfl rfl rfl ?_
        refine sh_w (i := (.iconst 5)) (len := 1) (pc2 := 34) (lv2 := [(0, .ref 67), (1, .int x1)]) (st2 := [.int 5, .ref 67]) (h2 := (sh_rep m.T (sh_u2 (sh_u2 m.I 66 43 2) 66 44 32) m.J)) rfl rfl rfl ?_
        refine sh_w (i := (.aload_n 0)) (len := 1) (pc2 := 35) (lv2 := [(0, .ref 67), (1, .int x1)]) (st2 := [.ref 67, .int 5, .ref 67]) (h2 := (sh_rep m.T (sh_u2 (sh_u2 m.I 66 43 2) 66 44 32) m.J)) rfl rfl rfl ?_
        refine sh_gR1 (len := 3) (x := .ref 70) (pc2 := 38) rfl rfl (sh_s66 hT.st) rfl rfl ?_
        refine sh_w (i := (.aload_n 0)) (len := 1) (pc2 := 39) (lv2 := [(0, .ref 67), (1, .int x1)]) (st2 := [.ref 67, .ref 70, .int 5, .ref 67]) (h2 := (sh_rep m.T (sh_u2 (sh_u2 m.I 66 43 2) 66 44 32) m.J)) rfl rfl rfl ?_
        refine sh_gR1 (len := 3) (x := .ref 74) (pc2 := 42) rfl rfl (sh_s66 hT.st) rfl rfl ?_
        refine sh_w (i := (.iload_n 1)) (len := 1) (pc2 := 43) (lv2 := [(0, .ref 67), (1, .int x1)]) (st2 := [.int x1, .ref 74, .ref 70, .int 5, .ref 67]) (h2 := (sh_rep m.T (sh_u2 (sh_u2 m.I 66 43 2) 66 44 32) m.J)) rfl rfl rfl ?_
        exact kk
      obtain ⟨c, e⟩ := sh_gd e
      refine sh_Lk_lift (T := m.T) (I := sh_u2 (sh_u2 m.I 66 43 2) 66 44 32) (J := m.J) (s := m.s) (pc2 := 44) (lv2 := [(0, .ref 67), (1, .int x1)]) (st2 := [.int (m.I 73 (Int32.toNatClampNeg x1)), .ref 70, .int 5, .ref 67]) (I2 := sh_u2 (sh_u2 m.I 66 43 2) 66 44 32) (J2 := m.J) (fun hT v kk => ?_) ?_
      · refine sh_ia1 (x := m.I 73 (Int32.toNatClampNeg x1)) (pc2 := 44) rfl (sh_s73 hT.st) (sh_okb1 c) (sh_okb2 c) rfl rfl ?_
        exact kk
      obtain ⟨c, e⟩ := sh_gd e
      refine sh_Lk_lift (T := m.T) (I := sh_u2 (sh_u2 m.I 66 43 2) 66 44 32) (J := m.J) (s := m.s) (pc2 := 45) (lv2 := [(0, .ref 67), (1, .int x1)]) (st2 := [.int (m.I 69 (Int32.toNatClampNeg (m.I 73 (Int32.toNatClampNeg x1)))), .int 5, .ref 67]) (I2 := sh_u2 (sh_u2 m.I 66 43 2) 66 44 32) (J2 := m.J) (fun hT v kk => ?_) ?_
      · refine sh_ia1 (x := m.I 69 (Int32.toNatClampNeg (m.I 73 (Int32.toNatClampNeg x1)))) (pc2 := 45) rfl (sh_s69 hT.st) (sh_okb1 c) (sh_okb2 c) rfl rfl ?_
        exact kk
      obtain ⟨r2, m12, e2, e⟩ := sh_bn_e e
      refine sh_Lk_cV (r := (some (.int (sh_b2 r2)))) (st2 := [.int (sh_b2 r2)]) (pc2 := 48) (k2 := 252) (a := 66) (as := [.ref 67, .int 5, .int (m.I 69 (Int32.toNatClampNeg (m.I 73 (Int32.toNatClampNeg x1))))]) (rest := []) rfl rfl rfl (fun hT => (sh_s66 hT.st)) rfl rfl ⟨Nat.le_of_ble_eq_true rfl, Nat.le_of_ble_eq_true rfl⟩ (sl_252 e2 ⟨rfl, rfl⟩) rfl rfl (Nat.le_of_ble_eq_true rfl) (Nat.le_of_ble_eq_true rfl) ?_
      rcases sh_ite e with ⟨c, e⟩ | ⟨c, e⟩
      · refine sh_Lk_lift (T := m12.T) (I := m12.I) (J := m12.J) (s := m12.s) (pc2 := 51) (lv2 := [(0, .ref 67), (1, .int x1)]) (st2 := []) (I2 := m12.I) (J2 := m12.J) (fun hT v kk => ?_) ?_
        · refine sh_j0 (c := .eq) (off := (7)) (pc2 := 51) false rfl (sh_Zeqf c) rfl ?_
          exact kk
        exact sh_Lk_sub (sh_sub_n) (sl_310_51 e tg)
      · refine sh_Lk_lift (T := m12.T) (I := m12.I) (J := m12.J) (s := m12.s) (pc2 := 56) (lv2 := [(0, .ref 67), (1, .int x1)]) (st2 := [.int 0]) (I2 := m12.I) (J2 := m12.J) (fun hT v kk => ?_) ?_
        · refine sh_j0 (c := .eq) (off := (7)) (pc2 := 55) true rfl (sh_Zeqt c) rfl ?_
          refine sh_w (i := (.iconst 0)) (len := 1) (pc2 := 56) (lv2 := [(0, .ref 67), (1, .int x1)]) (st2 := [.int 0]) (h2 := (sh_rep m12.T m12.I m12.J)) rfl rfl rfl ?_
          exact kk
        obtain rfl := Option.some.inj e
        obtain ⟨rfl, rfl⟩ := tg
        exact sh_Lk_ret (i := .ireturn) rfl rfl rfl (Nat.le_of_ble_eq_true rfl) (Nat.le_of_ble_eq_true rfl)
  · refine sh_Lk_lift (T := m.T) (I := m.I) (J := m.J) (s := m.s) (pc2 := 61) (lv2 := [(0, .ref 67), (1, .int x1)]) (st2 := [.int (m.I 66 43)]) (I2 := m.I) (J2 := m.J) (fun hT v kk => ?_) ?_
    · refine sh_jc (c := .ne) (off := (52)) (pc2 := 57) true rfl (sh_Bnet c) rfl ?_
      refine sh_w (i := (.aload_n 0)) (len := 1) (pc2 := 58) (lv2 := [(0, .ref 67), (1, .int x1)]) (st2 := [.ref 67]) (h2 := (sh_rep m.T m.I m.J)) rfl rfl rfl ?_
      refine sh_gI1 (len := 3) (x := m.I 66 43) (pc2 := 61) rfl rfl (sh_s66 hT.st) rfl rfl rfl ?_
      exact kk
    rcases sh_ite e with ⟨c, e⟩ | ⟨c, e⟩
    · refine sh_Lk_lift (T := m.T) (I := m.I) (J := m.J) (s := m.s) (pc2 := 71) (lv2 := [(0, .ref 67), (1, .int x1)]) (st2 := []) (I2 := m.I) (J2 := m.J) (fun hT v kk => ?_) ?_
      · refine sh_j0 (c := .eq) (off := (10)) (pc2 := 71) true rfl (sh_Beqt c) rfl ?_
        exact kk
      exact sh_Lk_sub (sh_sub_c rfl (sh_sub_c rfl (sh_sub_n))) (sl_310_71 e tg)
    · refine sh_Lk_lift (T := m.T) (I := m.I) (J := m.J) (s := m.s) (pc2 := 68) (lv2 := [(0, .ref 67), (1, .int x1)]) (st2 := [.int (m.I 66 45)]) (I2 := m.I) (J2 := m.J) (fun hT v kk => ?_) ?_
      · refine sh_j0 (c := .eq) (off := (10)) (pc2 := 64) false rfl (sh_Beqf c) rfl ?_
        refine sh_w (i := (.aload_n 0)) (len := 1) (pc2 := 65) (lv2 := [(0, .ref 67), (1, .int x1)]) (st2 := [.ref 67]) (h2 := (sh_rep m.T m.I m.J)) rfl rfl rfl ?_
        refine sh_gI1 (len := 3) (x := m.I 66 45) (pc2 := 68) rfl rfl (sh_s66 hT.st) rfl rfl rfl ?_
        exact kk
      rcases sh_ite e with ⟨c, e⟩ | ⟨c, e⟩
      · refine sh_Lk_lift (T := m.T) (I := m.I) (J := m.J) (s := m.s) (pc2 := 90) (lv2 := [(0, .ref 67), (1, .int x1)]) (st2 := []) (I2 := m.I) (J2 := m.J) (fun hT v kk => ?_) ?_
        · refine sh_j0 (c := .eq) (off := (22)) (pc2 := 90) true rfl (sh_Beqt c) rfl ?_
          exact kk
        exact sh_Lk_sub (sh_sub_n) (sl_310_90 e tg)
      · refine sh_Lk_lift (T := m.T) (I := m.I) (J := m.J) (s := m.s) (pc2 := 71) (lv2 := [(0, .ref 67), (1, .int x1)]) (st2 := []) (I2 := m.I) (J2 := m.J) (fun hT v kk => ?_) ?_
        · refine sh_j0 (c := .eq) (off := (22)) (pc2 := 71) false rfl (sh_Beqf c) rfl ?_
          exact kk
        exact sh_Lk_sub (sh_sub_c rfl (sh_sub_c rfl (sh_sub_n))) (sl_310_71 e tg)
theorem sl_309_101 {x2 : Int32} {x3 : Int32} {y1 : Int64} {m m2 : sh_X} {o : Outcome} {z : (Bool × sh_X)} (e : sf_309_101 x2 x3 y1 m = some z) (tg : (sh_tZ o m2) z) : sh_Lk 309 101 [(0, .ref 67), (2, .int x2), (3, .int x3)] [.long y1, .ref 67] m o m2 10 244 := by
  unfold sf_309_101 at e
  refine sh_Lk_lift (T := m.T) (I := m.I) (J := m.J) (s := m.s) (pc2 := 120) (lv2 := [(0, .ref 67), (2, .int x2), (3, .int x3)]) (st2 := [.int 1]) (I2 := sh_u2 (sh_u2 (sh_u2 m.I 66 43 x2) 66 44 x3) 66 45 0) (J2 := sh_u2 m.J 66 46 y1) (fun hT v kk => ?_) ?_
  · refine sh_pJ1 (x := y1) (pc2 := 104) rfl rfl (sh_s66 hT.st) rfl rfl rfl rfl ?_
    refine sh_w (i := (.aload_n 0)) (len := 1) (pc2 := 105) (lv2 := [(0, .ref 67), (2, .int x2), (3, .int x3)]) (st2 := [.ref 67]) (h2 := (sh_rep m.T m.I (sh_u2 m.J 66 46 y1))) rfl rfl rfl ?_
    refine sh_w (i := (.iload_n 2)) (len := 1) (pc2 := 106) (lv2 := [(0, .ref 67), (2, .int x2), (3, .int x3)]) (st2 := [.int x2, .ref 67]) (h2 := (sh_rep m.T m.I (sh_u2 m.J 66 46 y1))) rfl rfl rfl ?_
    refine sh_pI1 (x := x2) (pc2 := 109) rfl rfl (sh_s66 hT.st) rfl rfl rfl rfl ?_
    refine sh_w (i := (.aload_n 0)) (len := 1) (pc2 := 110) (lv2 := [(0, .ref 67), (2, .int x2), (3, .int x3)]) (st2 := [.ref 67]) (h2 := (sh_rep m.T (sh_u2 m.I 66 43 x2) (sh_u2 m.J 66 46 y1))) rfl rfl rfl ?_
    refine sh_w (i := (.iload_n 3)) (len := 1) (pc2 := 111) (lv2 := [(0, .ref 67), (2, .int x2), (3, .int x3)]) (st2 := [.int x3, .ref 67]) (h2 := (sh_rep m.T (sh_u2 m.I 66 43 x2) (sh_u2 m.J 66 46 y1))) rfl rfl rfl ?_
    refine sh_pI1 (x := x3) (pc2 := 114) rfl rfl (sh_s66 hT.st) rfl rfl rfl rfl ?_
    refine sh_w (i := (.aload_n 0)) (len := 1) (pc2 := 115) (lv2 := [(0, .ref 67), (2, .int x2), (3, .int x3)]) (st2 := [.ref 67]) (h2 := (sh_rep m.T (sh_u2 (sh_u2 m.I 66 43 x2) 66 44 x3) (sh_u2 m.J 66 46 y1))) rfl rfl rfl ?_
    refine sh_w (i := (.iconst 0)) (len := 1) (pc2 := 116) (lv2 := [(0, .ref 67), (2, .int x2), (3, .int x3)]) (st2 := [.int 0, .ref 67]) (h2 := (sh_rep m.T (sh_u2 (sh_u2 m.I 66 43 x2) 66 44 x3) (sh_u2 m.J 66 46 y1))) rfl rfl rfl ?_
    refine sh_pI1 (x := 0) (pc2 := 119) rfl rfl (sh_s66 hT.st) rfl rfl rfl rfl ?_
    refine sh_w (i := (.iconst 1)) (len := 1) (pc2 := 120) (lv2 := [(0, .ref 67), (2, .int x2), (3, .int x3)]) (st2 := [.int 1]) (h2 := (sh_rep m.T (sh_u2 (sh_u2 (sh_u2 m.I 66 43 x2) 66 44 x3) 66 45 0) (sh_u2 m.J 66 46 y1))) rfl rfl rfl ?_
    exact kk
  obtain rfl := Option.some.inj e
  obtain ⟨rfl, rfl⟩ := tg
  exact sh_Lk_ret (i := .ireturn) rfl rfl rfl (Nat.le_of_ble_eq_true rfl) (Nat.le_of_ble_eq_true rfl)
theorem sl_309_100 {x2 : Int32} {x3 : Int32} {m m2 : sh_X} {o : Outcome} {z : (Bool × sh_X)} (e : sf_309_100 x2 x3 m = some z) (tg : (sh_tZ o m2) z) : sh_Lk 309 100 [(0, .ref 67), (2, .int x2), (3, .int x3)] [.ref 67] m o m2 10 244 := by
  unfold sf_309_100 at e
  refine sh_Lk_lift (T := m.T) (I := m.I) (J := m.J) (s := m.s) (pc2 := 101) (lv2 := [(0, .ref 67), (2, .int x2), (3, .int x3)]) (st2 := [.long 0, .ref 67]) (I2 := m.I) (J2 := m.J) (fun hT v kk => ?_) ?_
  · refine sh_w (i := (.lconst 0)) (len := 1) (pc2 := 101) (lv2 := [(0, .ref 67), (2, .int x2), (3, .int x3)]) (st2 := [.long 0, .ref 67]) (h2 := (sh_rep m.T m.I m.J)) rfl rfl rfl ?_
    exact kk
  exact sh_Lk_sub (sh_sub_c rfl (sh_sub_c rfl (sh_sub_c rfl (sh_sub_n)))) (sl_309_101 e tg)
theorem sl_309_49 {x1 : Int32} {x2 : Int32} {x3 : Int32} {x4 : Int32} {x5 : Int32} {y1 : Int32} {m m2 : sh_X} {o : Outcome} {z : (Bool × sh_X)} (e : sf_309_49 x1 x2 x3 x4 x5 y1 m = some z) (tg : (sh_tZ o m2) z) : sh_Lk 309 49 [(0, .ref 67), (1, .int x1), (2, .int x2), (3, .int x3), (4, .int x4), (5, .int x5)] [.int y1, .ref 67] m o m2 10 244 := by
  unfold sf_309_49 at e
  refine sh_Lk_lift (T := m.T) (I := m.I) (J := m.J) (s := m.s) (pc2 := 54) (lv2 := [(0, .ref 67), (1, .int x1), (2, .int x2), (3, .int x3), (4, .int x4), (5, .int x5)]) (st2 := [.int x1, .ref 74, .int y1, .ref 67]) (I2 := m.I) (J2 := m.J) (fun hT v kk => ?_) ?_
  · refine sh_w (i := (.aload_n 0)) (len := 1) (pc2 := 50) (lv2 := [(0, .ref 67), (1, .int x1), (2, .int x2), (3, .int x3), (4, .int x4), (5, .int x5)]) (st2 := [.ref 67, .int y1, .ref 67]) (h2 := (sh_rep m.T m.I m.J)) rfl rfl rfl ?_
    refine sh_gR1 (len := 3) (x := .ref 74) (pc2 := 53) rfl rfl (sh_s66 hT.st) rfl rfl ?_
    refine sh_w (i := (.iload_n 1)) (len := 1) (pc2 := 54) (lv2 := [(0, .ref 67), (1, .int x1), (2, .int x2), (3, .int x3), (4, .int x4), (5, .int x5)]) (st2 := [.int x1, .ref 74, .int y1, .ref 67]) (h2 := (sh_rep m.T m.I m.J)) rfl rfl rfl ?_
    exact kk
  obtain ⟨c, e⟩ := sh_gd e
  refine sh_Lk_lift (T := m.T) (I := m.I) (J := m.J) (s := m.s) (pc2 := 55) (lv2 := [(0, .ref 67), (1, .int x1), (2, .int x2), (3, .int x3), (4, .int x4), (5, .int x5)]) (st2 := [.int (m.I 73 (Int32.toNatClampNeg x1)), .int y1, .ref 67]) (I2 := m.I) (J2 := m.J) (fun hT v kk => ?_) ?_
  · refine sh_ia1 (x := m.I 73 (Int32.toNatClampNeg x1)) (pc2 := 55) rfl (sh_s73 hT.st) (sh_okb1 c) (sh_okb2 c) rfl rfl ?_
    exact kk
  obtain ⟨r1, m11, e1, e⟩ := sh_bn_e e
  refine sh_Lk_cV (r := (some (.int (sh_b2 r1)))) (st2 := [.int (sh_b2 r1)]) (pc2 := 58) (k2 := 292) (a := 66) (as := [.ref 67, .int y1, .int (m.I 73 (Int32.toNatClampNeg x1))]) (rest := []) rfl rfl rfl (fun hT => (sh_s66 hT.st)) rfl rfl ⟨Nat.le_of_ble_eq_true rfl, Nat.le_of_ble_eq_true rfl⟩ (sl_292 e1 ⟨rfl, rfl⟩) rfl rfl (Nat.le_of_ble_eq_true rfl) (Nat.le_of_ble_eq_true rfl) ?_
  rcases sh_ite e with ⟨c, e⟩ | ⟨c, e⟩
  · refine sh_Lk_lift (T := m11.T) (I := m11.I) (J := m11.J) (s := m11.s) (pc2 := 70) (lv2 := [(0, .ref 67), (1, .int x1), (2, .int x2), (3, .int x3), (4, .int x4), (5, .int x5)]) (st2 := [.int (lg_cmp (m11.J 66 46) 0), .ref 67]) (I2 := m11.I) (J2 := m11.J) (fun hT v kk => ?_) ?_
    · refine sh_j0 (c := .ne) (off := (5)) (pc2 := 63) true rfl (sh_Znet c) rfl ?_
      refine sh_w (i := (.aload_n 0)) (len := 1) (pc2 := 64) (lv2 := [(0, .ref 67), (1, .int x1), (2, .int x2), (3, .int x3), (4, .int x4), (5, .int x5)]) (st2 := [.ref 67]) (h2 := (sh_rep m11.T m11.I m11.J)) rfl rfl rfl ?_
      refine sh_w (i := (.aload_n 0)) (len := 1) (pc2 := 65) (lv2 := [(0, .ref 67), (1, .int x1), (2, .int x2), (3, .int x3), (4, .int x4), (5, .int x5)]) (st2 := [.ref 67, .ref 67]) (h2 := (sh_rep m11.T m11.I m11.J)) rfl rfl rfl ?_
      refine sh_gJ1 (len := 3) (x := m11.J 66 46) (pc2 := 68) rfl rfl (sh_s66 hT.st) rfl rfl rfl ?_
      refine sh_w (i := (.lconst 0)) (len := 1) (pc2 := 69) (lv2 := [(0, .ref 67), (1, .int x1), (2, .int x2), (3, .int x3), (4, .int x4), (5, .int x5)]) (st2 := [.long 0, .long (m11.J 66 46), .ref 67]) (h2 := (sh_rep m11.T m11.I m11.J)) rfl rfl rfl ?_
      refine sh_w (i := .lcmp) (len := 1) (pc2 := 70) (lv2 := [(0, .ref 67), (1, .int x1), (2, .int x2), (3, .int x3), (4, .int x4), (5, .int x5)]) (st2 := [.int (lg_cmp (m11.J 66 46) 0), .ref 67]) (h2 := (sh_rep m11.T m11.I m11.J)) rfl rfl rfl ?_
      exact kk
    rcases sh_ite e with ⟨c, e⟩ | ⟨c, e⟩
    · refine sh_Lk_lift (T := m11.T) (I := m11.I) (J := m11.J) (s := m11.s) (pc2 := 100) (lv2 := [(0, .ref 67), (1, .int x1), (2, .int x2), (3, .int x3), (4, .int x4), (5, .int x5)]) (st2 := [.ref 67]) (I2 := m11.I) (J2 := m11.J) (fun hT v kk => ?_) ?_
      · refine sh_j0 (c := .lt) (off := (30)) (pc2 := 100) true rfl (sh_Cltt c) rfl ?_
        exact kk
      exact sh_Lk_sub (sh_sub_c rfl (sh_sub_c rfl (sh_sub_c rfl (sh_sub_n)))) (sl_309_100 e tg)
    · refine sh_Lk_lift (T := m11.T) (I := m11.I) (J := m11.J) (s := m11.s) (pc2 := 81) (lv2 := [(0, .ref 67), (1, .int x1), (2, .int x2), (3, .int x3), (4, .int x4), (5, .int x5)]) (st2 := [.int (lg_cmp (m11.J 66 46) (Int32.toInt64 x4)), .ref 67]) (I2 := m11.I) (J2 := m11.J) (fun hT v kk => ?_) ?_
      · refine sh_j0 (c := .lt) (off := (30)) (pc2 := 73) false rfl (sh_Cltf c) rfl ?_
        refine sh_w (i := (.aload_n 0)) (len := 1) (pc2 := 74) (lv2 := [(0, .ref 67), (1, .int x1), (2, .int x2), (3, .int x3), (4, .int x4), (5, .int x5)]) (st2 := [.ref 67, .ref 67]) (h2 := (sh_rep m11.T m11.I m11.J)) rfl rfl rfl ?_
        refine sh_gJ1 (len := 3) (x := m11.J 66 46) (pc2 := 77) rfl rfl (sh_s66 hT.st) rfl rfl rfl ?_
        refine sh_w (i := (.iload 4)) (len := 2) (pc2 := 79) (lv2 := [(0, .ref 67), (1, .int x1), (2, .int x2), (3, .int x3), (4, .int x4), (5, .int x5)]) (st2 := [.int x4, .long (m11.J 66 46), .ref 67]) (h2 := (sh_rep m11.T m11.I m11.J)) rfl rfl rfl ?_
        refine sh_w (i := .i2l) (len := 1) (pc2 := 80) (lv2 := [(0, .ref 67), (1, .int x1), (2, .int x2), (3, .int x3), (4, .int x4), (5, .int x5)]) (st2 := [.long (Int32.toInt64 x4), .long (m11.J 66 46), .ref 67]) (h2 := (sh_rep m11.T m11.I m11.J)) rfl rfl rfl ?_
        refine sh_w (i := .lcmp) (len := 1) (pc2 := 81) (lv2 := [(0, .ref 67), (1, .int x1), (2, .int x2), (3, .int x3), (4, .int x4), (5, .int x5)]) (st2 := [.int (lg_cmp (m11.J 66 46) (Int32.toInt64 x4)), .ref 67]) (h2 := (sh_rep m11.T m11.I m11.J)) rfl rfl rfl ?_
        exact kk
      rcases sh_ite e with ⟨c, e⟩ | ⟨c, e⟩
      · refine sh_Lk_lift (T := m11.T) (I := m11.I) (J := m11.J) (s := m11.s) (pc2 := 96) (lv2 := [(0, .ref 67), (1, .int x1), (2, .int x2), (3, .int x3), (4, .int x4), (5, .int x5)]) (st2 := [.int (x5 + (Int64.toInt32 (m11.J 66 46))), .ref 93, .ref 67]) (I2 := m11.I) (J2 := m11.J) (fun hT v kk => ?_) ?_
        · refine sh_j0 (c := .ge) (off := (19)) (pc2 := 84) false rfl (sh_Cgef c) rfl ?_
          refine sh_w (i := (.aload_n 0)) (len := 1) (pc2 := 85) (lv2 := [(0, .ref 67), (1, .int x1), (2, .int x2), (3, .int x3), (4, .int x4), (5, .int x5)]) (st2 := [.ref 67, .ref 67]) (h2 := (sh_rep m11.T m11.I m11.J)) rfl rfl rfl ?_
          refine sh_gR1 (len := 3) (x := .ref 93) (pc2 := 88) rfl rfl (sh_s66 hT.st) rfl rfl ?_
          refine sh_w (i := (.iload 5)) (len := 2) (pc2 := 90) (lv2 := [(0, .ref 67), (1, .int x1), (2, .int x2), (3, .int x3), (4, .int x4), (5, .int x5)]) (st2 := [.int x5, .ref 93, .ref 67]) (h2 := (sh_rep m11.T m11.I m11.J)) rfl rfl rfl ?_
          refine sh_w (i := (.aload_n 0)) (len := 1) (pc2 := 91) (lv2 := [(0, .ref 67), (1, .int x1), (2, .int x2), (3, .int x3), (4, .int x4), (5, .int x5)]) (st2 := [.ref 67, .int x5, .ref 93, .ref 67]) (h2 := (sh_rep m11.T m11.I m11.J)) rfl rfl rfl ?_
          refine sh_gJ1 (len := 3) (x := m11.J 66 46) (pc2 := 94) rfl rfl (sh_s66 hT.st) rfl rfl rfl ?_
          refine sh_w (i := .l2i) (len := 1) (pc2 := 95) (lv2 := [(0, .ref 67), (1, .int x1), (2, .int x2), (3, .int x3), (4, .int x4), (5, .int x5)]) (st2 := [.int (Int64.toInt32 (m11.J 66 46)), .int x5, .ref 93, .ref 67]) (h2 := (sh_rep m11.T m11.I m11.J)) rfl rfl rfl ?_
          refine sh_w (i := .iadd) (len := 1) (pc2 := 96) (lv2 := [(0, .ref 67), (1, .int x1), (2, .int x2), (3, .int x3), (4, .int x4), (5, .int x5)]) (st2 := [.int (x5 + (Int64.toInt32 (m11.J 66 46))), .ref 93, .ref 67]) (h2 := (sh_rep m11.T m11.I m11.J)) rfl rfl rfl ?_
          exact kk
        obtain ⟨c, e⟩ := sh_gd e
        refine sh_Lk_lift (T := m11.T) (I := m11.I) (J := m11.J) (s := m11.s) (pc2 := 101) (lv2 := [(0, .ref 67), (1, .int x1), (2, .int x2), (3, .int x3), (4, .int x4), (5, .int x5)]) (st2 := [.long (m11.J 92 (Int32.toNatClampNeg (x5 + (Int64.toInt32 (m11.J 66 46))))), .ref 67]) (I2 := m11.I) (J2 := m11.J) (fun hT v kk => ?_) ?_
        · refine sh_la1 (x := m11.J 92 (Int32.toNatClampNeg (x5 + (Int64.toInt32 (m11.J 66 46))))) (pc2 := 97) rfl (sh_s92 hT.st) (sh_okb1 c) (sh_okb2 c) rfl rfl ?_
          refine sh_w (i := (.goto 4)) (len := 3) (pc2 := 101) (lv2 := [(0, .ref 67), (1, .int x1), (2, .int x2), (3, .int x3), (4, .int x4), (5, .int x5)]) (st2 := [.long (m11.J 92 (Int32.toNatClampNeg (x5 + (Int64.toInt32 (m11.J 66 46))))), .ref 67]) (h2 := (sh_rep m11.T m11.I m11.J)) rfl rfl rfl ?_
          exact kk
        exact sh_Lk_sub (sh_sub_c rfl (sh_sub_c rfl (sh_sub_c rfl (sh_sub_n)))) (sl_309_101 e tg)
      · refine sh_Lk_lift (T := m11.T) (I := m11.I) (J := m11.J) (s := m11.s) (pc2 := 100) (lv2 := [(0, .ref 67), (1, .int x1), (2, .int x2), (3, .int x3), (4, .int x4), (5, .int x5)]) (st2 := [.ref 67]) (I2 := m11.I) (J2 := m11.J) (fun hT v kk => ?_) ?_
        · refine sh_j0 (c := .ge) (off := (19)) (pc2 := 100) true rfl (sh_Cget c) rfl ?_
          exact kk
        exact sh_Lk_sub (sh_sub_c rfl (sh_sub_c rfl (sh_sub_c rfl (sh_sub_n)))) (sl_309_100 e tg)
  · refine sh_Lk_lift (T := m11.T) (I := m11.I) (J := m11.J) (s := m11.s) (pc2 := 62) (lv2 := [(0, .ref 67), (1, .int x1), (2, .int x2), (3, .int x3), (4, .int x4), (5, .int x5)]) (st2 := [.int 0]) (I2 := m11.I) (J2 := m11.J) (fun hT v kk => ?_) ?_
    · refine sh_j0 (c := .ne) (off := (5)) (pc2 := 61) false rfl (sh_Znef c) rfl ?_
      refine sh_w (i := (.iconst 0)) (len := 1) (pc2 := 62) (lv2 := [(0, .ref 67), (1, .int x1), (2, .int x2), (3, .int x3), (4, .int x4), (5, .int x5)]) (st2 := [.int 0]) (h2 := (sh_rep m11.T m11.I m11.J)) rfl rfl rfl ?_
      exact kk
    obtain rfl := Option.some.inj e
    obtain ⟨rfl, rfl⟩ := tg
    exact sh_Lk_ret (i := .ireturn) rfl rfl rfl (Nat.le_of_ble_eq_true rfl) (Nat.le_of_ble_eq_true rfl)
theorem sl_309_13 {x1 : Int32} {x2 : Int32} {x3 : Int32} {x4 : Int32} {x5 : Int32} {y0 : Bool} {m m2 : sh_X} {o : Outcome} {z : (Bool × sh_X)} (e : sf_309_13 x1 x2 x3 x4 x5 y0 m = some z) (tg : (sh_tZ o m2) z) : sh_Lk 309 13 [(0, .ref 67), (1, .int x1), (2, .int x2), (3, .int x3), (4, .int x4), (5, .int x5)] [.int (sh_b2 y0)] m o m2 10 244 := by
  unfold sf_309_13 at e
  refine sh_Lk_lift (T := m.T) (I := m.I) (J := m.J) (s := m.s) (pc2 := 21) (lv2 := [(6, .int (sh_b2 y0)), (0, .ref 67), (1, .int x1), (2, .int x2), (3, .int x3), (4, .int x4), (5, .int x5)]) (st2 := [.int x1, .ref 76, .ref 67]) (I2 := m.I) (J2 := m.J) (fun hT v kk => ?_) ?_
  · refine sh_w (i := (.istore 6)) (len := 2) (pc2 := 15) (lv2 := [(6, .int (sh_b2 y0)), (0, .ref 67), (1, .int x1), (2, .int x2), (3, .int x3), (4, .int x4), (5, .int x5)]) (st2 := []) (h2 := (sh_rep m.T m.I m.J)) rfl rfl rfl ?_
    refine sh_w (i := (.aload_n 0)) (len := 1) (pc2 := 16) (lv2 := [(6, .int (sh_b2 y0)), (0, .ref 67), (1, .int x1), (2, .int x2), (3, .int x3), (4, .int x4), (5, .int x5)]) (st2 := [.ref 67]) (h2 := (sh_rep m.T m.I m.J)) rfl rfl rfl ?_
    refine sh_w (i := (.aload_n 0)) (len := 1) (pc2 := 17) (lv2 := [(6, .int (sh_b2 y0)), (0, .ref 67), (1, .int x1), (2, .int x2), (3, .int x3), (4, .int x4), (5, .int x5)]) (st2 := [.ref 67, .ref 67]) (h2 := (sh_rep m.T m.I m.J)) rfl rfl rfl ?_
    refine sh_gR1 (len := 3) (x := .ref 76) (pc2 := 20) rfl rfl (sh_s66 hT.st) rfl rfl ?_
    refine sh_w (i := (.iload_n 1)) (len := 1) (pc2 := 21) (lv2 := [(6, .int (sh_b2 y0)), (0, .ref 67), (1, .int x1), (2, .int x2), (3, .int x3), (4, .int x4), (5, .int x5)]) (st2 := [.int x1, .ref 76, .ref 67]) (h2 := (sh_rep m.T m.I m.J)) rfl rfl rfl ?_
    exact kk
  obtain ⟨c, e⟩ := sh_gd e
  refine sh_Lk_lift (T := m.T) (I := m.I) (J := m.J) (s := m.s) (pc2 := 22) (lv2 := [(6, .int (sh_b2 y0)), (0, .ref 67), (1, .int x1), (2, .int x2), (3, .int x3), (4, .int x4), (5, .int x5)]) (st2 := [.int (m.I 75 (Int32.toNatClampNeg x1)), .ref 67]) (I2 := m.I) (J2 := m.J) (fun hT v kk => ?_) ?_
  · refine sh_ia1 (x := m.I 75 (Int32.toNatClampNeg x1)) (pc2 := 22) rfl (sh_s75 hT.st) (sh_okb1 c) (sh_okb2 c) rfl rfl ?_
    exact kk
  obtain ⟨r1, m11, e1, e⟩ := sh_bn_e e
  refine sh_Lk_cV (r := (some (.int (sh_b2 r1)))) (st2 := [.int (sh_b2 r1)]) (pc2 := 25) (k2 := 310) (a := 66) (as := [.ref 67, .int (m.I 75 (Int32.toNatClampNeg x1))]) (rest := []) rfl rfl rfl (fun hT => (sh_s66 hT.st)) rfl rfl ⟨Nat.le_of_ble_eq_true rfl, Nat.le_of_ble_eq_true rfl⟩ (sl_310 e1 ⟨rfl, rfl⟩) rfl rfl (Nat.le_of_ble_eq_true rfl) (Nat.le_of_ble_eq_true rfl) ?_
  rcases sh_ite e with ⟨c, e⟩ | ⟨c, e⟩
  · refine sh_Lk_lift (T := m11.T) (I := m11.I) (J := m11.J) (s := m11.s) (pc2 := 33) (lv2 := [(6, .int (sh_b2 y0)), (0, .ref 67), (1, .int x1), (2, .int x2), (3, .int x3), (4, .int x4), (5, .int x5)]) (st2 := [.int (sh_b2 y0), .ref 67]) (I2 := m11.I) (J2 := m11.J) (fun hT v kk => ?_) ?_
    · refine sh_j0 (c := .ne) (off := (5)) (pc2 := 30) true rfl (sh_Znet c) rfl ?_
      refine sh_w (i := (.aload_n 0)) (len := 1) (pc2 := 31) (lv2 := [(6, .int (sh_b2 y0)), (0, .ref 67), (1, .int x1), (2, .int x2), (3, .int x3), (4, .int x4), (5, .int x5)]) (st2 := [.ref 67]) (h2 := (sh_rep m11.T m11.I m11.J)) rfl rfl rfl ?_
      refine sh_w (i := (.iload 6)) (len := 2) (pc2 := 33) (lv2 := [(6, .int (sh_b2 y0)), (0, .ref 67), (1, .int x1), (2, .int x2), (3, .int x3), (4, .int x4), (5, .int x5)]) (st2 := [.int (sh_b2 y0), .ref 67]) (h2 := (sh_rep m11.T m11.I m11.J)) rfl rfl rfl ?_
      exact kk
    rcases sh_ite e with ⟨c, e⟩ | ⟨c, e⟩
    · refine sh_Lk_lift (T := m11.T) (I := m11.I) (J := m11.J) (s := m11.s) (pc2 := 49) (lv2 := [(6, .int (sh_b2 y0)), (0, .ref 67), (1, .int x1), (2, .int x2), (3, .int x3), (4, .int x4), (5, .int x5)]) (st2 := [.int x3, .ref 67]) (I2 := m11.I) (J2 := m11.J) (fun hT v kk => ?_) ?_
      · refine sh_j0 (c := .eq) (off := (7)) (pc2 := 36) false rfl (sh_Zeqf c) rfl ?_
        refine sh_w (i := (.iload_n 3)) (len := 1) (pc2 := 37) (lv2 := [(6, .int (sh_b2 y0)), (0, .ref 67), (1, .int x1), (2, .int x2), (3, .int x3), (4, .int x4), (5, .int x5)]) (st2 := [.int x3, .ref 67]) (h2 := (sh_rep m11.T m11.I m11.J)) rfl rfl rfl ?_
        refine sh_w (i := (.goto 12)) (len := 3) (pc2 := 49) (lv2 := [(6, .int (sh_b2 y0)), (0, .ref 67), (1, .int x1), (2, .int x2), (3, .int x3), (4, .int x4), (5, .int x5)]) (st2 := [.int x3, .ref 67]) (h2 := (sh_rep m11.T m11.I m11.J)) rfl rfl rfl ?_
        exact kk
      exact sh_Lk_sub (sh_sub_c rfl (sh_sub_c rfl (sh_sub_c rfl (sh_sub_c rfl (sh_sub_c rfl (sh_sub_c rfl (sh_sub_n))))))) (sl_309_49 e tg)
    · refine sh_Lk_lift (T := m11.T) (I := m11.I) (J := m11.J) (s := m11.s) (pc2 := 49) (lv2 := [(6, .int (sh_b2 y0)), (0, .ref 67), (1, .int x1), (2, .int x2), (3, .int x3), (4, .int x4), (5, .int x5)]) (st2 := [.int (x4 * (x3 + (m11.I 66 44))), .ref 67]) (I2 := m11.I) (J2 := m11.J) (fun hT v kk => ?_) ?_
      · refine sh_j0 (c := .eq) (off := (7)) (pc2 := 40) true rfl (sh_Zeqt c) rfl ?_
        refine sh_w (i := (.iload 4)) (len := 2) (pc2 := 42) (lv2 := [(6, .int (sh_b2 y0)), (0, .ref 67), (1, .int x1), (2, .int x2), (3, .int x3), (4, .int x4), (5, .int x5)]) (st2 := [.int x4, .ref 67]) (h2 := (sh_rep m11.T m11.I m11.J)) rfl rfl rfl ?_
        refine sh_w (i := (.iload_n 3)) (len := 1) (pc2 := 43) (lv2 := [(6, .int (sh_b2 y0)), (0, .ref 67), (1, .int x1), (2, .int x2), (3, .int x3), (4, .int x4), (5, .int x5)]) (st2 := [.int x3, .int x4, .ref 67]) (h2 := (sh_rep m11.T m11.I m11.J)) rfl rfl rfl ?_
        refine sh_w (i := (.aload_n 0)) (len := 1) (pc2 := 44) (lv2 := [(6, .int (sh_b2 y0)), (0, .ref 67), (1, .int x1), (2, .int x2), (3, .int x3), (4, .int x4), (5, .int x5)]) (st2 := [.ref 67, .int x3, .int x4, .ref 67]) (h2 := (sh_rep m11.T m11.I m11.J)) rfl rfl rfl ?_
        refine sh_gI1 (len := 3) (x := m11.I 66 44) (pc2 := 47) rfl rfl (sh_s66 hT.st) rfl rfl rfl ?_
        refine sh_w (i := .iadd) (len := 1) (pc2 := 48) (lv2 := [(6, .int (sh_b2 y0)), (0, .ref 67), (1, .int x1), (2, .int x2), (3, .int x3), (4, .int x4), (5, .int x5)]) (st2 := [.int (x3 + (m11.I 66 44)), .int x4, .ref 67]) (h2 := (sh_rep m11.T m11.I m11.J)) rfl rfl rfl ?_
        refine sh_w (i := .imul) (len := 1) (pc2 := 49) (lv2 := [(6, .int (sh_b2 y0)), (0, .ref 67), (1, .int x1), (2, .int x2), (3, .int x3), (4, .int x4), (5, .int x5)]) (st2 := [.int (x4 * (x3 + (m11.I 66 44))), .ref 67]) (h2 := (sh_rep m11.T m11.I m11.J)) rfl rfl rfl ?_
        exact kk
      exact sh_Lk_sub (sh_sub_c rfl (sh_sub_c rfl (sh_sub_c rfl (sh_sub_c rfl (sh_sub_c rfl (sh_sub_c rfl (sh_sub_n))))))) (sl_309_49 e tg)
  · refine sh_Lk_lift (T := m11.T) (I := m11.I) (J := m11.J) (s := m11.s) (pc2 := 29) (lv2 := [(6, .int (sh_b2 y0)), (0, .ref 67), (1, .int x1), (2, .int x2), (3, .int x3), (4, .int x4), (5, .int x5)]) (st2 := [.int 0]) (I2 := m11.I) (J2 := m11.J) (fun hT v kk => ?_) ?_
    · refine sh_j0 (c := .ne) (off := (5)) (pc2 := 28) false rfl (sh_Znef c) rfl ?_
      refine sh_w (i := (.iconst 0)) (len := 1) (pc2 := 29) (lv2 := [(6, .int (sh_b2 y0)), (0, .ref 67), (1, .int x1), (2, .int x2), (3, .int x3), (4, .int x4), (5, .int x5)]) (st2 := [.int 0]) (h2 := (sh_rep m11.T m11.I m11.J)) rfl rfl rfl ?_
      exact kk
    obtain rfl := Option.some.inj e
    obtain ⟨rfl, rfl⟩ := tg
    exact sh_Lk_ret (i := .ireturn) rfl rfl rfl (Nat.le_of_ble_eq_true rfl) (Nat.le_of_ble_eq_true rfl)
theorem sl_309 {x1 : Int32} {x2 : Int32} {x3 : Int32} {x4 : Int32} {x5 : Int32} {m m2 : sh_X} {o : Outcome} {z : (Bool × sh_X)} (e : sf_309 x1 x2 x3 x4 x5 m = some z) (tg : (sh_tZ o m2) z) : sh_Lk 309 0 [(0, .ref 67), (1, .int x1), (2, .int x2), (3, .int x3), (4, .int x4), (5, .int x5)] [] m o m2 10 244 := by
  unfold sf_309 at e
  refine sh_Lk_lift (T := m.T) (I := m.I) (J := m.J) (s := m.s) (pc2 := 5) (lv2 := [(0, .ref 67), (1, .int x1), (2, .int x2), (3, .int x3), (4, .int x4), (5, .int x5)]) (st2 := [.int 3, .int (m.I 66 43)]) (I2 := m.I) (J2 := m.J) (fun hT v kk => ?_) ?_
  · refine sh_w (i := (.aload_n 0)) (len := 1) (pc2 := 1) (lv2 := [(0, .ref 67), (1, .int x1), (2, .int x2), (3, .int x3), (4, .int x4), (5, .int x5)]) (st2 := [.ref 67]) (h2 := (sh_rep m.T m.I m.J)) rfl rfl rfl ?_
    refine sh_gI1 (len := 3) (x := m.I 66 43) (pc2 := 4) rfl rfl (sh_s66 hT.st) rfl rfl rfl ?_
    refine sh_w (i := (.iconst 3)) (len := 1) (pc2 := 5) (lv2 := [(0, .ref 67), (1, .int x1), (2, .int x2), (3, .int x3), (4, .int x4), (5, .int x5)]) (st2 := [.int 3, .int (m.I 66 43)]) (h2 := (sh_rep m.T m.I m.J)) rfl rfl rfl ?_
    exact kk
  rcases sh_ite e with ⟨c, e⟩ | ⟨c, e⟩
  · refine sh_Lk_lift (T := m.T) (I := m.I) (J := m.J) (s := m.s) (pc2 := 13) (lv2 := [(0, .ref 67), (1, .int x1), (2, .int x2), (3, .int x3), (4, .int x4), (5, .int x5)]) (st2 := [.int 1]) (I2 := m.I) (J2 := m.J) (fun hT v kk => ?_) ?_
    · refine sh_jc (c := .ne) (off := (7)) (pc2 := 8) false rfl (sh_Bnef c) rfl ?_
      refine sh_w (i := (.iconst 1)) (len := 1) (pc2 := 9) (lv2 := [(0, .ref 67), (1, .int x1), (2, .int x2), (3, .int x3), (4, .int x4), (5, .int x5)]) (st2 := [.int 1]) (h2 := (sh_rep m.T m.I m.J)) rfl rfl rfl ?_
      refine sh_w (i := (.goto 4)) (len := 3) (pc2 := 13) (lv2 := [(0, .ref 67), (1, .int x1), (2, .int x2), (3, .int x3), (4, .int x4), (5, .int x5)]) (st2 := [.int 1]) (h2 := (sh_rep m.T m.I m.J)) rfl rfl rfl ?_
      exact kk
    exact sh_Lk_sub (sh_sub_c rfl (sh_sub_c rfl (sh_sub_c rfl (sh_sub_c rfl (sh_sub_c rfl (sh_sub_c rfl (sh_sub_n))))))) (sl_309_13 e tg)
  · refine sh_Lk_lift (T := m.T) (I := m.I) (J := m.J) (s := m.s) (pc2 := 13) (lv2 := [(0, .ref 67), (1, .int x1), (2, .int x2), (3, .int x3), (4, .int x4), (5, .int x5)]) (st2 := [.int 0]) (I2 := m.I) (J2 := m.J) (fun hT v kk => ?_) ?_
    · refine sh_jc (c := .ne) (off := (7)) (pc2 := 12) true rfl (sh_Bnet c) rfl ?_
      refine sh_w (i := (.iconst 0)) (len := 1) (pc2 := 13) (lv2 := [(0, .ref 67), (1, .int x1), (2, .int x2), (3, .int x3), (4, .int x4), (5, .int x5)]) (st2 := [.int 0]) (h2 := (sh_rep m.T m.I m.J)) rfl rfl rfl ?_
      exact kk
    exact sh_Lk_sub (sh_sub_c rfl (sh_sub_c rfl (sh_sub_c rfl (sh_sub_c rfl (sh_sub_c rfl (sh_sub_c rfl (sh_sub_n))))))) (sl_309_13 e tg)
theorem sl_302_71 {x1 : Int32} {m m2 : sh_X} {o : Outcome} {z : (Bool × sh_X)} (e : sf_302_71 x1 m = some z) (tg : (sh_tZ o m2) z) : sh_Lk 302 71 [(0, .ref 67), (1, .int x1)] [] m o m2 14 363 := by
  unfold sf_302_71 at e
  refine sh_Lk_lift (T := m.T) (I := m.I) (J := m.J) (s := m.s) (pc2 := 82) (lv2 := [(0, .ref 67), (1, .int x1)]) (st2 := [.int x1, .ref 74, .ref 70, .int 4, .ref 67]) (I2 := m.I) (J2 := m.J) (fun hT v kk => ?_) ?_
  · refine sh_w (i := (.aload_n 0)) (len := 1) (pc2 := 72) (lv2 := [(0, .ref 67), (1, .int x1)]) (st2 := [.ref 67]) (h2 := (sh_rep m.T m.I m.J)) rfl rfl rfl ?_
    refine sh_w (i := (.iconst 4)) (len := 1) (pc2 := 73) (lv2 := [(0, .ref 67), (1, .int x1)]) (st2 := [.int 4, .ref 67]) (h2 := (sh_rep m.T m.I m.J)) rfl rfl rfl ?_
    refine sh_w (i := (.aload_n 0)) (len := 1) (pc2 := 74) (lv2 := [(0, .ref 67), (1, .int x1)]) (st2 := [.ref 67, .int 4, .ref 67]) (h2 := (sh_rep m.T m.I m.J)) rfl rfl rfl ?_
    refine sh_gR1 (len := 3) (x := .ref 70) (pc2 := 77) rfl rfl (sh_s66 hT.st) rfl rfl ?_
    refine sh_w (i := (.aload_n 0)) (len := 1) (pc2 := 78) (lv2 := [(0, .ref 67), (1, .int x1)]) (st2 := [.ref 67, .ref 70, .int 4, .ref 67]) (h2 := (sh_rep m.T m.I m.J)) rfl rfl rfl ?_
    refine sh_gR1 (len := 3) (x := .ref 74) (pc2 := 81) rfl rfl (sh_s66 hT.st) rfl rfl ?_
    refine sh_w (i := (.iload_n 1)) (len := 1) (pc2 := 82) (lv2 := [(0, .ref 67), (1, .int x1)]) (st2 := [.int x1, .ref 74, .ref 70, .int 4, .ref 67]) (h2 := (sh_rep m.T m.I m.J)) rfl rfl rfl ?_
    exact kk
  obtain ⟨c, e⟩ := sh_gd e
  refine sh_Lk_lift (T := m.T) (I := m.I) (J := m.J) (s := m.s) (pc2 := 83) (lv2 := [(0, .ref 67), (1, .int x1)]) (st2 := [.int (m.I 73 (Int32.toNatClampNeg x1)), .ref 70, .int 4, .ref 67]) (I2 := m.I) (J2 := m.J) (fun hT v kk => ?_) ?_
  · refine sh_ia1 (x := m.I 73 (Int32.toNatClampNeg x1)) (pc2 := 83) rfl (sh_s73 hT.st) (sh_okb1 c) (sh_okb2 c) rfl rfl ?_
    exact kk
  obtain ⟨c, e⟩ := sh_gd e
  refine sh_Lk_lift (T := m.T) (I := m.I) (J := m.J) (s := m.s) (pc2 := 84) (lv2 := [(0, .ref 67), (1, .int x1)]) (st2 := [.int (m.I 69 (Int32.toNatClampNeg (m.I 73 (Int32.toNatClampNeg x1)))), .int 4, .ref 67]) (I2 := m.I) (J2 := m.J) (fun hT v kk => ?_) ?_
  · refine sh_ia1 (x := m.I 69 (Int32.toNatClampNeg (m.I 73 (Int32.toNatClampNeg x1)))) (pc2 := 84) rfl (sh_s69 hT.st) (sh_okb1 c) (sh_okb2 c) rfl rfl ?_
    exact kk
  obtain ⟨r1, m11, e1, e⟩ := sh_bn_e e
  refine sh_Lk_cV (r := (some (.int (sh_b2 r1)))) (st2 := [.int (sh_b2 r1)]) (pc2 := 87) (k2 := 252) (a := 66) (as := [.ref 67, .int 4, .int (m.I 69 (Int32.toNatClampNeg (m.I 73 (Int32.toNatClampNeg x1))))]) (rest := []) rfl rfl rfl (fun hT => (sh_s66 hT.st)) rfl rfl ⟨Nat.le_of_ble_eq_true rfl, Nat.le_of_ble_eq_true rfl⟩ (sl_252 e1 ⟨rfl, rfl⟩) rfl rfl (Nat.le_of_ble_eq_true rfl) (Nat.le_of_ble_eq_true rfl) ?_
  obtain rfl := Option.some.inj e
  obtain ⟨rfl, rfl⟩ := tg
  exact sh_Lk_ret (i := .ireturn) rfl rfl (sh_rb rfl _) (Nat.le_of_ble_eq_true rfl) (Nat.le_of_ble_eq_true rfl)
theorem sl_302_88 {x1 : Int32} {x2 : Int32} {m m2 : sh_X} {o : Outcome} {z : (Bool × sh_X)} (e : sf_302_88 x1 x2 m = some z) (tg : (sh_tZ o m2) z) : sh_Lk 302 88 [(0, .ref 67), (1, .int x1), (2, .int x2)] [] m o m2 14 363 := by
  unfold sf_302_88 at e
  refine sh_Lk_lift (T := m.T) (I := m.I) (J := m.J) (s := m.s) (pc2 := 94) (lv2 := [(0, .ref 67), (1, .int x1), (2, .int x2)]) (st2 := [.int 2, .int x2, .ref 107]) (I2 := m.I) (J2 := m.J) (fun hT v kk => ?_) ?_
  · refine sh_w (i := (.aload_n 0)) (len := 1) (pc2 := 89) (lv2 := [(0, .ref 67), (1, .int x1), (2, .int x2)]) (st2 := [.ref 67]) (h2 := (sh_rep m.T m.I m.J)) rfl rfl rfl ?_
    refine sh_gR1 (len := 3) (x := .ref 107) (pc2 := 92) rfl rfl (sh_s66 hT.st) rfl rfl ?_
    refine sh_w (i := (.iload_n 2)) (len := 1) (pc2 := 93) (lv2 := [(0, .ref 67), (1, .int x1), (2, .int x2)]) (st2 := [.int x2, .ref 107]) (h2 := (sh_rep m.T m.I m.J)) rfl rfl rfl ?_
    refine sh_w (i := (.iconst 2)) (len := 1) (pc2 := 94) (lv2 := [(0, .ref 67), (1, .int x1), (2, .int x2)]) (st2 := [.int 2, .int x2, .ref 107]) (h2 := (sh_rep m.T m.I m.J)) rfl rfl rfl ?_
    exact kk
  obtain ⟨c, e⟩ := sh_gd e
  refine sh_Lk_lift (T := m.T) (I := m.I) (J := m.J) (s := m.s) (pc2 := 104) (lv2 := [(0, .ref 67), (1, .int x1), (2, .int x2)]) (st2 := [.int (m.I 66 43), .int x2, .ref 108]) (I2 := sh_u2 m.I 106 (Int32.toNatClampNeg x2) 2) (J2 := m.J) (fun hT v kk => ?_) ?_
  · refine sh_is1 (x := 2) (i := x2) (pc2 := 95) rfl (sh_s106 hT.st) (sh_okb1 c) (sh_okb2 c) rfl ?_
    refine sh_w (i := (.aload_n 0)) (len := 1) (pc2 := 96) (lv2 := [(0, .ref 67), (1, .int x1), (2, .int x2)]) (st2 := [.ref 67]) (h2 := (sh_rep m.T (sh_u2 m.I 106 (Int32.toNatClampNeg x2) 2) m.J)) rfl rfl rfl ?_
    refine sh_gR1 (len := 3) (x := .ref 108) (pc2 := 99) rfl rfl (sh_s66 hT.st) rfl rfl ?_
    refine sh_w (i := (.iload_n 2)) (len := 1) (pc2 := 100) (lv2 := [(0, .ref 67), (1, .int x1), (2, .int x2)]) (st2 := [.int x2, .ref 108]) (h2 := (sh_rep m.T (sh_u2 m.I 106 (Int32.toNatClampNeg x2) 2) m.J)) rfl rfl rfl ?_
    refine sh_w (i := (.aload_n 0)) (len := 1) (pc2 := 101) (lv2 := [(0, .ref 67), (1, .int x1), (2, .int x2)]) (st2 := [.ref 67, .int x2, .ref 108]) (h2 := (sh_rep m.T (sh_u2 m.I 106 (Int32.toNatClampNeg x2) 2) m.J)) rfl rfl rfl ?_
    refine sh_gI1 (len := 3) (x := m.I 66 43) (pc2 := 104) rfl rfl (sh_s66 hT.st) rfl rfl rfl ?_
    exact kk
  obtain ⟨c, e⟩ := sh_gd e
  refine sh_Lk_lift (T := m.T) (I := sh_u2 m.I 106 (Int32.toNatClampNeg x2) 2) (J := m.J) (s := m.s) (pc2 := 114) (lv2 := [(0, .ref 67), (1, .int x1), (2, .int x2)]) (st2 := [.int (m.I 66 44), .int x2, .ref 109]) (I2 := sh_u2 (sh_u2 m.I 106 (Int32.toNatClampNeg x2) 2) 107 (Int32.toNatClampNeg x2) (m.I 66 43)) (J2 := m.J) (fun hT v kk => ?_) ?_
  · refine sh_is1 (x := m.I 66 43) (i := x2) (pc2 := 105) rfl (sh_s107 hT.st) (sh_okb1 c) (sh_okb2 c) rfl ?_
    refine sh_w (i := (.aload_n 0)) (len := 1) (pc2 := 106) (lv2 := [(0, .ref 67), (1, .int x1), (2, .int x2)]) (st2 := [.ref 67]) (h2 := (sh_rep m.T (sh_u2 (sh_u2 m.I 106 (Int32.toNatClampNeg x2) 2) 107 (Int32.toNatClampNeg x2) (m.I 66 43)) m.J)) rfl rfl rfl ?_
    refine sh_gR1 (len := 3) (x := .ref 109) (pc2 := 109) rfl rfl (sh_s66 hT.st) rfl rfl ?_
    refine sh_w (i := (.iload_n 2)) (len := 1) (pc2 := 110) (lv2 := [(0, .ref 67), (1, .int x1), (2, .int x2)]) (st2 := [.int x2, .ref 109]) (h2 := (sh_rep m.T (sh_u2 (sh_u2 m.I 106 (Int32.toNatClampNeg x2) 2) 107 (Int32.toNatClampNeg x2) (m.I 66 43)) m.J)) rfl rfl rfl ?_
    refine sh_w (i := (.aload_n 0)) (len := 1) (pc2 := 111) (lv2 := [(0, .ref 67), (1, .int x1), (2, .int x2)]) (st2 := [.ref 67, .int x2, .ref 109]) (h2 := (sh_rep m.T (sh_u2 (sh_u2 m.I 106 (Int32.toNatClampNeg x2) 2) 107 (Int32.toNatClampNeg x2) (m.I 66 43)) m.J)) rfl rfl rfl ?_
    refine sh_gI1 (len := 3) (x := m.I 66 44) (pc2 := 114) rfl rfl (sh_s66 hT.st) rfl rfl rfl ?_
    exact kk
  obtain ⟨c, e⟩ := sh_gd e
  refine sh_Lk_lift (T := m.T) (I := sh_u2 (sh_u2 m.I 106 (Int32.toNatClampNeg x2) 2) 107 (Int32.toNatClampNeg x2) (m.I 66 43)) (J := m.J) (s := m.s) (pc2 := 124) (lv2 := [(0, .ref 67), (1, .int x1), (2, .int x2)]) (st2 := [.int (m.I 66 45), .int x2, .ref 110]) (I2 := sh_u2 (sh_u2 (sh_u2 m.I 106 (Int32.toNatClampNeg x2) 2) 107 (Int32.toNatClampNeg x2) (m.I 66 43)) 108 (Int32.toNatClampNeg x2) (m.I 66 44)) (J2 := m.J) (fun hT v kk => ?_) ?_
  · refine sh_is1 (x := m.I 66 44) (i := x2) (pc2 := 115) rfl (sh_s108 hT.st) (sh_okb1 c) (sh_okb2 c) rfl ?_
    refine sh_w (i := (.aload_n 0)) (len := 1) (pc2 := 116) (lv2 := [(0, .ref 67), (1, .int x1), (2, .int x2)]) (st2 := [.ref 67]) (h2 := (sh_rep m.T (sh_u2 (sh_u2 (sh_u2 m.I 106 (Int32.toNatClampNeg x2) 2) 107 (Int32.toNatClampNeg x2) (m.I 66 43)) 108 (Int32.toNatClampNeg x2) (m.I 66 44)) m.J)) rfl rfl rfl ?_
    refine sh_gR1 (len := 3) (x := .ref 110) (pc2 := 119) rfl rfl (sh_s66 hT.st) rfl rfl ?_
    refine sh_w (i := (.iload_n 2)) (len := 1) (pc2 := 120) (lv2 := [(0, .ref 67), (1, .int x1), (2, .int x2)]) (st2 := [.int x2, .ref 110]) (h2 := (sh_rep m.T (sh_u2 (sh_u2 (sh_u2 m.I 106 (Int32.toNatClampNeg x2) 2) 107 (Int32.toNatClampNeg x2) (m.I 66 43)) 108 (Int32.toNatClampNeg x2) (m.I 66 44)) m.J)) rfl rfl rfl ?_
    refine sh_w (i := (.aload_n 0)) (len := 1) (pc2 := 121) (lv2 := [(0, .ref 67), (1, .int x1), (2, .int x2)]) (st2 := [.ref 67, .int x2, .ref 110]) (h2 := (sh_rep m.T (sh_u2 (sh_u2 (sh_u2 m.I 106 (Int32.toNatClampNeg x2) 2) 107 (Int32.toNatClampNeg x2) (m.I 66 43)) 108 (Int32.toNatClampNeg x2) (m.I 66 44)) m.J)) rfl rfl rfl ?_
    refine sh_gI1 (len := 3) (x := m.I 66 45) (pc2 := 124) rfl rfl (sh_s66 hT.st) rfl rfl rfl ?_
    exact kk
  obtain ⟨c, e⟩ := sh_gd e
  refine sh_Lk_lift (T := m.T) (I := sh_u2 (sh_u2 (sh_u2 m.I 106 (Int32.toNatClampNeg x2) 2) 107 (Int32.toNatClampNeg x2) (m.I 66 43)) 108 (Int32.toNatClampNeg x2) (m.I 66 44)) (J := m.J) (s := m.s) (pc2 := 134) (lv2 := [(0, .ref 67), (1, .int x1), (2, .int x2)]) (st2 := [.long (m.J 66 46), .int x2, .ref 112]) (I2 := sh_u2 (sh_u2 (sh_u2 (sh_u2 m.I 106 (Int32.toNatClampNeg x2) 2) 107 (Int32.toNatClampNeg x2) (m.I 66 43)) 108 (Int32.toNatClampNeg x2) (m.I 66 44)) 109 (Int32.toNatClampNeg x2) (m.I 66 45)) (J2 := m.J) (fun hT v kk => ?_) ?_
  · refine sh_is1 (x := m.I 66 45) (i := x2) (pc2 := 125) rfl (sh_s109 hT.st) (sh_okb1 c) (sh_okb2 c) rfl ?_
    refine sh_w (i := (.aload_n 0)) (len := 1) (pc2 := 126) (lv2 := [(0, .ref 67), (1, .int x1), (2, .int x2)]) (st2 := [.ref 67]) (h2 := (sh_rep m.T (sh_u2 (sh_u2 (sh_u2 (sh_u2 m.I 106 (Int32.toNatClampNeg x2) 2) 107 (Int32.toNatClampNeg x2) (m.I 66 43)) 108 (Int32.toNatClampNeg x2) (m.I 66 44)) 109 (Int32.toNatClampNeg x2) (m.I 66 45)) m.J)) rfl rfl rfl ?_
    refine sh_gR1 (len := 3) (x := .ref 112) (pc2 := 129) rfl rfl (sh_s66 hT.st) rfl rfl ?_
    refine sh_w (i := (.iload_n 2)) (len := 1) (pc2 := 130) (lv2 := [(0, .ref 67), (1, .int x1), (2, .int x2)]) (st2 := [.int x2, .ref 112]) (h2 := (sh_rep m.T (sh_u2 (sh_u2 (sh_u2 (sh_u2 m.I 106 (Int32.toNatClampNeg x2) 2) 107 (Int32.toNatClampNeg x2) (m.I 66 43)) 108 (Int32.toNatClampNeg x2) (m.I 66 44)) 109 (Int32.toNatClampNeg x2) (m.I 66 45)) m.J)) rfl rfl rfl ?_
    refine sh_w (i := (.aload_n 0)) (len := 1) (pc2 := 131) (lv2 := [(0, .ref 67), (1, .int x1), (2, .int x2)]) (st2 := [.ref 67, .int x2, .ref 112]) (h2 := (sh_rep m.T (sh_u2 (sh_u2 (sh_u2 (sh_u2 m.I 106 (Int32.toNatClampNeg x2) 2) 107 (Int32.toNatClampNeg x2) (m.I 66 43)) 108 (Int32.toNatClampNeg x2) (m.I 66 44)) 109 (Int32.toNatClampNeg x2) (m.I 66 45)) m.J)) rfl rfl rfl ?_
    refine sh_gJ1 (len := 3) (x := m.J 66 46) (pc2 := 134) rfl rfl (sh_s66 hT.st) rfl rfl rfl ?_
    exact kk
  obtain ⟨c, e⟩ := sh_gd e
  refine sh_Lk_lift (T := m.T) (I := sh_u2 (sh_u2 (sh_u2 (sh_u2 m.I 106 (Int32.toNatClampNeg x2) 2) 107 (Int32.toNatClampNeg x2) (m.I 66 43)) 108 (Int32.toNatClampNeg x2) (m.I 66 44)) 109 (Int32.toNatClampNeg x2) (m.I 66 45)) (J := m.J) (s := m.s) (pc2 := 141) (lv2 := [(0, .ref 67), (1, .int x1), (2, .int x2)]) (st2 := [.int x1, .ref 76, .ref 67]) (I2 := sh_u2 (sh_u2 (sh_u2 (sh_u2 m.I 106 (Int32.toNatClampNeg x2) 2) 107 (Int32.toNatClampNeg x2) (m.I 66 43)) 108 (Int32.toNatClampNeg x2) (m.I 66 44)) 109 (Int32.toNatClampNeg x2) (m.I 66 45)) (J2 := sh_u2 m.J 111 (Int32.toNatClampNeg x2) (m.J 66 46)) (fun hT v kk => ?_) ?_
  · refine sh_ls1 (x := m.J 66 46) (i := x2) (pc2 := 135) rfl (sh_s111 hT.st) (sh_okb1 c) (sh_okb2 c) rfl ?_
    refine sh_w (i := (.aload_n 0)) (len := 1) (pc2 := 136) (lv2 := [(0, .ref 67), (1, .int x1), (2, .int x2)]) (st2 := [.ref 67]) (h2 := (sh_rep m.T (sh_u2 (sh_u2 (sh_u2 (sh_u2 m.I 106 (Int32.toNatClampNeg x2) 2) 107 (Int32.toNatClampNeg x2) (m.I 66 43)) 108 (Int32.toNatClampNeg x2) (m.I 66 44)) 109 (Int32.toNatClampNeg x2) (m.I 66 45)) (sh_u2 m.J 111 (Int32.toNatClampNeg x2) (m.J 66 46)))) rfl rfl rfl ?_
    refine sh_w (i := (.aload_n 0)) (len := 1) (pc2 := 137) (lv2 := [(0, .ref 67), (1, .int x1), (2, .int x2)]) (st2 := [.ref 67, .ref 67]) (h2 := (sh_rep m.T (sh_u2 (sh_u2 (sh_u2 (sh_u2 m.I 106 (Int32.toNatClampNeg x2) 2) 107 (Int32.toNatClampNeg x2) (m.I 66 43)) 108 (Int32.toNatClampNeg x2) (m.I 66 44)) 109 (Int32.toNatClampNeg x2) (m.I 66 45)) (sh_u2 m.J 111 (Int32.toNatClampNeg x2) (m.J 66 46)))) rfl rfl rfl ?_
    refine sh_gR1 (len := 3) (x := .ref 76) (pc2 := 140) rfl rfl (sh_s66 hT.st) rfl rfl ?_
    refine sh_w (i := (.iload_n 1)) (len := 1) (pc2 := 141) (lv2 := [(0, .ref 67), (1, .int x1), (2, .int x2)]) (st2 := [.int x1, .ref 76, .ref 67]) (h2 := (sh_rep m.T (sh_u2 (sh_u2 (sh_u2 (sh_u2 m.I 106 (Int32.toNatClampNeg x2) 2) 107 (Int32.toNatClampNeg x2) (m.I 66 43)) 108 (Int32.toNatClampNeg x2) (m.I 66 44)) 109 (Int32.toNatClampNeg x2) (m.I 66 45)) (sh_u2 m.J 111 (Int32.toNatClampNeg x2) (m.J 66 46)))) rfl rfl rfl ?_
    exact kk
  obtain ⟨c, e⟩ := sh_gd e
  refine sh_Lk_lift (T := m.T) (I := sh_u2 (sh_u2 (sh_u2 (sh_u2 m.I 106 (Int32.toNatClampNeg x2) 2) 107 (Int32.toNatClampNeg x2) (m.I 66 43)) 108 (Int32.toNatClampNeg x2) (m.I 66 44)) 109 (Int32.toNatClampNeg x2) (m.I 66 45)) (J := sh_u2 m.J 111 (Int32.toNatClampNeg x2) (m.J 66 46)) (s := m.s) (pc2 := 142) (lv2 := [(0, .ref 67), (1, .int x1), (2, .int x2)]) (st2 := [.int (m.I 75 (Int32.toNatClampNeg x1)), .ref 67]) (I2 := sh_u2 (sh_u2 (sh_u2 (sh_u2 m.I 106 (Int32.toNatClampNeg x2) 2) 107 (Int32.toNatClampNeg x2) (m.I 66 43)) 108 (Int32.toNatClampNeg x2) (m.I 66 44)) 109 (Int32.toNatClampNeg x2) (m.I 66 45)) (J2 := sh_u2 m.J 111 (Int32.toNatClampNeg x2) (m.J 66 46)) (fun hT v kk => ?_) ?_
  · refine sh_ia1 (x := m.I 75 (Int32.toNatClampNeg x1)) (pc2 := 142) rfl (sh_s75 hT.st) (sh_okb1 c) (sh_okb2 c) rfl rfl ?_
    exact kk
  obtain ⟨r1, m11, e1, e⟩ := sh_bn_e e
  refine sh_Lk_cV (r := none) (st2 := []) (pc2 := 145) (k2 := 295) (a := 66) (as := [.ref 67, .int (m.I 75 (Int32.toNatClampNeg x1))]) (rest := []) rfl rfl rfl (fun hT => (sh_s66 hT.st)) rfl rfl ⟨Nat.le_of_ble_eq_true rfl, Nat.le_of_ble_eq_true rfl⟩ (sl_295 e1 ⟨rfl, rfl⟩) rfl rfl (Nat.le_of_ble_eq_true rfl) (Nat.le_of_ble_eq_true rfl) ?_
  refine sh_Lk_lift (T := m11.T) (I := m11.I) (J := m11.J) (s := m11.s) (pc2 := 146) (lv2 := [(0, .ref 67), (1, .int x1), (2, .int x2)]) (st2 := [.int 1]) (I2 := m11.I) (J2 := m11.J) (fun hT v kk => ?_) ?_
  · refine sh_w (i := (.iconst 1)) (len := 1) (pc2 := 146) (lv2 := [(0, .ref 67), (1, .int x1), (2, .int x2)]) (st2 := [.int 1]) (h2 := (sh_rep m11.T m11.I m11.J)) rfl rfl rfl ?_
    exact kk
  obtain rfl := Option.some.inj e
  obtain ⟨rfl, rfl⟩ := tg
  exact sh_Lk_ret (i := .ireturn) rfl rfl rfl (Nat.le_of_ble_eq_true rfl) (Nat.le_of_ble_eq_true rfl)
theorem sl_302 {x1 : Int32} {m m2 : sh_X} {o : Outcome} {z : (Bool × sh_X)} (e : sf_302 x1 m = some z) (tg : (sh_tZ o m2) z) : sh_Lk 302 0 [(0, .ref 67), (1, .int x1)] [] m o m2 14 363 := by
  unfold sf_302 at e
  refine sh_Lk_lift (T := m.T) (I := m.I) (J := m.J) (s := m.s) (pc2 := 12) (lv2 := [(2, .int ((m.I 66 73) - 1)), (0, .ref 67), (1, .int x1)]) (st2 := [.int ((m.I 66 73) - 1), .ref 107]) (I2 := m.I) (J2 := m.J) (fun hT v kk => ?_) ?_
  · refine sh_w (i := (.aload_n 0)) (len := 1) (pc2 := 1) (lv2 := [(0, .ref 67), (1, .int x1)]) (st2 := [.ref 67]) (h2 := (sh_rep m.T m.I m.J)) rfl rfl rfl ?_
    refine sh_gI1 (len := 3) (x := m.I 66 73) (pc2 := 4) rfl rfl (sh_s66 hT.st) rfl rfl rfl ?_
    refine sh_w (i := (.iconst 1)) (len := 1) (pc2 := 5) (lv2 := [(0, .ref 67), (1, .int x1)]) (st2 := [.int 1, .int (m.I 66 73)]) (h2 := (sh_rep m.T m.I m.J)) rfl rfl rfl ?_
    refine sh_w (i := .isub) (len := 1) (pc2 := 6) (lv2 := [(0, .ref 67), (1, .int x1)]) (st2 := [.int ((m.I 66 73) - 1)]) (h2 := (sh_rep m.T m.I m.J)) rfl rfl rfl ?_
    refine sh_w (i := (.istore_n 2)) (len := 1) (pc2 := 7) (lv2 := [(2, .int ((m.I 66 73) - 1)), (0, .ref 67), (1, .int x1)]) (st2 := []) (h2 := (sh_rep m.T m.I m.J)) rfl rfl rfl ?_
    refine sh_w (i := (.aload_n 0)) (len := 1) (pc2 := 8) (lv2 := [(2, .int ((m.I 66 73) - 1)), (0, .ref 67), (1, .int x1)]) (st2 := [.ref 67]) (h2 := (sh_rep m.T m.I m.J)) rfl rfl rfl ?_
    refine sh_gR1 (len := 3) (x := .ref 107) (pc2 := 11) rfl rfl (sh_s66 hT.st) rfl rfl ?_
    refine sh_w (i := (.iload_n 2)) (len := 1) (pc2 := 12) (lv2 := [(2, .int ((m.I 66 73) - 1)), (0, .ref 67), (1, .int x1)]) (st2 := [.int ((m.I 66 73) - 1), .ref 107]) (h2 := (sh_rep m.T m.I m.J)) rfl rfl rfl ?_
    exact kk
  obtain ⟨c, e⟩ := sh_gd e
  refine sh_Lk_lift (T := m.T) (I := m.I) (J := m.J) (s := m.s) (pc2 := 13) (lv2 := [(2, .int ((m.I 66 73) - 1)), (0, .ref 67), (1, .int x1)]) (st2 := [.int (m.I 106 (Int32.toNatClampNeg ((m.I 66 73) - 1)))]) (I2 := m.I) (J2 := m.J) (fun hT v kk => ?_) ?_
  · refine sh_ia1 (x := m.I 106 (Int32.toNatClampNeg ((m.I 66 73) - 1))) (pc2 := 13) rfl (sh_s106 hT.st) (sh_okb1 c) (sh_okb2 c) rfl rfl ?_
    exact kk
  rcases sh_ite e with ⟨c, e⟩ | ⟨c, e⟩
  · refine sh_Lk_lift (T := m.T) (I := m.I) (J := m.J) (s := m.s) (pc2 := 22) (lv2 := [(2, .int ((m.I 66 73) - 1)), (0, .ref 67), (1, .int x1)]) (st2 := [.int 1, .int ((m.I 66 73) - 1), .ref 107]) (I2 := m.I) (J2 := m.J) (fun hT v kk => ?_) ?_
    · refine sh_j0 (c := .ne) (off := (22)) (pc2 := 16) false rfl (sh_Bnef c) rfl ?_
      refine sh_w (i := (.aload_n 0)) (len := 1) (pc2 := 17) (lv2 := [(2, .int ((m.I 66 73) - 1)), (0, .ref 67), (1, .int x1)]) (st2 := [.ref 67]) (h2 := (sh_rep m.T m.I m.J)) rfl rfl rfl ?_
      refine sh_gR1 (len := 3) (x := .ref 107) (pc2 := 20) rfl rfl (sh_s66 hT.st) rfl rfl ?_
      refine sh_w (i := (.iload_n 2)) (len := 1) (pc2 := 21) (lv2 := [(2, .int ((m.I 66 73) - 1)), (0, .ref 67), (1, .int x1)]) (st2 := [.int ((m.I 66 73) - 1), .ref 107]) (h2 := (sh_rep m.T m.I m.J)) rfl rfl rfl ?_
      refine sh_w (i := (.iconst 1)) (len := 1) (pc2 := 22) (lv2 := [(2, .int ((m.I 66 73) - 1)), (0, .ref 67), (1, .int x1)]) (st2 := [.int 1, .int ((m.I 66 73) - 1), .ref 107]) (h2 := (sh_rep m.T m.I m.J)) rfl rfl rfl ?_
      exact kk
    obtain ⟨c, e⟩ := sh_gd e
    refine sh_Lk_lift (T := m.T) (I := m.I) (J := m.J) (s := m.s) (pc2 := 29) (lv2 := [(2, .int ((m.I 66 73) - 1)), (0, .ref 67), (1, .int x1)]) (st2 := [.int x1, .ref 75, .ref 67]) (I2 := sh_u2 m.I 106 (Int32.toNatClampNeg ((m.I 66 73) - 1)) 1) (J2 := m.J) (fun hT v kk => ?_) ?_
    · refine sh_is1 (x := 1) (i := (m.I 66 73) - 1) (pc2 := 23) rfl (sh_s106 hT.st) (sh_okb1 c) (sh_okb2 c) rfl ?_
      refine sh_w (i := (.aload_n 0)) (len := 1) (pc2 := 24) (lv2 := [(2, .int ((m.I 66 73) - 1)), (0, .ref 67), (1, .int x1)]) (st2 := [.ref 67]) (h2 := (sh_rep m.T (sh_u2 m.I 106 (Int32.toNatClampNeg ((m.I 66 73) - 1)) 1) m.J)) rfl rfl rfl ?_
      refine sh_w (i := (.aload_n 0)) (len := 1) (pc2 := 25) (lv2 := [(2, .int ((m.I 66 73) - 1)), (0, .ref 67), (1, .int x1)]) (st2 := [.ref 67, .ref 67]) (h2 := (sh_rep m.T (sh_u2 m.I 106 (Int32.toNatClampNeg ((m.I 66 73) - 1)) 1) m.J)) rfl rfl rfl ?_
      refine sh_gR1 (len := 3) (x := .ref 75) (pc2 := 28) rfl rfl (sh_s66 hT.st) rfl rfl ?_
      refine sh_w (i := (.iload_n 1)) (len := 1) (pc2 := 29) (lv2 := [(2, .int ((m.I 66 73) - 1)), (0, .ref 67), (1, .int x1)]) (st2 := [.int x1, .ref 75, .ref 67]) (h2 := (sh_rep m.T (sh_u2 m.I 106 (Int32.toNatClampNeg ((m.I 66 73) - 1)) 1) m.J)) rfl rfl rfl ?_
      exact kk
    obtain ⟨c, e⟩ := sh_gd e
    refine sh_Lk_lift (T := m.T) (I := sh_u2 m.I 106 (Int32.toNatClampNeg ((m.I 66 73) - 1)) 1) (J := m.J) (s := m.s) (pc2 := 30) (lv2 := [(2, .int ((m.I 66 73) - 1)), (0, .ref 67), (1, .int x1)]) (st2 := [.int (m.I 74 (Int32.toNatClampNeg x1)), .ref 67]) (I2 := sh_u2 m.I 106 (Int32.toNatClampNeg ((m.I 66 73) - 1)) 1) (J2 := m.J) (fun hT v kk => ?_) ?_
    · refine sh_ia1 (x := m.I 74 (Int32.toNatClampNeg x1)) (pc2 := 30) rfl (sh_s74 hT.st) (sh_okb1 c) (sh_okb2 c) rfl rfl ?_
      exact kk
    obtain ⟨r1, m11, e1, e⟩ := sh_bn_e e
    refine sh_Lk_cV (r := none) (st2 := []) (pc2 := 33) (k2 := 295) (a := 66) (as := [.ref 67, .int (m.I 74 (Int32.toNatClampNeg x1))]) (rest := []) rfl rfl rfl (fun hT => (sh_s66 hT.st)) rfl rfl ⟨Nat.le_of_ble_eq_true rfl, Nat.le_of_ble_eq_true rfl⟩ (sl_295 e1 ⟨rfl, rfl⟩) rfl rfl (Nat.le_of_ble_eq_true rfl) (Nat.le_of_ble_eq_true rfl) ?_
    refine sh_Lk_lift (T := m11.T) (I := m11.I) (J := m11.J) (s := m11.s) (pc2 := 34) (lv2 := [(2, .int ((m.I 66 73) - 1)), (0, .ref 67), (1, .int x1)]) (st2 := [.int 1]) (I2 := m11.I) (J2 := m11.J) (fun hT v kk => ?_) ?_
    · refine sh_w (i := (.iconst 1)) (len := 1) (pc2 := 34) (lv2 := [(2, .int ((m.I 66 73) - 1)), (0, .ref 67), (1, .int x1)]) (st2 := [.int 1]) (h2 := (sh_rep m11.T m11.I m11.J)) rfl rfl rfl ?_
      exact kk
    obtain rfl := Option.some.inj e
    obtain ⟨rfl, rfl⟩ := tg
    exact sh_Lk_ret (i := .ireturn) rfl rfl rfl (Nat.le_of_ble_eq_true rfl) (Nat.le_of_ble_eq_true rfl)
  · refine sh_Lk_lift (T := m.T) (I := m.I) (J := m.J) (s := m.s) (pc2 := 40) (lv2 := [(2, .int ((m.I 66 73) - 1)), (0, .ref 67), (1, .int x1)]) (st2 := [.int ((m.I 66 73) - 1), .ref 107]) (I2 := m.I) (J2 := m.J) (fun hT v kk => ?_) ?_
    · refine sh_j0 (c := .ne) (off := (22)) (pc2 := 35) true rfl (sh_Bnet c) rfl ?_
      refine sh_w (i := (.aload_n 0)) (len := 1) (pc2 := 36) (lv2 := [(2, .int ((m.I 66 73) - 1)), (0, .ref 67), (1, .int x1)]) (st2 := [.ref 67]) (h2 := (sh_rep m.T m.I m.J)) rfl rfl rfl ?_
      refine sh_gR1 (len := 3) (x := .ref 107) (pc2 := 39) rfl rfl (sh_s66 hT.st) rfl rfl ?_
      refine sh_w (i := (.iload_n 2)) (len := 1) (pc2 := 40) (lv2 := [(2, .int ((m.I 66 73) - 1)), (0, .ref 67), (1, .int x1)]) (st2 := [.int ((m.I 66 73) - 1), .ref 107]) (h2 := (sh_rep m.T m.I m.J)) rfl rfl rfl ?_
      exact kk
    obtain ⟨c, e⟩ := sh_gd e
    refine sh_Lk_lift (T := m.T) (I := m.I) (J := m.J) (s := m.s) (pc2 := 42) (lv2 := [(2, .int ((m.I 66 73) - 1)), (0, .ref 67), (1, .int x1)]) (st2 := [.int 1, .int (m.I 106 (Int32.toNatClampNeg ((m.I 66 73) - 1)))]) (I2 := m.I) (J2 := m.J) (fun hT v kk => ?_) ?_
    · refine sh_ia1 (x := m.I 106 (Int32.toNatClampNeg ((m.I 66 73) - 1))) (pc2 := 41) rfl (sh_s106 hT.st) (sh_okb1 c) (sh_okb2 c) rfl rfl ?_
      refine sh_w (i := (.iconst 1)) (len := 1) (pc2 := 42) (lv2 := [(2, .int ((m.I 66 73) - 1)), (0, .ref 67), (1, .int x1)]) (st2 := [.int 1, .int (m.I 106 (Int32.toNatClampNeg ((m.I 66 73) - 1)))]) (h2 := (sh_rep m.T m.I m.J)) rfl rfl rfl ?_
      exact kk
    rcases sh_ite e with ⟨c, e⟩ | ⟨c, e⟩
    · refine sh_Lk_lift (T := m.T) (I := m.I) (J := m.J) (s := m.s) (pc2 := 50) (lv2 := [(2, .int ((m.I 66 73) - 1)), (0, .ref 67), (1, .int x1)]) (st2 := [.int x1, .ref 73]) (I2 := m.I) (J2 := m.J) (fun hT v kk => ?_) ?_
      · refine sh_jc (c := .ne) (off := (105)) (pc2 := 45) false rfl (sh_Bnef c) rfl ?_
        refine sh_w (i := (.aload_n 0)) (len := 1) (pc2 := 46) (lv2 := [(2, .int ((m.I 66 73) - 1)), (0, .ref 67), (1, .int x1)]) (st2 := [.ref 67]) (h2 := (sh_rep m.T m.I m.J)) rfl rfl rfl ?_
        refine sh_gR1 (len := 3) (x := .ref 73) (pc2 := 49) rfl rfl (sh_s66 hT.st) rfl rfl ?_
        refine sh_w (i := (.iload_n 1)) (len := 1) (pc2 := 50) (lv2 := [(2, .int ((m.I 66 73) - 1)), (0, .ref 67), (1, .int x1)]) (st2 := [.int x1, .ref 73]) (h2 := (sh_rep m.T m.I m.J)) rfl rfl rfl ?_
        exact kk
      obtain ⟨c, e⟩ := sh_gd e
      refine sh_Lk_lift (T := m.T) (I := m.I) (J := m.J) (s := m.s) (pc2 := 53) (lv2 := [(2, .int ((m.I 66 73) - 1)), (0, .ref 67), (1, .int x1)]) (st2 := [.int 8, .int (m.I 72 (Int32.toNatClampNeg x1))]) (I2 := m.I) (J2 := m.J) (fun hT v kk => ?_) ?_
      · refine sh_ia1 (x := m.I 72 (Int32.toNatClampNeg x1)) (pc2 := 51) rfl (sh_s72 hT.st) (sh_okb1 c) (sh_okb2 c) rfl rfl ?_
        refine sh_w (i := (.bipush 8)) (len := 2) (pc2 := 53) (lv2 := [(2, .int ((m.I 66 73) - 1)), (0, .ref 67), (1, .int x1)]) (st2 := [.int 8, .int (m.I 72 (Int32.toNatClampNeg x1))]) (h2 := (sh_rep m.T m.I m.J)) rfl rfl rfl ?_
        exact kk
      rcases sh_ite e with ⟨c, e⟩ | ⟨c, e⟩
      · refine sh_Lk_lift (T := m.T) (I := m.I) (J := m.J) (s := m.s) (pc2 := 61) (lv2 := [(2, .int ((m.I 66 73) - 1)), (0, .ref 67), (1, .int x1)]) (st2 := [.int 3, .int (m.I 66 43)]) (I2 := m.I) (J2 := m.J) (fun hT v kk => ?_) ?_
        · refine sh_jc (c := .ne) (off := (35)) (pc2 := 56) false rfl (sh_Bnef c) rfl ?_
          refine sh_w (i := (.aload_n 0)) (len := 1) (pc2 := 57) (lv2 := [(2, .int ((m.I 66 73) - 1)), (0, .ref 67), (1, .int x1)]) (st2 := [.ref 67]) (h2 := (sh_rep m.T m.I m.J)) rfl rfl rfl ?_
          refine sh_gI1 (len := 3) (x := m.I 66 43) (pc2 := 60) rfl rfl (sh_s66 hT.st) rfl rfl rfl ?_
          refine sh_w (i := (.iconst 3)) (len := 1) (pc2 := 61) (lv2 := [(2, .int ((m.I 66 73) - 1)), (0, .ref 67), (1, .int x1)]) (st2 := [.int 3, .int (m.I 66 43)]) (h2 := (sh_rep m.T m.I m.J)) rfl rfl rfl ?_
          exact kk
        rcases sh_ite e with ⟨c, e⟩ | ⟨c, e⟩
        · refine sh_Lk_lift (T := m.T) (I := m.I) (J := m.J) (s := m.s) (pc2 := 71) (lv2 := [(2, .int ((m.I 66 73) - 1)), (0, .ref 67), (1, .int x1)]) (st2 := []) (I2 := m.I) (J2 := m.J) (fun hT v kk => ?_) ?_
          · refine sh_jc (c := .eq) (off := (10)) (pc2 := 71) true rfl (sh_Beqt c) rfl ?_
            exact kk
          exact sh_Lk_sub (sh_sub_c rfl (sh_sub_c rfl (sh_sub_n))) (sl_302_71 e tg)
        · refine sh_Lk_lift (T := m.T) (I := m.I) (J := m.J) (s := m.s) (pc2 := 68) (lv2 := [(2, .int ((m.I 66 73) - 1)), (0, .ref 67), (1, .int x1)]) (st2 := [.int (m.I 66 45)]) (I2 := m.I) (J2 := m.J) (fun hT v kk => ?_) ?_
          · refine sh_jc (c := .eq) (off := (10)) (pc2 := 64) false rfl (sh_Beqf c) rfl ?_
            refine sh_w (i := (.aload_n 0)) (len := 1) (pc2 := 65) (lv2 := [(2, .int ((m.I 66 73) - 1)), (0, .ref 67), (1, .int x1)]) (st2 := [.ref 67]) (h2 := (sh_rep m.T m.I m.J)) rfl rfl rfl ?_
            refine sh_gI1 (len := 3) (x := m.I 66 45) (pc2 := 68) rfl rfl (sh_s66 hT.st) rfl rfl rfl ?_
            exact kk
          rcases sh_ite e with ⟨c, e⟩ | ⟨c, e⟩
          · refine sh_Lk_lift (T := m.T) (I := m.I) (J := m.J) (s := m.s) (pc2 := 71) (lv2 := [(2, .int ((m.I 66 73) - 1)), (0, .ref 67), (1, .int x1)]) (st2 := []) (I2 := m.I) (J2 := m.J) (fun hT v kk => ?_) ?_
            · refine sh_j0 (c := .ne) (off := (20)) (pc2 := 71) false rfl (sh_Bnef c) rfl ?_
              exact kk
            exact sh_Lk_sub (sh_sub_c rfl (sh_sub_c rfl (sh_sub_n))) (sl_302_71 e tg)
          · refine sh_Lk_lift (T := m.T) (I := m.I) (J := m.J) (s := m.s) (pc2 := 88) (lv2 := [(2, .int ((m.I 66 73) - 1)), (0, .ref 67), (1, .int x1)]) (st2 := []) (I2 := m.I) (J2 := m.J) (fun hT v kk => ?_) ?_
            · refine sh_j0 (c := .ne) (off := (20)) (pc2 := 88) true rfl (sh_Bnet c) rfl ?_
              exact kk
            exact sh_Lk_sub (sh_sub_c rfl (sh_sub_c rfl (sh_sub_c rfl (sh_sub_n)))) (sl_302_88 e tg)
      · refine sh_Lk_lift (T := m.T) (I := m.I) (J := m.J) (s := m.s) (pc2 := 88) (lv2 := [(2, .int ((m.I 66 73) - 1)), (0, .ref 67), (1, .int x1)]) (st2 := []) (I2 := m.I) (J2 := m.J) (fun hT v kk => ?_) ?_
        · refine sh_jc (c := .ne) (off := (35)) (pc2 := 88) true rfl (sh_Bnet c) rfl ?_
          exact kk
        exact sh_Lk_sub (sh_sub_c rfl (sh_sub_c rfl (sh_sub_c rfl (sh_sub_n)))) (sl_302_88 e tg)
    · refine sh_Lk_lift (T := m.T) (I := m.I) (J := m.J) (s := m.s) (pc2 := 162) (lv2 := [(2, .int ((m.I 66 73) - 1)), (0, .ref 67), (1, .int x1)]) (st2 := [.int x1, .ref 73]) (I2 := sh_u2 m.I 66 73 ((m.I 66 73) - 1)) (J2 := m.J) (fun hT v kk => ?_) ?_
      · refine sh_jc (c := .ne) (off := (105)) (pc2 := 147) true rfl (sh_Bnet c) rfl ?_
        refine sh_w (i := (.aload_n 0)) (len := 1) (pc2 := 148) (lv2 := [(2, .int ((m.I 66 73) - 1)), (0, .ref 67), (1, .int x1)]) (st2 := [.ref 67]) (h2 := (sh_rep m.T m.I m.J)) rfl rfl rfl ?_
        refine sh_w (i := .dup) (len := 1) (pc2 := 149) (lv2 := [(2, .int ((m.I 66 73) - 1)), (0, .ref 67), (1, .int x1)]) (st2 := [.ref 67, .ref 67]) (h2 := (sh_rep m.T m.I m.J)) rfl rfl rfl ?_
        refine sh_gI1 (len := 3) (x := m.I 66 73) (pc2 := 152) rfl rfl (sh_s66 hT.st) rfl rfl rfl ?_
        refine sh_w (i := (.iconst 1)) (len := 1) (pc2 := 153) (lv2 := [(2, .int ((m.I 66 73) - 1)), (0, .ref 67), (1, .int x1)]) (st2 := [.int 1, .int (m.I 66 73), .ref 67]) (h2 := (sh_rep m.T m.I m.J)) rfl rfl rfl ?_
        refine sh_w (i := .isub) (len := 1) (pc2 := 154) (lv2 := [(2, .int ((m.I 66 73) - 1)), (0, .ref 67), (1, .int x1)]) (st2 := [.int ((m.I 66 73) - 1), .ref 67]) (h2 := (sh_rep m.T m.I m.J)) rfl rfl rfl ?_
        refine sh_pI1 (x := (m.I 66 73) - 1) (pc2 := 157) rfl rfl (sh_s66 hT.st) rfl rfl rfl rfl ?_
        refine sh_w (i := (.aload_n 0)) (len := 1) (pc2 := 158) (lv2 := [(2, .int ((m.I 66 73) - 1)), (0, .ref 67), (1, .int x1)]) (st2 := [.ref 67]) (h2 := (sh_rep m.T (sh_u2 m.I 66 73 ((m.I 66 73) - 1)) m.J)) rfl rfl rfl ?_
        refine sh_gR1 (len := 3) (x := .ref 73) (pc2 := 161) rfl rfl (sh_s66 hT.st) rfl rfl ?_
        refine sh_w (i := (.iload_n 1)) (len := 1) (pc2 := 162) (lv2 := [(2, .int ((m.I 66 73) - 1)), (0, .ref 67), (1, .int x1)]) (st2 := [.int x1, .ref 73]) (h2 := (sh_rep m.T (sh_u2 m.I 66 73 ((m.I 66 73) - 1)) m.J)) rfl rfl rfl ?_
        exact kk
      obtain ⟨c, e⟩ := sh_gd e
      refine sh_Lk_lift (T := m.T) (I := sh_u2 m.I 66 73 ((m.I 66 73) - 1)) (J := m.J) (s := m.s) (pc2 := 165) (lv2 := [(2, .int ((m.I 66 73) - 1)), (0, .ref 67), (1, .int x1)]) (st2 := [.int 10, .int (m.I 72 (Int32.toNatClampNeg x1))]) (I2 := sh_u2 m.I 66 73 ((m.I 66 73) - 1)) (J2 := m.J) (fun hT v kk => ?_) ?_
      · refine sh_ia1 (x := m.I 72 (Int32.toNatClampNeg x1)) (pc2 := 163) rfl (sh_s72 hT.st) (sh_okb1 c) (sh_okb2 c) rfl rfl ?_
        refine sh_w (i := (.bipush 10)) (len := 2) (pc2 := 165) (lv2 := [(2, .int ((m.I 66 73) - 1)), (0, .ref 67), (1, .int x1)]) (st2 := [.int 10, .int (m.I 72 (Int32.toNatClampNeg x1))]) (h2 := (sh_rep m.T (sh_u2 m.I 66 73 ((m.I 66 73) - 1)) m.J)) rfl rfl rfl ?_
        exact kk
      rcases sh_ite e with ⟨c, e⟩ | ⟨c, e⟩
      · refine sh_Lk_lift (T := m.T) (I := sh_u2 m.I 66 73 ((m.I 66 73) - 1)) (J := m.J) (s := m.s) (pc2 := 175) (lv2 := [(2, .int ((m.I 66 73) - 1)), (0, .ref 67), (1, .int x1)]) (st2 := [.int ((m.I 66 73) - 1), .ref 108, .int x1, .ref 67]) (I2 := sh_u2 m.I 66 73 ((m.I 66 73) - 1)) (J2 := m.J) (fun hT v kk => ?_) ?_
        · refine sh_jc (c := .ne) (off := (35)) (pc2 := 168) false rfl (sh_Bnef c) rfl ?_
          refine sh_w (i := (.aload_n 0)) (len := 1) (pc2 := 169) (lv2 := [(2, .int ((m.I 66 73) - 1)), (0, .ref 67), (1, .int x1)]) (st2 := [.ref 67]) (h2 := (sh_rep m.T (sh_u2 m.I 66 73 ((m.I 66 73) - 1)) m.J)) rfl rfl rfl ?_
          refine sh_w (i := (.iload_n 1)) (len := 1) (pc2 := 170) (lv2 := [(2, .int ((m.I 66 73) - 1)), (0, .ref 67), (1, .int x1)]) (st2 := [.int x1, .ref 67]) (h2 := (sh_rep m.T (sh_u2 m.I 66 73 ((m.I 66 73) - 1)) m.J)) rfl rfl rfl ?_
          refine sh_w (i := (.aload_n 0)) (len := 1) (pc2 := 171) (lv2 := [(2, .int ((m.I 66 73) - 1)), (0, .ref 67), (1, .int x1)]) (st2 := [.ref 67, .int x1, .ref 67]) (h2 := (sh_rep m.T (sh_u2 m.I 66 73 ((m.I 66 73) - 1)) m.J)) rfl rfl rfl ?_
          refine sh_gR1 (len := 3) (x := .ref 108) (pc2 := 174) rfl rfl (sh_s66 hT.st) rfl rfl ?_
          refine sh_w (i := (.iload_n 2)) (len := 1) (pc2 := 175) (lv2 := [(2, .int ((m.I 66 73) - 1)), (0, .ref 67), (1, .int x1)]) (st2 := [.int ((m.I 66 73) - 1), .ref 108, .int x1, .ref 67]) (h2 := (sh_rep m.T (sh_u2 m.I 66 73 ((m.I 66 73) - 1)) m.J)) rfl rfl rfl ?_
          exact kk
        obtain ⟨c, e⟩ := sh_gd e
        refine sh_Lk_lift (T := m.T) (I := sh_u2 m.I 66 73 ((m.I 66 73) - 1)) (J := m.J) (s := m.s) (pc2 := 181) (lv2 := [(2, .int ((m.I 66 73) - 1)), (0, .ref 67), (1, .int x1)]) (st2 := [.int ((m.I 66 73) - 1), .ref 109, .int (m.I 107 (Int32.toNatClampNeg ((m.I 66 73) - 1))), .int x1, .ref 67]) (I2 := sh_u2 m.I 66 73 ((m.I 66 73) - 1)) (J2 := m.J) (fun hT v kk => ?_) ?_
        · refine sh_ia1 (x := m.I 107 (Int32.toNatClampNeg ((m.I 66 73) - 1))) (pc2 := 176) rfl (sh_s107 hT.st) (sh_okb1 c) (sh_okb2 c) rfl rfl ?_
          refine sh_w (i := (.aload_n 0)) (len := 1) (pc2 := 177) (lv2 := [(2, .int ((m.I 66 73) - 1)), (0, .ref 67), (1, .int x1)]) (st2 := [.ref 67, .int (m.I 107 (Int32.toNatClampNeg ((m.I 66 73) - 1))), .int x1, .ref 67]) (h2 := (sh_rep m.T (sh_u2 m.I 66 73 ((m.I 66 73) - 1)) m.J)) rfl rfl rfl ?_
          refine sh_gR1 (len := 3) (x := .ref 109) (pc2 := 180) rfl rfl (sh_s66 hT.st) rfl rfl ?_
          refine sh_w (i := (.iload_n 2)) (len := 1) (pc2 := 181) (lv2 := [(2, .int ((m.I 66 73) - 1)), (0, .ref 67), (1, .int x1)]) (st2 := [.int ((m.I 66 73) - 1), .ref 109, .int (m.I 107 (Int32.toNatClampNeg ((m.I 66 73) - 1))), .int x1, .ref 67]) (h2 := (sh_rep m.T (sh_u2 m.I 66 73 ((m.I 66 73) - 1)) m.J)) rfl rfl rfl ?_
          exact kk
        obtain ⟨c, e⟩ := sh_gd e
        refine sh_Lk_lift (T := m.T) (I := sh_u2 m.I 66 73 ((m.I 66 73) - 1)) (J := m.J) (s := m.s) (pc2 := 187) (lv2 := [(2, .int ((m.I 66 73) - 1)), (0, .ref 67), (1, .int x1)]) (st2 := [.int ((m.I 66 73) - 1), .ref 110, .int (m.I 108 (Int32.toNatClampNeg ((m.I 66 73) - 1))), .int (m.I 107 (Int32.toNatClampNeg ((m.I 66 73) - 1))), .int x1, .ref 67]) (I2 := sh_u2 m.I 66 73 ((m.I 66 73) - 1)) (J2 := m.J) (fun hT v kk => ?_) ?_
        · refine sh_ia1 (x := m.I 108 (Int32.toNatClampNeg ((m.I 66 73) - 1))) (pc2 := 182) rfl (sh_s108 hT.st) (sh_okb1 c) (sh_okb2 c) rfl rfl ?_
          refine sh_w (i := (.aload_n 0)) (len := 1) (pc2 := 183) (lv2 := [(2, .int ((m.I 66 73) - 1)), (0, .ref 67), (1, .int x1)]) (st2 := [.ref 67, .int (m.I 108 (Int32.toNatClampNeg ((m.I 66 73) - 1))), .int (m.I 107 (Int32.toNatClampNeg ((m.I 66 73) - 1))), .int x1, .ref 67]) (h2 := (sh_rep m.T (sh_u2 m.I 66 73 ((m.I 66 73) - 1)) m.J)) rfl rfl rfl ?_
          refine sh_gR1 (len := 3) (x := .ref 110) (pc2 := 186) rfl rfl (sh_s66 hT.st) rfl rfl ?_
          refine sh_w (i := (.iload_n 2)) (len := 1) (pc2 := 187) (lv2 := [(2, .int ((m.I 66 73) - 1)), (0, .ref 67), (1, .int x1)]) (st2 := [.int ((m.I 66 73) - 1), .ref 110, .int (m.I 108 (Int32.toNatClampNeg ((m.I 66 73) - 1))), .int (m.I 107 (Int32.toNatClampNeg ((m.I 66 73) - 1))), .int x1, .ref 67]) (h2 := (sh_rep m.T (sh_u2 m.I 66 73 ((m.I 66 73) - 1)) m.J)) rfl rfl rfl ?_
          exact kk
        obtain ⟨c, e⟩ := sh_gd e
        refine sh_Lk_lift (T := m.T) (I := sh_u2 m.I 66 73 ((m.I 66 73) - 1)) (J := m.J) (s := m.s) (pc2 := 193) (lv2 := [(2, .int ((m.I 66 73) - 1)), (0, .ref 67), (1, .int x1)]) (st2 := [.int ((m.I 66 73) - 1), .ref 112, .int (m.I 109 (Int32.toNatClampNeg ((m.I 66 73) - 1))), .int (m.I 108 (Int32.toNatClampNeg ((m.I 66 73) - 1))), .int (m.I 107 (Int32.toNatClampNeg ((m.I 66 73) - 1))), .int x1, .ref 67]) (I2 := sh_u2 m.I 66 73 ((m.I 66 73) - 1)) (J2 := m.J) (fun hT v kk => ?_) ?_
        · refine sh_ia1 (x := m.I 109 (Int32.toNatClampNeg ((m.I 66 73) - 1))) (pc2 := 188) rfl (sh_s109 hT.st) (sh_okb1 c) (sh_okb2 c) rfl rfl ?_
          refine sh_w (i := (.aload_n 0)) (len := 1) (pc2 := 189) (lv2 := [(2, .int ((m.I 66 73) - 1)), (0, .ref 67), (1, .int x1)]) (st2 := [.ref 67, .int (m.I 109 (Int32.toNatClampNeg ((m.I 66 73) - 1))), .int (m.I 108 (Int32.toNatClampNeg ((m.I 66 73) - 1))), .int (m.I 107 (Int32.toNatClampNeg ((m.I 66 73) - 1))), .int x1, .ref 67]) (h2 := (sh_rep m.T (sh_u2 m.I 66 73 ((m.I 66 73) - 1)) m.J)) rfl rfl rfl ?_
          refine sh_gR1 (len := 3) (x := .ref 112) (pc2 := 192) rfl rfl (sh_s66 hT.st) rfl rfl ?_
          refine sh_w (i := (.iload_n 2)) (len := 1) (pc2 := 193) (lv2 := [(2, .int ((m.I 66 73) - 1)), (0, .ref 67), (1, .int x1)]) (st2 := [.int ((m.I 66 73) - 1), .ref 112, .int (m.I 109 (Int32.toNatClampNeg ((m.I 66 73) - 1))), .int (m.I 108 (Int32.toNatClampNeg ((m.I 66 73) - 1))), .int (m.I 107 (Int32.toNatClampNeg ((m.I 66 73) - 1))), .int x1, .ref 67]) (h2 := (sh_rep m.T (sh_u2 m.I 66 73 ((m.I 66 73) - 1)) m.J)) rfl rfl rfl ?_
          exact kk
        obtain ⟨c, e⟩ := sh_gd e
        refine sh_Lk_lift (T := m.T) (I := sh_u2 m.I 66 73 ((m.I 66 73) - 1)) (J := m.J) (s := m.s) (pc2 := 194) (lv2 := [(2, .int ((m.I 66 73) - 1)), (0, .ref 67), (1, .int x1)]) (st2 := [.long (m.J 111 (Int32.toNatClampNeg ((m.I 66 73) - 1))), .int (m.I 109 (Int32.toNatClampNeg ((m.I 66 73) - 1))), .int (m.I 108 (Int32.toNatClampNeg ((m.I 66 73) - 1))), .int (m.I 107 (Int32.toNatClampNeg ((m.I 66 73) - 1))), .int x1, .ref 67]) (I2 := sh_u2 m.I 66 73 ((m.I 66 73) - 1)) (J2 := m.J) (fun hT v kk => ?_) ?_
        · refine sh_la1 (x := m.J 111 (Int32.toNatClampNeg ((m.I 66 73) - 1))) (pc2 := 194) rfl (sh_s111 hT.st) (sh_okb1 c) (sh_okb2 c) rfl rfl ?_
          exact kk
        obtain ⟨r2, m12, e2, e⟩ := sh_bn_e e
        refine sh_Lk_cV (r := (some (.int (sh_b2 r2)))) (st2 := [.int (sh_b2 r2)]) (pc2 := 197) (k2 := 303) (a := 66) (as := [.ref 67, .int x1, .int (m.I 107 (Int32.toNatClampNeg ((m.I 66 73) - 1))), .int (m.I 108 (Int32.toNatClampNeg ((m.I 66 73) - 1))), .int (m.I 109 (Int32.toNatClampNeg ((m.I 66 73) - 1))), .long (m.J 111 (Int32.toNatClampNeg ((m.I 66 73) - 1)))]) (rest := []) rfl rfl rfl (fun hT => (sh_s66 hT.st)) rfl rfl ⟨Nat.le_of_ble_eq_true rfl, Nat.le_of_ble_eq_true rfl⟩ (sl_303 e2 ⟨rfl, rfl⟩) rfl rfl (Nat.le_of_ble_eq_true rfl) (Nat.le_of_ble_eq_true rfl) ?_
        refine sh_Lk_lift (T := m12.T) (I := m12.I) (J := m12.J) (s := m12.s) (pc2 := 230) (lv2 := [(2, .int ((m.I 66 73) - 1)), (0, .ref 67), (1, .int x1)]) (st2 := [.int (sh_b2 r2)]) (I2 := m12.I) (J2 := m12.J) (fun hT v kk => ?_) ?_
        · refine sh_w (i := (.goto 33)) (len := 3) (pc2 := 230) (lv2 := [(2, .int ((m.I 66 73) - 1)), (0, .ref 67), (1, .int x1)]) (st2 := [.int (sh_b2 r2)]) (h2 := (sh_rep m12.T m12.I m12.J)) rfl rfl rfl ?_
          exact kk
        obtain rfl := Option.some.inj e
        obtain ⟨rfl, rfl⟩ := tg
        exact sh_Lk_ret (i := .ireturn) rfl rfl (sh_rb rfl _) (Nat.le_of_ble_eq_true rfl) (Nat.le_of_ble_eq_true rfl)
      · refine sh_Lk_lift (T := m.T) (I := sh_u2 m.I 66 73 ((m.I 66 73) - 1)) (J := m.J) (s := m.s) (pc2 := 207) (lv2 := [(2, .int ((m.I 66 73) - 1)), (0, .ref 67), (1, .int x1)]) (st2 := [.int ((m.I 66 73) - 1), .ref 108, .int x1, .ref 67]) (I2 := sh_u2 m.I 66 73 ((m.I 66 73) - 1)) (J2 := m.J) (fun hT v kk => ?_) ?_
        · refine sh_jc (c := .ne) (off := (35)) (pc2 := 200) true rfl (sh_Bnet c) rfl ?_
          refine sh_w (i := (.aload_n 0)) (len := 1) (pc2 := 201) (lv2 := [(2, .int ((m.I 66 73) - 1)), (0, .ref 67), (1, .int x1)]) (st2 := [.ref 67]) (h2 := (sh_rep m.T (sh_u2 m.I 66 73 ((m.I 66 73) - 1)) m.J)) rfl rfl rfl ?_
          refine sh_w (i := (.iload_n 1)) (len := 1) (pc2 := 202) (lv2 := [(2, .int ((m.I 66 73) - 1)), (0, .ref 67), (1, .int x1)]) (st2 := [.int x1, .ref 67]) (h2 := (sh_rep m.T (sh_u2 m.I 66 73 ((m.I 66 73) - 1)) m.J)) rfl rfl rfl ?_
          refine sh_w (i := (.aload_n 0)) (len := 1) (pc2 := 203) (lv2 := [(2, .int ((m.I 66 73) - 1)), (0, .ref 67), (1, .int x1)]) (st2 := [.ref 67, .int x1, .ref 67]) (h2 := (sh_rep m.T (sh_u2 m.I 66 73 ((m.I 66 73) - 1)) m.J)) rfl rfl rfl ?_
          refine sh_gR1 (len := 3) (x := .ref 108) (pc2 := 206) rfl rfl (sh_s66 hT.st) rfl rfl ?_
          refine sh_w (i := (.iload_n 2)) (len := 1) (pc2 := 207) (lv2 := [(2, .int ((m.I 66 73) - 1)), (0, .ref 67), (1, .int x1)]) (st2 := [.int ((m.I 66 73) - 1), .ref 108, .int x1, .ref 67]) (h2 := (sh_rep m.T (sh_u2 m.I 66 73 ((m.I 66 73) - 1)) m.J)) rfl rfl rfl ?_
          exact kk
        obtain ⟨c, e⟩ := sh_gd e
        refine sh_Lk_lift (T := m.T) (I := sh_u2 m.I 66 73 ((m.I 66 73) - 1)) (J := m.J) (s := m.s) (pc2 := 213) (lv2 := [(2, .int ((m.I 66 73) - 1)), (0, .ref 67), (1, .int x1)]) (st2 := [.int ((m.I 66 73) - 1), .ref 109, .int (m.I 107 (Int32.toNatClampNeg ((m.I 66 73) - 1))), .int x1, .ref 67]) (I2 := sh_u2 m.I 66 73 ((m.I 66 73) - 1)) (J2 := m.J) (fun hT v kk => ?_) ?_
        · refine sh_ia1 (x := m.I 107 (Int32.toNatClampNeg ((m.I 66 73) - 1))) (pc2 := 208) rfl (sh_s107 hT.st) (sh_okb1 c) (sh_okb2 c) rfl rfl ?_
          refine sh_w (i := (.aload_n 0)) (len := 1) (pc2 := 209) (lv2 := [(2, .int ((m.I 66 73) - 1)), (0, .ref 67), (1, .int x1)]) (st2 := [.ref 67, .int (m.I 107 (Int32.toNatClampNeg ((m.I 66 73) - 1))), .int x1, .ref 67]) (h2 := (sh_rep m.T (sh_u2 m.I 66 73 ((m.I 66 73) - 1)) m.J)) rfl rfl rfl ?_
          refine sh_gR1 (len := 3) (x := .ref 109) (pc2 := 212) rfl rfl (sh_s66 hT.st) rfl rfl ?_
          refine sh_w (i := (.iload_n 2)) (len := 1) (pc2 := 213) (lv2 := [(2, .int ((m.I 66 73) - 1)), (0, .ref 67), (1, .int x1)]) (st2 := [.int ((m.I 66 73) - 1), .ref 109, .int (m.I 107 (Int32.toNatClampNeg ((m.I 66 73) - 1))), .int x1, .ref 67]) (h2 := (sh_rep m.T (sh_u2 m.I 66 73 ((m.I 66 73) - 1)) m.J)) rfl rfl rfl ?_
          exact kk
        obtain ⟨c, e⟩ := sh_gd e
        refine sh_Lk_lift (T := m.T) (I := sh_u2 m.I 66 73 ((m.I 66 73) - 1)) (J := m.J) (s := m.s) (pc2 := 219) (lv2 := [(2, .int ((m.I 66 73) - 1)), (0, .ref 67), (1, .int x1)]) (st2 := [.int ((m.I 66 73) - 1), .ref 110, .int (m.I 108 (Int32.toNatClampNeg ((m.I 66 73) - 1))), .int (m.I 107 (Int32.toNatClampNeg ((m.I 66 73) - 1))), .int x1, .ref 67]) (I2 := sh_u2 m.I 66 73 ((m.I 66 73) - 1)) (J2 := m.J) (fun hT v kk => ?_) ?_
        · refine sh_ia1 (x := m.I 108 (Int32.toNatClampNeg ((m.I 66 73) - 1))) (pc2 := 214) rfl (sh_s108 hT.st) (sh_okb1 c) (sh_okb2 c) rfl rfl ?_
          refine sh_w (i := (.aload_n 0)) (len := 1) (pc2 := 215) (lv2 := [(2, .int ((m.I 66 73) - 1)), (0, .ref 67), (1, .int x1)]) (st2 := [.ref 67, .int (m.I 108 (Int32.toNatClampNeg ((m.I 66 73) - 1))), .int (m.I 107 (Int32.toNatClampNeg ((m.I 66 73) - 1))), .int x1, .ref 67]) (h2 := (sh_rep m.T (sh_u2 m.I 66 73 ((m.I 66 73) - 1)) m.J)) rfl rfl rfl ?_
          refine sh_gR1 (len := 3) (x := .ref 110) (pc2 := 218) rfl rfl (sh_s66 hT.st) rfl rfl ?_
          refine sh_w (i := (.iload_n 2)) (len := 1) (pc2 := 219) (lv2 := [(2, .int ((m.I 66 73) - 1)), (0, .ref 67), (1, .int x1)]) (st2 := [.int ((m.I 66 73) - 1), .ref 110, .int (m.I 108 (Int32.toNatClampNeg ((m.I 66 73) - 1))), .int (m.I 107 (Int32.toNatClampNeg ((m.I 66 73) - 1))), .int x1, .ref 67]) (h2 := (sh_rep m.T (sh_u2 m.I 66 73 ((m.I 66 73) - 1)) m.J)) rfl rfl rfl ?_
          exact kk
        obtain ⟨c, e⟩ := sh_gd e
        refine sh_Lk_lift (T := m.T) (I := sh_u2 m.I 66 73 ((m.I 66 73) - 1)) (J := m.J) (s := m.s) (pc2 := 225) (lv2 := [(2, .int ((m.I 66 73) - 1)), (0, .ref 67), (1, .int x1)]) (st2 := [.int ((m.I 66 73) - 1), .ref 112, .int (m.I 109 (Int32.toNatClampNeg ((m.I 66 73) - 1))), .int (m.I 108 (Int32.toNatClampNeg ((m.I 66 73) - 1))), .int (m.I 107 (Int32.toNatClampNeg ((m.I 66 73) - 1))), .int x1, .ref 67]) (I2 := sh_u2 m.I 66 73 ((m.I 66 73) - 1)) (J2 := m.J) (fun hT v kk => ?_) ?_
        · refine sh_ia1 (x := m.I 109 (Int32.toNatClampNeg ((m.I 66 73) - 1))) (pc2 := 220) rfl (sh_s109 hT.st) (sh_okb1 c) (sh_okb2 c) rfl rfl ?_
          refine sh_w (i := (.aload_n 0)) (len := 1) (pc2 := 221) (lv2 := [(2, .int ((m.I 66 73) - 1)), (0, .ref 67), (1, .int x1)]) (st2 := [.ref 67, .int (m.I 109 (Int32.toNatClampNeg ((m.I 66 73) - 1))), .int (m.I 108 (Int32.toNatClampNeg ((m.I 66 73) - 1))), .int (m.I 107 (Int32.toNatClampNeg ((m.I 66 73) - 1))), .int x1, .ref 67]) (h2 := (sh_rep m.T (sh_u2 m.I 66 73 ((m.I 66 73) - 1)) m.J)) rfl rfl rfl ?_
          refine sh_gR1 (len := 3) (x := .ref 112) (pc2 := 224) rfl rfl (sh_s66 hT.st) rfl rfl ?_
          refine sh_w (i := (.iload_n 2)) (len := 1) (pc2 := 225) (lv2 := [(2, .int ((m.I 66 73) - 1)), (0, .ref 67), (1, .int x1)]) (st2 := [.int ((m.I 66 73) - 1), .ref 112, .int (m.I 109 (Int32.toNatClampNeg ((m.I 66 73) - 1))), .int (m.I 108 (Int32.toNatClampNeg ((m.I 66 73) - 1))), .int (m.I 107 (Int32.toNatClampNeg ((m.I 66 73) - 1))), .int x1, .ref 67]) (h2 := (sh_rep m.T (sh_u2 m.I 66 73 ((m.I 66 73) - 1)) m.J)) rfl rfl rfl ?_
          exact kk
        obtain ⟨c, e⟩ := sh_gd e
        refine sh_Lk_lift (T := m.T) (I := sh_u2 m.I 66 73 ((m.I 66 73) - 1)) (J := m.J) (s := m.s) (pc2 := 227) (lv2 := [(2, .int ((m.I 66 73) - 1)), (0, .ref 67), (1, .int x1)]) (st2 := [.int (Int64.toInt32 (m.J 111 (Int32.toNatClampNeg ((m.I 66 73) - 1)))), .int (m.I 109 (Int32.toNatClampNeg ((m.I 66 73) - 1))), .int (m.I 108 (Int32.toNatClampNeg ((m.I 66 73) - 1))), .int (m.I 107 (Int32.toNatClampNeg ((m.I 66 73) - 1))), .int x1, .ref 67]) (I2 := sh_u2 m.I 66 73 ((m.I 66 73) - 1)) (J2 := m.J) (fun hT v kk => ?_) ?_
        · refine sh_la1 (x := m.J 111 (Int32.toNatClampNeg ((m.I 66 73) - 1))) (pc2 := 226) rfl (sh_s111 hT.st) (sh_okb1 c) (sh_okb2 c) rfl rfl ?_
          refine sh_w (i := .l2i) (len := 1) (pc2 := 227) (lv2 := [(2, .int ((m.I 66 73) - 1)), (0, .ref 67), (1, .int x1)]) (st2 := [.int (Int64.toInt32 (m.J 111 (Int32.toNatClampNeg ((m.I 66 73) - 1)))), .int (m.I 109 (Int32.toNatClampNeg ((m.I 66 73) - 1))), .int (m.I 108 (Int32.toNatClampNeg ((m.I 66 73) - 1))), .int (m.I 107 (Int32.toNatClampNeg ((m.I 66 73) - 1))), .int x1, .ref 67]) (h2 := (sh_rep m.T (sh_u2 m.I 66 73 ((m.I 66 73) - 1)) m.J)) rfl rfl rfl ?_
          exact kk
        obtain ⟨r3, m13, e3, e⟩ := sh_bn_e e
        refine sh_Lk_cV (r := (some (.int (sh_b2 r3)))) (st2 := [.int (sh_b2 r3)]) (pc2 := 230) (k2 := 309) (a := 66) (as := [.ref 67, .int x1, .int (m.I 107 (Int32.toNatClampNeg ((m.I 66 73) - 1))), .int (m.I 108 (Int32.toNatClampNeg ((m.I 66 73) - 1))), .int (m.I 109 (Int32.toNatClampNeg ((m.I 66 73) - 1))), .int (Int64.toInt32 (m.J 111 (Int32.toNatClampNeg ((m.I 66 73) - 1))))]) (rest := []) rfl rfl rfl (fun hT => (sh_s66 hT.st)) rfl rfl ⟨Nat.le_of_ble_eq_true rfl, Nat.le_of_ble_eq_true rfl⟩ (sl_309 e3 ⟨rfl, rfl⟩) rfl rfl (Nat.le_of_ble_eq_true rfl) (Nat.le_of_ble_eq_true rfl) ?_
        obtain rfl := Option.some.inj e
        obtain ⟨rfl, rfl⟩ := tg
        exact sh_Lk_ret (i := .ireturn) rfl rfl (sh_rb rfl _) (Nat.le_of_ble_eq_true rfl) (Nat.le_of_ble_eq_true rfl)
theorem sl_312_30 {x1 : Int32} {x2 : Int32} {x3 : Int32} {x4 : Int32} {m m2 : sh_X} {o : Outcome} {z : ((Int32 × Int32 × sh_X) ⊕ (Bool × sh_X))} (e : sf_312_30 x1 x2 x3 x4 m = some z) (tg : (sh_el (fun q => sh_Lk 312 10 [(0, .ref 67), (1, .int x1), (2, .int x2), (3, .int q.1), (4, .int q.2.1)] [] q.2.2 o m2 11 268) (sh_tZ o m2)) z) : sh_Lk 312 30 [(0, .ref 67), (1, .int x1), (2, .int x2), (3, .int x3), (4, .int x4)] [] m o m2 11 268 := by
  unfold sf_312_30 at e
  refine sh_Lk_lift (T := m.T) (I := m.I) (J := m.J) (s := m.s) (pc2 := 10) (lv2 := [(4, .int (x4 + (-1))), (0, .ref 67), (1, .int x1), (2, .int x2), (3, .int x3)]) (st2 := []) (I2 := m.I) (J2 := m.J) (fun hT v kk => ?_) ?_
  · refine sh_w (i := (.iinc 4 (-1))) (len := 3) (pc2 := 33) (lv2 := [(4, .int (x4 + (-1))), (0, .ref 67), (1, .int x1), (2, .int x2), (3, .int x3)]) (st2 := []) (h2 := (sh_rep m.T m.I m.J)) rfl rfl rfl ?_
    refine sh_w (i := (.goto (-23))) (len := 3) (pc2 := 10) (lv2 := [(4, .int (x4 + (-1))), (0, .ref 67), (1, .int x1), (2, .int x2), (3, .int x3)]) (st2 := []) (h2 := (sh_rep m.T m.I m.J)) rfl rfl rfl ?_
    exact kk
  obtain rfl := Option.some.inj e
  exact sh_Lk_sub (sh_sub_c rfl (sh_sub_c rfl (sh_sub_c rfl (sh_sub_c rfl (sh_sub_c rfl (sh_sub_n)))))) tg
theorem sl_312_162 {x1 : Int32} {x2 : Int32} {x4 : Int32} {x5 : Int32} {x6 : Int32} {x7 : Int32} {m m2 : sh_X} {o : Outcome} {z : ((Int32 × sh_X) ⊕ (Bool × sh_X))} (e : sf_312_162 x1 x2 x4 x5 x6 x7 m = some z) (tg : (sh_el (fun q => sh_Lk 312 88 [(0, .ref 67), (1, .int x1), (2, .int x2), (4, .int x4), (5, .int x5), (6, .int x6), (7, .int q.1)] [] q.2 o m2 11 268) (sh_tZ o m2)) z) : sh_Lk 312 162 [(0, .ref 67), (1, .int x1), (2, .int x2), (4, .int x4), (5, .int x5), (6, .int x6), (7, .int x7)] [] m o m2 11 268 := by
  unfold sf_312_162 at e
  refine sh_Lk_lift (T := m.T) (I := m.I) (J := m.J) (s := m.s) (pc2 := 88) (lv2 := [(7, .int (x7 + 1)), (0, .ref 67), (1, .int x1), (2, .int x2), (4, .int x4), (5, .int x5), (6, .int x6)]) (st2 := []) (I2 := m.I) (J2 := m.J) (fun hT v kk => ?_) ?_
  · refine sh_w (i := (.iinc 7 1)) (len := 3) (pc2 := 165) (lv2 := [(7, .int (x7 + 1)), (0, .ref 67), (1, .int x1), (2, .int x2), (4, .int x4), (5, .int x5), (6, .int x6)]) (st2 := []) (h2 := (sh_rep m.T m.I m.J)) rfl rfl rfl ?_
    refine sh_w (i := (.goto (-77))) (len := 3) (pc2 := 88) (lv2 := [(7, .int (x7 + 1)), (0, .ref 67), (1, .int x1), (2, .int x2), (4, .int x4), (5, .int x5), (6, .int x6)]) (st2 := []) (h2 := (sh_rep m.T m.I m.J)) rfl rfl rfl ?_
    exact kk
  obtain rfl := Option.some.inj e
  exact sh_Lk_sub (sh_sub_c rfl (sh_sub_c rfl (sh_sub_c rfl (sh_sub_c rfl (sh_sub_c rfl (sh_sub_c rfl (sh_sub_c rfl (sh_sub_n)))))))) tg
theorem sl_312_214 {x1 : Int32} {m m2 : sh_X} {o : Outcome} {z : (Bool × sh_X)} (e : sf_312_214 x1 m = some z) (tg : (sh_tZ o m2) z) : sh_Lk 312 214 [(0, .ref 67), (1, .int x1)] [] m o m2 11 268 := by
  unfold sf_312_214 at e
  refine sh_Lk_lift (T := m.T) (I := m.I) (J := m.J) (s := m.s) (pc2 := 225) (lv2 := [(0, .ref 67), (1, .int x1)]) (st2 := [.int x1, .ref 74, .ref 70, .int 4, .ref 67]) (I2 := m.I) (J2 := m.J) (fun hT v kk => ?_) ?_
  · refine sh_w (i := (.aload_n 0)) (len := 1) (pc2 := 215) (lv2 := [(0, .ref 67), (1, .int x1)]) (st2 := [.ref 67]) (h2 := (sh_rep m.T m.I m.J)) rfl rfl rfl ?_
    refine sh_w (i := (.iconst 4)) (len := 1) (pc2 := 216) (lv2 := [(0, .ref 67), (1, .int x1)]) (st2 := [.int 4, .ref 67]) (h2 := (sh_rep m.T m.I m.J)) rfl rfl rfl ?_
    refine sh_w (i := (.aload_n 0)) (len := 1) (pc2 := 217) (lv2 := [(0, .ref 67), (1, .int x1)]) (st2 := [.ref 67, .int 4, .ref 67]) (h2 := (sh_rep m.T m.I m.J)) rfl rfl rfl ?_
    refine sh_gR1 (len := 3) (x := .ref 70) (pc2 := 220) rfl rfl (sh_s66 hT.st) rfl rfl ?_
    refine sh_w (i := (.aload_n 0)) (len := 1) (pc2 := 221) (lv2 := [(0, .ref 67), (1, .int x1)]) (st2 := [.ref 67, .ref 70, .int 4, .ref 67]) (h2 := (sh_rep m.T m.I m.J)) rfl rfl rfl ?_
    refine sh_gR1 (len := 3) (x := .ref 74) (pc2 := 224) rfl rfl (sh_s66 hT.st) rfl rfl ?_
    refine sh_w (i := (.iload_n 1)) (len := 1) (pc2 := 225) (lv2 := [(0, .ref 67), (1, .int x1)]) (st2 := [.int x1, .ref 74, .ref 70, .int 4, .ref 67]) (h2 := (sh_rep m.T m.I m.J)) rfl rfl rfl ?_
    exact kk
  obtain ⟨c, e⟩ := sh_gd e
  refine sh_Lk_lift (T := m.T) (I := m.I) (J := m.J) (s := m.s) (pc2 := 226) (lv2 := [(0, .ref 67), (1, .int x1)]) (st2 := [.int (m.I 73 (Int32.toNatClampNeg x1)), .ref 70, .int 4, .ref 67]) (I2 := m.I) (J2 := m.J) (fun hT v kk => ?_) ?_
  · refine sh_ia1 (x := m.I 73 (Int32.toNatClampNeg x1)) (pc2 := 226) rfl (sh_s73 hT.st) (sh_okb1 c) (sh_okb2 c) rfl rfl ?_
    exact kk
  obtain ⟨c, e⟩ := sh_gd e
  refine sh_Lk_lift (T := m.T) (I := m.I) (J := m.J) (s := m.s) (pc2 := 227) (lv2 := [(0, .ref 67), (1, .int x1)]) (st2 := [.int (m.I 69 (Int32.toNatClampNeg (m.I 73 (Int32.toNatClampNeg x1)))), .int 4, .ref 67]) (I2 := m.I) (J2 := m.J) (fun hT v kk => ?_) ?_
  · refine sh_ia1 (x := m.I 69 (Int32.toNatClampNeg (m.I 73 (Int32.toNatClampNeg x1)))) (pc2 := 227) rfl (sh_s69 hT.st) (sh_okb1 c) (sh_okb2 c) rfl rfl ?_
    exact kk
  obtain ⟨r1, m11, e1, e⟩ := sh_bn_e e
  refine sh_Lk_cV (r := (some (.int (sh_b2 r1)))) (st2 := [.int (sh_b2 r1)]) (pc2 := 230) (k2 := 252) (a := 66) (as := [.ref 67, .int 4, .int (m.I 69 (Int32.toNatClampNeg (m.I 73 (Int32.toNatClampNeg x1))))]) (rest := []) rfl rfl rfl (fun hT => (sh_s66 hT.st)) rfl rfl ⟨Nat.le_of_ble_eq_true rfl, Nat.le_of_ble_eq_true rfl⟩ (sl_252 e1 ⟨rfl, rfl⟩) rfl rfl (Nat.le_of_ble_eq_true rfl) (Nat.le_of_ble_eq_true rfl) ?_
  obtain rfl := Option.some.inj e
  obtain ⟨rfl, rfl⟩ := tg
  exact sh_Lk_ret (i := .ireturn) rfl rfl (sh_rb rfl _) (Nat.le_of_ble_eq_true rfl) (Nat.le_of_ble_eq_true rfl)
theorem sl_312_299s {x1 : Int32} {x2 : Int32} {x5 : Int32} {x7 : Int32} {x8 : Int32} {m m2 : sh_X} {o : Outcome} {z : ((Int32 × sh_X) ⊕ (Bool × sh_X))} (e : sf_312_299s x1 x2 x5 x7 x8 m = some z) (tg : (sh_el (fun q => sh_Lk 312 299 [(0, .ref 67), (1, .int x1), (2, .int x2), (5, .int x5), (7, .int x7), (8, .int q.1)] [] q.2 o m2 11 268) (sh_tZ o m2)) z) : sh_Lk 312 299 [(0, .ref 67), (1, .int x1), (2, .int x2), (5, .int x5), (7, .int x7), (8, .int x8)] [] m o m2 11 268 := by
  unfold sf_312_299s at e
  refine sh_Lk_lift (T := m.T) (I := m.I) (J := m.J) (s := m.s) (pc2 := 303) (lv2 := [(0, .ref 67), (1, .int x1), (2, .int x2), (5, .int x5), (7, .int x7), (8, .int x8)]) (st2 := [.int x7, .int x8]) (I2 := m.I) (J2 := m.J) (fun hT v kk => ?_) ?_
  · refine sh_w (i := (.iload 8)) (len := 2) (pc2 := 301) (lv2 := [(0, .ref 67), (1, .int x1), (2, .int x2), (5, .int x5), (7, .int x7), (8, .int x8)]) (st2 := [.int x8]) (h2 := (sh_rep m.T m.I m.J)) rfl rfl rfl ?_
    refine sh_w (i := (.iload 7)) (len := 2) (pc2 := 303) (lv2 := [(0, .ref 67), (1, .int x1), (2, .int x2), (5, .int x5), (7, .int x7), (8, .int x8)]) (st2 := [.int x7, .int x8]) (h2 := (sh_rep m.T m.I m.J)) rfl rfl rfl ?_
    exact kk
  rcases sh_ite e with ⟨c, e⟩ | ⟨c, e⟩
  · refine sh_Lk_lift (T := m.T) (I := m.I) (J := m.J) (s := m.s) (pc2 := 325) (lv2 := [(0, .ref 67), (1, .int x1), (2, .int x2), (5, .int x5), (7, .int x7), (8, .int x8)]) (st2 := [.int (x2 + x8), .ref 116, .int ((m.I 66 41) + x8), .ref 93]) (I2 := m.I) (J2 := m.J) (fun hT v kk => ?_) ?_
    · refine sh_jc (c := .ge) (off := (30)) (pc2 := 306) false rfl (sh_Bgef c) rfl ?_
      refine sh_w (i := (.aload_n 0)) (len := 1) (pc2 := 307) (lv2 := [(0, .ref 67), (1, .int x1), (2, .int x2), (5, .int x5), (7, .int x7), (8, .int x8)]) (st2 := [.ref 67]) (h2 := (sh_rep m.T m.I m.J)) rfl rfl rfl ?_
      refine sh_gR1 (len := 3) (x := .ref 93) (pc2 := 310) rfl rfl (sh_s66 hT.st) rfl rfl ?_
      refine sh_w (i := (.aload_n 0)) (len := 1) (pc2 := 311) (lv2 := [(0, .ref 67), (1, .int x1), (2, .int x2), (5, .int x5), (7, .int x7), (8, .int x8)]) (st2 := [.ref 67, .ref 93]) (h2 := (sh_rep m.T m.I m.J)) rfl rfl rfl ?_
      refine sh_gI1 (len := 3) (x := m.I 66 41) (pc2 := 314) rfl rfl (sh_s66 hT.st) rfl rfl rfl ?_
      refine sh_w (i := (.iload 8)) (len := 2) (pc2 := 316) (lv2 := [(0, .ref 67), (1, .int x1), (2, .int x2), (5, .int x5), (7, .int x7), (8, .int x8)]) (st2 := [.int x8, .int (m.I 66 41), .ref 93]) (h2 := (sh_rep m.T m.I m.J)) rfl rfl rfl ?_
      refine sh_w (i := .iadd) (len := 1) (pc2 := 317) (lv2 := [(0, .ref 67), (1, .int x1), (2, .int x2), (5, .int x5), (7, .int x7), (8, .int x8)]) (st2 := [.int ((m.I 66 41) + x8), .ref 93]) (h2 := (sh_rep m.T m.I m.J)) rfl rfl rfl ?_
      refine sh_w (i := (.aload_n 0)) (len := 1) (pc2 := 318) (lv2 := [(0, .ref 67), (1, .int x1), (2, .int x2), (5, .int x5), (7, .int x7), (8, .int x8)]) (st2 := [.ref 67, .int ((m.I 66 41) + x8), .ref 93]) (h2 := (sh_rep m.T m.I m.J)) rfl rfl rfl ?_
      refine sh_gR1 (len := 3) (x := .ref 116) (pc2 := 321) rfl rfl (sh_s66 hT.st) rfl rfl ?_
      refine sh_w (i := (.iload_n 2)) (len := 1) (pc2 := 322) (lv2 := [(0, .ref 67), (1, .int x1), (2, .int x2), (5, .int x5), (7, .int x7), (8, .int x8)]) (st2 := [.int x2, .ref 116, .int ((m.I 66 41) + x8), .ref 93]) (h2 := (sh_rep m.T m.I m.J)) rfl rfl rfl ?_
      refine sh_w (i := (.iload 8)) (len := 2) (pc2 := 324) (lv2 := [(0, .ref 67), (1, .int x1), (2, .int x2), (5, .int x5), (7, .int x7), (8, .int x8)]) (st2 := [.int x8, .int x2, .ref 116, .int ((m.I 66 41) + x8), .ref 93]) (h2 := (sh_rep m.T m.I m.J)) rfl rfl rfl ?_
      refine sh_w (i := .iadd) (len := 1) (pc2 := 325) (lv2 := [(0, .ref 67), (1, .int x1), (2, .int x2), (5, .int x5), (7, .int x7), (8, .int x8)]) (st2 := [.int (x2 + x8), .ref 116, .int ((m.I 66 41) + x8), .ref 93]) (h2 := (sh_rep m.T m.I m.J)) rfl rfl rfl ?_
      exact kk
    obtain ⟨c, e⟩ := sh_gd e
    refine sh_Lk_lift (T := m.T) (I := m.I) (J := m.J) (s := m.s) (pc2 := 326) (lv2 := [(0, .ref 67), (1, .int x1), (2, .int x2), (5, .int x5), (7, .int x7), (8, .int x8)]) (st2 := [.long (m.J 115 (Int32.toNatClampNeg (x2 + x8))), .int ((m.I 66 41) + x8), .ref 93]) (I2 := m.I) (J2 := m.J) (fun hT v kk => ?_) ?_
    · refine sh_la1 (x := m.J 115 (Int32.toNatClampNeg (x2 + x8))) (pc2 := 326) rfl (sh_s115 hT.st) (sh_okb1 c) (sh_okb2 c) rfl rfl ?_
      exact kk
    obtain ⟨c, e⟩ := sh_gd e
    refine sh_Lk_lift (T := m.T) (I := m.I) (J := m.J) (s := m.s) (pc2 := 299) (lv2 := [(8, .int (x8 + 1)), (0, .ref 67), (1, .int x1), (2, .int x2), (5, .int x5), (7, .int x7)]) (st2 := []) (I2 := m.I) (J2 := sh_u2 m.J 92 (Int32.toNatClampNeg ((m.I 66 41) + x8)) (m.J 115 (Int32.toNatClampNeg (x2 + x8)))) (fun hT v kk => ?_) ?_
    · refine sh_ls1 (x := m.J 115 (Int32.toNatClampNeg (x2 + x8))) (i := (m.I 66 41) + x8) (pc2 := 327) rfl (sh_s92 hT.st) (sh_okb1 c) (sh_okb2 c) rfl ?_
      refine sh_w (i := (.iinc 8 1)) (len := 3) (pc2 := 330) (lv2 := [(8, .int (x8 + 1)), (0, .ref 67), (1, .int x1), (2, .int x2), (5, .int x5), (7, .int x7)]) (st2 := []) (h2 := (sh_rep m.T m.I (sh_u2 m.J 92 (Int32.toNatClampNeg ((m.I 66 41) + x8)) (m.J 115 (Int32.toNatClampNeg (x2 + x8)))))) rfl rfl rfl ?_
      refine sh_w (i := (.goto (-31))) (len := 3) (pc2 := 299) (lv2 := [(8, .int (x8 + 1)), (0, .ref 67), (1, .int x1), (2, .int x2), (5, .int x5), (7, .int x7)]) (st2 := []) (h2 := (sh_rep m.T m.I (sh_u2 m.J 92 (Int32.toNatClampNeg ((m.I 66 41) + x8)) (m.J 115 (Int32.toNatClampNeg (x2 + x8)))))) rfl rfl rfl ?_
      exact kk
    obtain rfl := Option.some.inj e
    exact sh_Lk_sub (sh_sub_c rfl (sh_sub_c rfl (sh_sub_c rfl (sh_sub_c rfl (sh_sub_c rfl (sh_sub_c rfl (sh_sub_n))))))) tg
  · refine sh_Lk_lift (T := m.T) (I := m.I) (J := m.J) (s := m.s) (pc2 := 360) (lv2 := [(0, .ref 67), (1, .int x1), (2, .int x2), (5, .int x5), (7, .int x7), (8, .int x8)]) (st2 := [.int x1, .ref 74, .int (x7 * x5), .ref 67]) (I2 := sh_u2 (sh_u2 m.I 66 41 ((m.I 66 41) + x7)) 66 79 x2) (J2 := m.J) (fun hT v kk => ?_) ?_
    · refine sh_jc (c := .ge) (off := (30)) (pc2 := 333) true rfl (sh_Bget c) rfl ?_
      refine sh_w (i := (.aload_n 0)) (len := 1) (pc2 := 334) (lv2 := [(0, .ref 67), (1, .int x1), (2, .int x2), (5, .int x5), (7, .int x7), (8, .int x8)]) (st2 := [.ref 67]) (h2 := (sh_rep m.T m.I m.J)) rfl rfl rfl ?_
      refine sh_w (i := .dup) (len := 1) (pc2 := 335) (lv2 := [(0, .ref 67), (1, .int x1), (2, .int x2), (5, .int x5), (7, .int x7), (8, .int x8)]) (st2 := [.ref 67, .ref 67]) (h2 := (sh_rep m.T m.I m.J)) rfl rfl rfl ?_
      refine sh_gI1 (len := 3) (x := m.I 66 41) (pc2 := 338) rfl rfl (sh_s66 hT.st) rfl rfl rfl ?_
      refine sh_w (i := (.iload 7)) (len := 2) (pc2 := 340) (lv2 := [(0, .ref 67), (1, .int x1), (2, .int x2), (5, .int x5), (7, .int x7), (8, .int x8)]) (st2 := [.int x7, .int (m.I 66 41), .ref 67]) (h2 := (sh_rep m.T m.I m.J)) rfl rfl rfl ?_
      refine sh_w (i := .iadd) (len := 1) (pc2 := 341) (lv2 := [(0, .ref 67), (1, .int x1), (2, .int x2), (5, .int x5), (7, .int x7), (8, .int x8)]) (st2 := [.int ((m.I 66 41) + x7), .ref 67]) (h2 := (sh_rep m.T m.I m.J)) rfl rfl rfl ?_
      refine sh_pI1 (x := (m.I 66 41) + x7) (pc2 := 344) rfl rfl (sh_s66 hT.st) rfl rfl rfl rfl ?_
      refine sh_w (i := (.aload_n 0)) (len := 1) (pc2 := 345) (lv2 := [(0, .ref 67), (1, .int x1), (2, .int x2), (5, .int x5), (7, .int x7), (8, .int x8)]) (st2 := [.ref 67]) (h2 := (sh_rep m.T (sh_u2 m.I 66 41 ((m.I 66 41) + x7)) m.J)) rfl rfl rfl ?_
      refine sh_w (i := (.iload_n 2)) (len := 1) (pc2 := 346) (lv2 := [(0, .ref 67), (1, .int x1), (2, .int x2), (5, .int x5), (7, .int x7), (8, .int x8)]) (st2 := [.int x2, .ref 67]) (h2 := (sh_rep m.T (sh_u2 m.I 66 41 ((m.I 66 41) + x7)) m.J)) rfl rfl rfl ?_
      refine sh_pI1 (x := x2) (pc2 := 349) rfl rfl (sh_s66 hT.st) rfl rfl rfl rfl ?_
      refine sh_w (i := (.aload_n 0)) (len := 1) (pc2 := 350) (lv2 := [(0, .ref 67), (1, .int x1), (2, .int x2), (5, .int x5), (7, .int x7), (8, .int x8)]) (st2 := [.ref 67]) (h2 := (sh_rep m.T (sh_u2 (sh_u2 m.I 66 41 ((m.I 66 41) + x7)) 66 79 x2) m.J)) rfl rfl rfl ?_
      refine sh_w (i := (.iload 7)) (len := 2) (pc2 := 352) (lv2 := [(0, .ref 67), (1, .int x1), (2, .int x2), (5, .int x5), (7, .int x7), (8, .int x8)]) (st2 := [.int x7, .ref 67]) (h2 := (sh_rep m.T (sh_u2 (sh_u2 m.I 66 41 ((m.I 66 41) + x7)) 66 79 x2) m.J)) rfl rfl rfl ?_
      refine sh_w (i := (.iload 5)) (len := 2) (pc2 := 354) (lv2 := [(0, .ref 67), (1, .int x1), (2, .int x2), (5, .int x5), (7, .int x7), (8, .int x8)]) (st2 := [.int x5, .int x7, .ref 67]) (h2 := (sh_rep m.T (sh_u2 (sh_u2 m.I 66 41 ((m.I 66 41) + x7)) 66 79 x2) m.J)) rfl rfl rfl ?_
      refine sh_w (i := .imul) (len := 1) (pc2 := 355) (lv2 := [(0, .ref 67), (1, .int x1), (2, .int x2), (5, .int x5), (7, .int x7), (8, .int x8)]) (st2 := [.int (x7 * x5), .ref 67]) (h2 := (sh_rep m.T (sh_u2 (sh_u2 m.I 66 41 ((m.I 66 41) + x7)) 66 79 x2) m.J)) rfl rfl rfl ?_
      refine sh_w (i := (.aload_n 0)) (len := 1) (pc2 := 356) (lv2 := [(0, .ref 67), (1, .int x1), (2, .int x2), (5, .int x5), (7, .int x7), (8, .int x8)]) (st2 := [.ref 67, .int (x7 * x5), .ref 67]) (h2 := (sh_rep m.T (sh_u2 (sh_u2 m.I 66 41 ((m.I 66 41) + x7)) 66 79 x2) m.J)) rfl rfl rfl ?_
      refine sh_gR1 (len := 3) (x := .ref 74) (pc2 := 359) rfl rfl (sh_s66 hT.st) rfl rfl ?_
      refine sh_w (i := (.iload_n 1)) (len := 1) (pc2 := 360) (lv2 := [(0, .ref 67), (1, .int x1), (2, .int x2), (5, .int x5), (7, .int x7), (8, .int x8)]) (st2 := [.int x1, .ref 74, .int (x7 * x5), .ref 67]) (h2 := (sh_rep m.T (sh_u2 (sh_u2 m.I 66 41 ((m.I 66 41) + x7)) 66 79 x2) m.J)) rfl rfl rfl ?_
      exact kk
    obtain ⟨c, e⟩ := sh_gd e
    refine sh_Lk_lift (T := m.T) (I := sh_u2 (sh_u2 m.I 66 41 ((m.I 66 41) + x7)) 66 79 x2) (J := m.J) (s := m.s) (pc2 := 361) (lv2 := [(0, .ref 67), (1, .int x1), (2, .int x2), (5, .int x5), (7, .int x7), (8, .int x8)]) (st2 := [.int (m.I 73 (Int32.toNatClampNeg x1)), .int (x7 * x5), .ref 67]) (I2 := sh_u2 (sh_u2 m.I 66 41 ((m.I 66 41) + x7)) 66 79 x2) (J2 := m.J) (fun hT v kk => ?_) ?_
    · refine sh_ia1 (x := m.I 73 (Int32.toNatClampNeg x1)) (pc2 := 361) rfl (sh_s73 hT.st) (sh_okb1 c) (sh_okb2 c) rfl rfl ?_
      exact kk
    obtain ⟨r1, m11, e1, e⟩ := sh_bn_e e
    refine sh_Lk_cV (r := (some (.int (sh_b2 r1)))) (st2 := [.int (sh_b2 r1)]) (pc2 := 364) (k2 := 292) (a := 66) (as := [.ref 67, .int (x7 * x5), .int (m.I 73 (Int32.toNatClampNeg x1))]) (rest := []) rfl rfl rfl (fun hT => (sh_s66 hT.st)) rfl rfl ⟨Nat.le_of_ble_eq_true rfl, Nat.le_of_ble_eq_true rfl⟩ (sl_292 e1 ⟨rfl, rfl⟩) rfl rfl (Nat.le_of_ble_eq_true rfl) (Nat.le_of_ble_eq_true rfl) ?_
    obtain rfl := Option.some.inj e
    obtain ⟨rfl, rfl⟩ := tg
    exact sh_Lk_ret (i := .ireturn) rfl rfl (sh_rb rfl _) (Nat.le_of_ble_eq_true rfl) (Nat.le_of_ble_eq_true rfl)
theorem sl_312_299 {x1 : Int32} {x2 : Int32} {x5 : Int32} {x7 : Int32} {x8 : Int32} {m m2 : sh_X} {o : Outcome} {z : (Bool × sh_X)} (e : sf_312_299 x1 x2 x5 x7 x8 m = some z) (tg : (sh_tZ o m2) z) : sh_Lk 312 299 [(0, .ref 67), (1, .int x1), (2, .int x2), (5, .int x5), (7, .int x7), (8, .int x8)] [] m o m2 11 268 := by
  unfold sf_312_299 at e
  exact sh_while_lk (P := fun q => sh_Lk 312 299 [(0, .ref 67), (1, .int x1), (2, .int x2), (5, .int x5), (7, .int x7), (8, .int q.1)] [] q.2 o m2 11 268) (Q := (sh_tZ o m2)) (fun q z e tg => sl_312_299s (x1 := x1) (x2 := x2) (x5 := x5) (x7 := x7) (x8 := q.1) (m := q.2) e tg) (s := (x8, m)) e tg
theorem sl_312_171s {x1 : Int32} {x2 : Int32} {x4 : Int32} {x5 : Int32} {x7 : Int32} {m m2 : sh_X} {o : Outcome} {z : ((Int32 × sh_X) ⊕ (Bool × sh_X))} (e : sf_312_171s x1 x2 x4 x5 x7 m = some z) (tg : (sh_el (fun q => sh_Lk 312 171 [(0, .ref 67), (1, .int x1), (2, .int x2), (4, .int x4), (5, .int x5), (7, .int q.1)] [] q.2 o m2 11 268) (sh_tZ o m2)) z) : sh_Lk 312 171 [(0, .ref 67), (1, .int x1), (2, .int x2), (4, .int x4), (5, .int x5), (7, .int x7)] [] m o m2 11 268 := by
  unfold sf_312_171s at e
  refine sh_Lk_lift (T := m.T) (I := m.I) (J := m.J) (s := m.s) (pc2 := 177) (lv2 := [(0, .ref 67), (1, .int x1), (2, .int x2), (4, .int x4), (5, .int x5), (7, .int x7)]) (st2 := [.int (m.I 66 79), .int x7]) (I2 := m.I) (J2 := m.J) (fun hT v kk => ?_) ?_
  · refine sh_w (i := (.iload 7)) (len := 2) (pc2 := 173) (lv2 := [(0, .ref 67), (1, .int x1), (2, .int x2), (4, .int x4), (5, .int x5), (7, .int x7)]) (st2 := [.int x7]) (h2 := (sh_rep m.T m.I m.J)) rfl rfl rfl ?_
    refine sh_w (i := (.aload_n 0)) (len := 1) (pc2 := 174) (lv2 := [(0, .ref 67), (1, .int x1), (2, .int x2), (4, .int x4), (5, .int x5), (7, .int x7)]) (st2 := [.ref 67, .int x7]) (h2 := (sh_rep m.T m.I m.J)) rfl rfl rfl ?_
    refine sh_gI1 (len := 3) (x := m.I 66 79) (pc2 := 177) rfl rfl (sh_s66 hT.st) rfl rfl rfl ?_
    exact kk
  rcases sh_ite e with ⟨c, e⟩ | ⟨c, e⟩
  · refine sh_Lk_lift (T := m.T) (I := m.I) (J := m.J) (s := m.s) (pc2 := 186) (lv2 := [(0, .ref 67), (1, .int x1), (2, .int x2), (4, .int x4), (5, .int x5), (7, .int x7)]) (st2 := [.int x7, .ref 115]) (I2 := m.I) (J2 := m.J) (fun hT v kk => ?_) ?_
    · refine sh_jc (c := .ge) (off := (60)) (pc2 := 180) false rfl (sh_Bgef c) rfl ?_
      refine sh_w (i := (.aload_n 0)) (len := 1) (pc2 := 181) (lv2 := [(0, .ref 67), (1, .int x1), (2, .int x2), (4, .int x4), (5, .int x5), (7, .int x7)]) (st2 := [.ref 67]) (h2 := (sh_rep m.T m.I m.J)) rfl rfl rfl ?_
      refine sh_gR1 (len := 3) (x := .ref 115) (pc2 := 184) rfl rfl (sh_s66 hT.st) rfl rfl ?_
      refine sh_w (i := (.iload 7)) (len := 2) (pc2 := 186) (lv2 := [(0, .ref 67), (1, .int x1), (2, .int x2), (4, .int x4), (5, .int x5), (7, .int x7)]) (st2 := [.int x7, .ref 115]) (h2 := (sh_rep m.T m.I m.J)) rfl rfl rfl ?_
      exact kk
    obtain ⟨c, e⟩ := sh_gd e
    refine sh_Lk_lift (T := m.T) (I := m.I) (J := m.J) (s := m.s) (pc2 := 187) (lv2 := [(0, .ref 67), (1, .int x1), (2, .int x2), (4, .int x4), (5, .int x5), (7, .int x7)]) (st2 := [.int (m.I 114 (Int32.toNatClampNeg x7))]) (I2 := m.I) (J2 := m.J) (fun hT v kk => ?_) ?_
    · refine sh_ia1 (x := m.I 114 (Int32.toNatClampNeg x7)) (pc2 := 187) rfl (sh_s114 hT.st) (sh_okb1 c) (sh_okb2 c) rfl rfl ?_
      exact kk
    rcases sh_ite e with ⟨c, e⟩ | ⟨c, e⟩
    · refine sh_Lk_lift (T := m.T) (I := m.I) (J := m.J) (s := m.s) (pc2 := 214) (lv2 := [(0, .ref 67), (1, .int x1), (2, .int x2), (4, .int x4), (5, .int x5), (7, .int x7)]) (st2 := []) (I2 := m.I) (J2 := m.J) (fun hT v kk => ?_) ?_
      · refine sh_j0 (c := .gt) (off := (27)) (pc2 := 214) true rfl (sh_Bgtt c) rfl ?_
        exact kk
      obtain ⟨_, eu, rfl⟩ := sh_up_e e
      exact sh_Lk_sub (sh_sub_c rfl (sh_sub_c rfl (sh_sub_n))) (sl_312_214 eu tg)
    · refine sh_Lk_lift (T := m.T) (I := m.I) (J := m.J) (s := m.s) (pc2 := 196) (lv2 := [(0, .ref 67), (1, .int x1), (2, .int x2), (4, .int x4), (5, .int x5), (7, .int x7)]) (st2 := [.int x7, .ref 113]) (I2 := m.I) (J2 := m.J) (fun hT v kk => ?_) ?_
      · refine sh_j0 (c := .gt) (off := (27)) (pc2 := 190) false rfl (sh_Bgtf c) rfl ?_
        refine sh_w (i := (.aload_n 0)) (len := 1) (pc2 := 191) (lv2 := [(0, .ref 67), (1, .int x1), (2, .int x2), (4, .int x4), (5, .int x5), (7, .int x7)]) (st2 := [.ref 67]) (h2 := (sh_rep m.T m.I m.J)) rfl rfl rfl ?_
        refine sh_gR1 (len := 3) (x := .ref 113) (pc2 := 194) rfl rfl (sh_s66 hT.st) rfl rfl ?_
        refine sh_w (i := (.iload 7)) (len := 2) (pc2 := 196) (lv2 := [(0, .ref 67), (1, .int x1), (2, .int x2), (4, .int x4), (5, .int x5), (7, .int x7)]) (st2 := [.int x7, .ref 113]) (h2 := (sh_rep m.T m.I m.J)) rfl rfl rfl ?_
        exact kk
      obtain ⟨c, e⟩ := sh_gd e
      refine sh_Lk_lift (T := m.T) (I := m.I) (J := m.J) (s := m.s) (pc2 := 199) (lv2 := [(0, .ref 67), (1, .int x1), (2, .int x2), (4, .int x4), (5, .int x5), (7, .int x7)]) (st2 := [.int x4, .int (m.I 112 (Int32.toNatClampNeg x7))]) (I2 := m.I) (J2 := m.J) (fun hT v kk => ?_) ?_
      · refine sh_ia1 (x := m.I 112 (Int32.toNatClampNeg x7)) (pc2 := 197) rfl (sh_s112 hT.st) (sh_okb1 c) (sh_okb2 c) rfl rfl ?_
        refine sh_w (i := (.iload 4)) (len := 2) (pc2 := 199) (lv2 := [(0, .ref 67), (1, .int x1), (2, .int x2), (4, .int x4), (5, .int x5), (7, .int x7)]) (st2 := [.int x4, .int (m.I 112 (Int32.toNatClampNeg x7))]) (h2 := (sh_rep m.T m.I m.J)) rfl rfl rfl ?_
        exact kk
      rcases sh_ite e with ⟨c, e⟩ | ⟨c, e⟩
      · refine sh_Lk_lift (T := m.T) (I := m.I) (J := m.J) (s := m.s) (pc2 := 208) (lv2 := [(0, .ref 67), (1, .int x1), (2, .int x2), (4, .int x4), (5, .int x5), (7, .int x7)]) (st2 := [.int x7, .ref 114]) (I2 := m.I) (J2 := m.J) (fun hT v kk => ?_) ?_
        · refine sh_jc (c := .ne) (off := (15)) (pc2 := 202) false rfl (sh_Bnef c) rfl ?_
          refine sh_w (i := (.aload_n 0)) (len := 1) (pc2 := 203) (lv2 := [(0, .ref 67), (1, .int x1), (2, .int x2), (4, .int x4), (5, .int x5), (7, .int x7)]) (st2 := [.ref 67]) (h2 := (sh_rep m.T m.I m.J)) rfl rfl rfl ?_
          refine sh_gR1 (len := 3) (x := .ref 114) (pc2 := 206) rfl rfl (sh_s66 hT.st) rfl rfl ?_
          refine sh_w (i := (.iload 7)) (len := 2) (pc2 := 208) (lv2 := [(0, .ref 67), (1, .int x1), (2, .int x2), (4, .int x4), (5, .int x5), (7, .int x7)]) (st2 := [.int x7, .ref 114]) (h2 := (sh_rep m.T m.I m.J)) rfl rfl rfl ?_
          exact kk
        obtain ⟨c, e⟩ := sh_gd e
        refine sh_Lk_lift (T := m.T) (I := m.I) (J := m.J) (s := m.s) (pc2 := 211) (lv2 := [(0, .ref 67), (1, .int x1), (2, .int x2), (4, .int x4), (5, .int x5), (7, .int x7)]) (st2 := [.int x5, .int (m.I 113 (Int32.toNatClampNeg x7))]) (I2 := m.I) (J2 := m.J) (fun hT v kk => ?_) ?_
        · refine sh_ia1 (x := m.I 113 (Int32.toNatClampNeg x7)) (pc2 := 209) rfl (sh_s113 hT.st) (sh_okb1 c) (sh_okb2 c) rfl rfl ?_
          refine sh_w (i := (.iload 5)) (len := 2) (pc2 := 211) (lv2 := [(0, .ref 67), (1, .int x1), (2, .int x2), (4, .int x4), (5, .int x5), (7, .int x7)]) (st2 := [.int x5, .int (m.I 113 (Int32.toNatClampNeg x7))]) (h2 := (sh_rep m.T m.I m.J)) rfl rfl rfl ?_
          exact kk
        rcases sh_ite e with ⟨c, e⟩ | ⟨c, e⟩
        · refine sh_Lk_lift (T := m.T) (I := m.I) (J := m.J) (s := m.s) (pc2 := 171) (lv2 := [(7, .int (x7 + 1)), (0, .ref 67), (1, .int x1), (2, .int x2), (4, .int x4), (5, .int x5)]) (st2 := []) (I2 := m.I) (J2 := m.J) (fun hT v kk => ?_) ?_
          · refine sh_jc (c := .eq) (off := (20)) (pc2 := 231) true rfl (sh_Beqt c) rfl ?_
            refine sh_w (i := (.iinc 7 1)) (len := 3) (pc2 := 234) (lv2 := [(7, .int (x7 + 1)), (0, .ref 67), (1, .int x1), (2, .int x2), (4, .int x4), (5, .int x5)]) (st2 := []) (h2 := (sh_rep m.T m.I m.J)) rfl rfl rfl ?_
            refine sh_w (i := (.goto (-63))) (len := 3) (pc2 := 171) (lv2 := [(7, .int (x7 + 1)), (0, .ref 67), (1, .int x1), (2, .int x2), (4, .int x4), (5, .int x5)]) (st2 := []) (h2 := (sh_rep m.T m.I m.J)) rfl rfl rfl ?_
            exact kk
          obtain rfl := Option.some.inj e
          exact sh_Lk_sub (sh_sub_c rfl (sh_sub_c rfl (sh_sub_c rfl (sh_sub_c rfl (sh_sub_c rfl (sh_sub_c rfl (sh_sub_n))))))) tg
        · refine sh_Lk_lift (T := m.T) (I := m.I) (J := m.J) (s := m.s) (pc2 := 214) (lv2 := [(0, .ref 67), (1, .int x1), (2, .int x2), (4, .int x4), (5, .int x5), (7, .int x7)]) (st2 := []) (I2 := m.I) (J2 := m.J) (fun hT v kk => ?_) ?_
          · refine sh_jc (c := .eq) (off := (20)) (pc2 := 214) false rfl (sh_Beqf c) rfl ?_
            exact kk
          obtain ⟨_, eu, rfl⟩ := sh_up_e e
          exact sh_Lk_sub (sh_sub_c rfl (sh_sub_c rfl (sh_sub_n))) (sl_312_214 eu tg)
      · refine sh_Lk_lift (T := m.T) (I := m.I) (J := m.J) (s := m.s) (pc2 := 214) (lv2 := [(0, .ref 67), (1, .int x1), (2, .int x2), (4, .int x4), (5, .int x5), (7, .int x7)]) (st2 := []) (I2 := m.I) (J2 := m.J) (fun hT v kk => ?_) ?_
        · refine sh_jc (c := .ne) (off := (15)) (pc2 := 214) true rfl (sh_Bnet c) rfl ?_
          exact kk
        obtain ⟨_, eu, rfl⟩ := sh_up_e e
        exact sh_Lk_sub (sh_sub_c rfl (sh_sub_c rfl (sh_sub_n))) (sl_312_214 eu tg)
  · refine sh_Lk_lift (T := m.T) (I := m.I) (J := m.J) (s := m.s) (pc2 := 249) (lv2 := [(7, .int ((m.I 66 79) - x2)), (0, .ref 67), (1, .int x1), (2, .int x2), (4, .int x4), (5, .int x5)]) (st2 := [.int 32, .int ((m.I 66 79) - x2)]) (I2 := m.I) (J2 := m.J) (fun hT v kk => ?_) ?_
    · refine sh_jc (c := .ge) (off := (60)) (pc2 := 237) true rfl (sh_Bget c) rfl ?_
      refine sh_w (i := (.aload_n 0)) (len := 1) (pc2 := 238) (lv2 := [(0, .ref 67), (1, .int x1), (2, .int x2), (4, .int x4), (5, .int x5), (7, .int x7)]) (st2 := [.ref 67]) (h2 := (sh_rep m.T m.I m.J)) rfl rfl rfl ?_
      refine sh_gI1 (len := 3) (x := m.I 66 79) (pc2 := 241) rfl rfl (sh_s66 hT.st) rfl rfl rfl ?_
      refine sh_w (i := (.iload_n 2)) (len := 1) (pc2 := 242) (lv2 := [(0, .ref 67), (1, .int x1), (2, .int x2), (4, .int x4), (5, .int x5), (7, .int x7)]) (st2 := [.int x2, .int (m.I 66 79)]) (h2 := (sh_rep m.T m.I m.J)) rfl rfl rfl ?_
      refine sh_w (i := .isub) (len := 1) (pc2 := 243) (lv2 := [(0, .ref 67), (1, .int x1), (2, .int x2), (4, .int x4), (5, .int x5), (7, .int x7)]) (st2 := [.int ((m.I 66 79) - x2)]) (h2 := (sh_rep m.T m.I m.J)) rfl rfl rfl ?_
      refine sh_w (i := (.istore 7)) (len := 2) (pc2 := 245) (lv2 := [(7, .int ((m.I 66 79) - x2)), (0, .ref 67), (1, .int x1), (2, .int x2), (4, .int x4), (5, .int x5)]) (st2 := []) (h2 := (sh_rep m.T m.I m.J)) rfl rfl rfl ?_
      refine sh_w (i := (.iload 7)) (len := 2) (pc2 := 247) (lv2 := [(7, .int ((m.I 66 79) - x2)), (0, .ref 67), (1, .int x1), (2, .int x2), (4, .int x4), (5, .int x5)]) (st2 := [.int ((m.I 66 79) - x2)]) (h2 := (sh_rep m.T m.I m.J)) rfl rfl rfl ?_
      refine sh_w (i := (.bipush 32)) (len := 2) (pc2 := 249) (lv2 := [(7, .int ((m.I 66 79) - x2)), (0, .ref 67), (1, .int x1), (2, .int x2), (4, .int x4), (5, .int x5)]) (st2 := [.int 32, .int ((m.I 66 79) - x2)]) (h2 := (sh_rep m.T m.I m.J)) rfl rfl rfl ?_
      exact kk
    rcases sh_ite e with ⟨c, e⟩ | ⟨c, e⟩
    · refine sh_Lk_lift (T := m.T) (I := m.I) (J := m.J) (s := m.s) (pc2 := 263) (lv2 := [(7, .int ((m.I 66 79) - x2)), (0, .ref 67), (1, .int x1), (2, .int x2), (4, .int x4), (5, .int x5)]) (st2 := [.int x1, .ref 74, .ref 70, .int 4, .ref 67]) (I2 := m.I) (J2 := m.J) (fun hT v kk => ?_) ?_
      · refine sh_jc (c := .le) (off := (20)) (pc2 := 252) false rfl (sh_Blef c) rfl ?_
        refine sh_w (i := (.aload_n 0)) (len := 1) (pc2 := 253) (lv2 := [(7, .int ((m.I 66 79) - x2)), (0, .ref 67), (1, .int x1), (2, .int x2), (4, .int x4), (5, .int x5)]) (st2 := [.ref 67]) (h2 := (sh_rep m.T m.I m.J)) rfl rfl rfl ?_
        refine sh_w (i := (.iconst 4)) (len := 1) (pc2 := 254) (lv2 := [(7, .int ((m.I 66 79) - x2)), (0, .ref 67), (1, .int x1), (2, .int x2), (4, .int x4), (5, .int x5)]) (st2 := [.int 4, .ref 67]) (h2 := (sh_rep m.T m.I m.J)) rfl rfl rfl ?_
        refine sh_w (i := (.aload_n 0)) (len := 1) (pc2 := 255) (lv2 := [(7, .int ((m.I 66 79) - x2)), (0, .ref 67), (1, .int x1), (2, .int x2), (4, .int x4), (5, .int x5)]) (st2 := [.ref 67, .int 4, .ref 67]) (h2 := (sh_rep m.T m.I m.J)) rfl rfl rfl ?_
        refine sh_gR1 (len := 3) (x := .ref 70) (pc2 := 258) rfl rfl (sh_s66 hT.st) rfl rfl ?_
        refine sh_w (i := (.aload_n 0)) (len := 1) (pc2 := 259) (lv2 := [(7, .int ((m.I 66 79) - x2)), (0, .ref 67), (1, .int x1), (2, .int x2), (4, .int x4), (5, .int x5)]) (st2 := [.ref 67, .ref 70, .int 4, .ref 67]) (h2 := (sh_rep m.T m.I m.J)) rfl rfl rfl ?_
        refine sh_gR1 (len := 3) (x := .ref 74) (pc2 := 262) rfl rfl (sh_s66 hT.st) rfl rfl ?_
        refine sh_w (i := (.iload_n 1)) (len := 1) (pc2 := 263) (lv2 := [(7, .int ((m.I 66 79) - x2)), (0, .ref 67), (1, .int x1), (2, .int x2), (4, .int x4), (5, .int x5)]) (st2 := [.int x1, .ref 74, .ref 70, .int 4, .ref 67]) (h2 := (sh_rep m.T m.I m.J)) rfl rfl rfl ?_
        exact kk
      obtain ⟨c, e⟩ := sh_gd e
      refine sh_Lk_lift (T := m.T) (I := m.I) (J := m.J) (s := m.s) (pc2 := 264) (lv2 := [(7, .int ((m.I 66 79) - x2)), (0, .ref 67), (1, .int x1), (2, .int x2), (4, .int x4), (5, .int x5)]) (st2 := [.int (m.I 73 (Int32.toNatClampNeg x1)), .ref 70, .int 4, .ref 67]) (I2 := m.I) (J2 := m.J) (fun hT v kk => ?_) ?_
      · refine sh_ia1 (x := m.I 73 (Int32.toNatClampNeg x1)) (pc2 := 264) rfl (sh_s73 hT.st) (sh_okb1 c) (sh_okb2 c) rfl rfl ?_
        exact kk
      obtain ⟨c, e⟩ := sh_gd e
      refine sh_Lk_lift (T := m.T) (I := m.I) (J := m.J) (s := m.s) (pc2 := 265) (lv2 := [(7, .int ((m.I 66 79) - x2)), (0, .ref 67), (1, .int x1), (2, .int x2), (4, .int x4), (5, .int x5)]) (st2 := [.int (m.I 69 (Int32.toNatClampNeg (m.I 73 (Int32.toNatClampNeg x1)))), .int 4, .ref 67]) (I2 := m.I) (J2 := m.J) (fun hT v kk => ?_) ?_
      · refine sh_ia1 (x := m.I 69 (Int32.toNatClampNeg (m.I 73 (Int32.toNatClampNeg x1)))) (pc2 := 265) rfl (sh_s69 hT.st) (sh_okb1 c) (sh_okb2 c) rfl rfl ?_
        exact kk
      obtain ⟨r1, m11, e1, e⟩ := sh_bn_e e
      refine sh_Lk_cV (r := (some (.int (sh_b2 r1)))) (st2 := [.int (sh_b2 r1)]) (pc2 := 268) (k2 := 252) (a := 66) (as := [.ref 67, .int 4, .int (m.I 69 (Int32.toNatClampNeg (m.I 73 (Int32.toNatClampNeg x1))))]) (rest := []) rfl rfl rfl (fun hT => (sh_s66 hT.st)) rfl rfl ⟨Nat.le_of_ble_eq_true rfl, Nat.le_of_ble_eq_true rfl⟩ (sl_252 e1 ⟨rfl, rfl⟩) rfl rfl (Nat.le_of_ble_eq_true rfl) (Nat.le_of_ble_eq_true rfl) ?_
      obtain rfl := Option.some.inj e
      obtain ⟨rfl, rfl⟩ := tg
      exact sh_Lk_ret (i := .ireturn) rfl rfl (sh_rb rfl _) (Nat.le_of_ble_eq_true rfl) (Nat.le_of_ble_eq_true rfl)
    · refine sh_Lk_lift (T := m.T) (I := m.I) (J := m.J) (s := m.s) (pc2 := 299) (lv2 := [(8, .int 0), (7, .int ((m.I 66 79) - x2)), (0, .ref 67), (1, .int x1), (2, .int x2), (4, .int x4), (5, .int x5)]) (st2 := []) (I2 := sh_u2 (sh_u2 (sh_u2 m.I 66 43 x4) 66 44 x5) 66 45 ((m.I 66 79) - x2)) (J2 := sh_u2 m.J 66 46 (Int32.toInt64 (m.I 66 41))) (fun hT v kk => ?_) ?_
      · refine sh_jc (c := .le) (off := (20)) (pc2 := 269) true rfl (sh_Blet c) rfl ?_
        refine sh_w (i := (.aload_n 0)) (len := 1) (pc2 := 270) (lv2 := [(7, .int ((m.I 66 79) - x2)), (0, .ref 67), (1, .int x1), (2, .int x2), (4, .int x4), (5, .int x5)]) (st2 := [.ref 67]) (h2 := (sh_rep m.T m.I m.J)) rfl rfl rfl ?_
        refine sh_w (i := (.iload 4)) (len := 2) (pc2 := 272) (lv2 := [(7, .int ((m.I 66 79) - x2)), (0, .ref 67), (1, .int x1), (2, .int x2), (4, .int x4), (5, .int x5)]) (st2 := [.int x4, .ref 67]) (h2 := (sh_rep m.T m.I m.J)) rfl rfl rfl ?_
        refine sh_pI1 (x := x4) (pc2 := 275) rfl rfl (sh_s66 hT.st) rfl rfl rfl rfl ?_
        refine sh_w (i := (.aload_n 0)) (len := 1) (pc2 := 276) (lv2 := [(7, .int ((m.I 66 79) - x2)), (0, .ref 67), (1, .int x1), (2, .int x2), (4, .int x4), (5, .int x5)]) (st2 := [.ref 67]) (h2 := (sh_rep m.T (sh_u2 m.I 66 43 x4) m.J)) rfl rfl rfl ?_
        refine sh_w (i := (.iload 5)) (len := 2) (pc2 := 278) (lv2 := [(7, .int ((m.I 66 79) - x2)), (0, .ref 67), (1, .int x1), (2, .int x2), (4, .int x4), (5, .int x5)]) (st2 := [.int x5, .ref 67]) (h2 := (sh_rep m.T (sh_u2 m.I 66 43 x4) m.J)) rfl rfl rfl ?_
        refine sh_pI1 (x := x5) (pc2 := 281) rfl rfl (sh_s66 hT.st) rfl rfl rfl rfl ?_
        refine sh_w (i := (.aload_n 0)) (len := 1) (pc2 := 282) (lv2 := [(7, .int ((m.I 66 79) - x2)), (0, .ref 67), (1, .int x1), (2, .int x2), (4, .int x4), (5, .int x5)]) (st2 := [.ref 67]) (h2 := (sh_rep m.T (sh_u2 (sh_u2 m.I 66 43 x4) 66 44 x5) m.J)) rfl rfl rfl ?_
        refine sh_w (i := (.iload 7)) (len := 2) (pc2 := 284) (lv2 := [(7, .int ((m.I 66 79) - x2)), (0, .ref 67), (1, .int x1), (2, .int x2), (4, .int x4), (5, .int x5)]) (st2 := [.int ((m.I 66 79) - x2), .ref 67]) (h2 := (sh_rep m.T (sh_u2 (sh_u2 m.I 66 43 x4) 66 44 x5) m.J)) rfl rfl rfl ?_
        refine sh_pI1 (x := (m.I 66 79) - x2) (pc2 := 287) rfl rfl (sh_s66 hT.st) rfl rfl rfl rfl ?_
        refine sh_w (i := (.aload_n 0)) (len := 1) (pc2 := 288) (lv2 := [(7, .int ((m.I 66 79) - x2)), (0, .ref 67), (1, .int x1), (2, .int x2), (4, .int x4), (5, .int x5)]) (st2 := [.ref 67]) (h2 := (sh_rep m.T (sh_u2 (sh_u2 (sh_u2 m.I 66 43 x4) 66 44 x5) 66 45 ((m.I 66 79) - x2)) m.J)) rfl rfl rfl ?_
        refine sh_w (i := (.aload_n 0)) (len := 1) (pc2 := 289) (lv2 := [(7, .int ((m.I 66 79) - x2)), (0, .ref 67), (1, .int x1), (2, .int x2), (4, .int x4), (5, .int x5)]) (st2 := [.ref 67, .ref 67]) (h2 := (sh_rep m.T (sh_u2 (sh_u2 (sh_u2 m.I 66 43 x4) 66 44 x5) 66 45 ((m.I 66 79) - x2)) m.J)) rfl rfl rfl ?_
        refine sh_gI1 (len := 3) (x := m.I 66 41) (pc2 := 292) rfl rfl (sh_s66 hT.st) rfl rfl rfl ?_
        refine sh_w (i := .i2l) (len := 1) (pc2 := 293) (lv2 := [(7, .int ((m.I 66 79) - x2)), (0, .ref 67), (1, .int x1), (2, .int x2), (4, .int x4), (5, .int x5)]) (st2 := [.long (Int32.toInt64 (m.I 66 41)), .ref 67]) (h2 := (sh_rep m.T (sh_u2 (sh_u2 (sh_u2 m.I 66 43 x4) 66 44 x5) 66 45 ((m.I 66 79) - x2)) m.J)) rfl rfl rfl ?_
        refine sh_pJ1 (x := Int32.toInt64 (m.I 66 41)) (pc2 := 296) rfl rfl (sh_s66 hT.st) rfl rfl rfl rfl ?_
        refine sh_w (i := (.iconst 0)) (len := 1) (pc2 := 297) (lv2 := [(7, .int ((m.I 66 79) - x2)), (0, .ref 67), (1, .int x1), (2, .int x2), (4, .int x4), (5, .int x5)]) (st2 := [.int 0]) (h2 := (sh_rep m.T (sh_u2 (sh_u2 (sh_u2 m.I 66 43 x4) 66 44 x5) 66 45 ((m.I 66 79) - x2)) (sh_u2 m.J 66 46 (Int32.toInt64 (m.I 66 41))))) rfl rfl rfl ?_
        refine sh_w (i := (.istore 8)) (len := 2) (pc2 := 299) (lv2 := [(8, .int 0), (7, .int ((m.I 66 79) - x2)), (0, .ref 67), (1, .int x1), (2, .int x2), (4, .int x4), (5, .int x5)]) (st2 := []) (h2 := (sh_rep m.T (sh_u2 (sh_u2 (sh_u2 m.I 66 43 x4) 66 44 x5) 66 45 ((m.I 66 79) - x2)) (sh_u2 m.J 66 46 (Int32.toInt64 (m.I 66 41))))) rfl rfl rfl ?_
        exact kk
      obtain ⟨_, eu, rfl⟩ := sh_up_e e
      exact sh_Lk_sub (sh_sub_c rfl (sh_sub_c rfl (sh_sub_c rfl (sh_sub_c rfl (sh_sub_c rfl (sh_sub_c rfl (sh_sub_n))))))) (sl_312_299 eu tg)
theorem sl_312_171 {x1 : Int32} {x2 : Int32} {x4 : Int32} {x5 : Int32} {x7 : Int32} {m m2 : sh_X} {o : Outcome} {z : (Bool × sh_X)} (e : sf_312_171 x1 x2 x4 x5 x7 m = some z) (tg : (sh_tZ o m2) z) : sh_Lk 312 171 [(0, .ref 67), (1, .int x1), (2, .int x2), (4, .int x4), (5, .int x5), (7, .int x7)] [] m o m2 11 268 := by
  unfold sf_312_171 at e
  exact sh_while_lk (P := fun q => sh_Lk 312 171 [(0, .ref 67), (1, .int x1), (2, .int x2), (4, .int x4), (5, .int x5), (7, .int q.1)] [] q.2 o m2 11 268) (Q := (sh_tZ o m2)) (fun q z e tg => sl_312_171s (x1 := x1) (x2 := x2) (x4 := x4) (x5 := x5) (x7 := q.1) (m := q.2) e tg) (s := (x7, m)) e tg
theorem sl_312_88s {x1 : Int32} {x2 : Int32} {x4 : Int32} {x5 : Int32} {x6 : Int32} {x7 : Int32} {m m2 : sh_X} {o : Outcome} {z : ((Int32 × sh_X) ⊕ (Bool × sh_X))} (e : sf_312_88s x1 x2 x4 x5 x6 x7 m = some z) (tg : (sh_el (fun q => sh_Lk 312 88 [(0, .ref 67), (1, .int x1), (2, .int x2), (4, .int x4), (5, .int x5), (6, .int x6), (7, .int q.1)] [] q.2 o m2 11 268) (sh_tZ o m2)) z) : sh_Lk 312 88 [(0, .ref 67), (1, .int x1), (2, .int x2), (4, .int x4), (5, .int x5), (6, .int x6), (7, .int x7)] [] m o m2 11 268 := by
  unfold sf_312_88s at e
  refine sh_Lk_lift (T := m.T) (I := m.I) (J := m.J) (s := m.s) (pc2 := 94) (lv2 := [(0, .ref 67), (1, .int x1), (2, .int x2), (4, .int x4), (5, .int x5), (6, .int x6), (7, .int x7)]) (st2 := [.int (m.I 66 79), .int x7]) (I2 := m.I) (J2 := m.J) (fun hT v kk => ?_) ?_
  · refine sh_w (i := (.iload 7)) (len := 2) (pc2 := 90) (lv2 := [(0, .ref 67), (1, .int x1), (2, .int x2), (4, .int x4), (5, .int x5), (6, .int x6), (7, .int x7)]) (st2 := [.int x7]) (h2 := (sh_rep m.T m.I m.J)) rfl rfl rfl ?_
    refine sh_w (i := (.aload_n 0)) (len := 1) (pc2 := 91) (lv2 := [(0, .ref 67), (1, .int x1), (2, .int x2), (4, .int x4), (5, .int x5), (6, .int x6), (7, .int x7)]) (st2 := [.ref 67, .int x7]) (h2 := (sh_rep m.T m.I m.J)) rfl rfl rfl ?_
    refine sh_gI1 (len := 3) (x := m.I 66 79) (pc2 := 94) rfl rfl (sh_s66 hT.st) rfl rfl rfl ?_
    exact kk
  rcases sh_ite e with ⟨c, e⟩ | ⟨c, e⟩
  · refine sh_Lk_lift (T := m.T) (I := m.I) (J := m.J) (s := m.s) (pc2 := 103) (lv2 := [(0, .ref 67), (1, .int x1), (2, .int x2), (4, .int x4), (5, .int x5), (6, .int x6), (7, .int x7)]) (st2 := [.int x7, .ref 113]) (I2 := m.I) (J2 := m.J) (fun hT v kk => ?_) ?_
    · refine sh_jc (c := .ge) (off := (74)) (pc2 := 97) false rfl (sh_Bgef c) rfl ?_
      refine sh_w (i := (.aload_n 0)) (len := 1) (pc2 := 98) (lv2 := [(0, .ref 67), (1, .int x1), (2, .int x2), (4, .int x4), (5, .int x5), (6, .int x6), (7, .int x7)]) (st2 := [.ref 67]) (h2 := (sh_rep m.T m.I m.J)) rfl rfl rfl ?_
      refine sh_gR1 (len := 3) (x := .ref 113) (pc2 := 101) rfl rfl (sh_s66 hT.st) rfl rfl ?_
      refine sh_w (i := (.iload 7)) (len := 2) (pc2 := 103) (lv2 := [(0, .ref 67), (1, .int x1), (2, .int x2), (4, .int x4), (5, .int x5), (6, .int x6), (7, .int x7)]) (st2 := [.int x7, .ref 113]) (h2 := (sh_rep m.T m.I m.J)) rfl rfl rfl ?_
      exact kk
    obtain ⟨c, e⟩ := sh_gd e
    refine sh_Lk_lift (T := m.T) (I := m.I) (J := m.J) (s := m.s) (pc2 := 105) (lv2 := [(0, .ref 67), (1, .int x1), (2, .int x2), (4, .int x4), (5, .int x5), (6, .int x6), (7, .int x7)]) (st2 := [.int 3, .int (m.I 112 (Int32.toNatClampNeg x7))]) (I2 := m.I) (J2 := m.J) (fun hT v kk => ?_) ?_
    · refine sh_ia1 (x := m.I 112 (Int32.toNatClampNeg x7)) (pc2 := 104) rfl (sh_s112 hT.st) (sh_okb1 c) (sh_okb2 c) rfl rfl ?_
      refine sh_w (i := (.iconst 3)) (len := 1) (pc2 := 105) (lv2 := [(0, .ref 67), (1, .int x1), (2, .int x2), (4, .int x4), (5, .int x5), (6, .int x6), (7, .int x7)]) (st2 := [.int 3, .int (m.I 112 (Int32.toNatClampNeg x7))]) (h2 := (sh_rep m.T m.I m.J)) rfl rfl rfl ?_
      exact kk
    rcases sh_ite e with ⟨c, e⟩ | ⟨c, e⟩
    · refine sh_Lk_lift (T := m.T) (I := m.I) (J := m.J) (s := m.s) (pc2 := 118) (lv2 := [(0, .ref 67), (1, .int x1), (2, .int x2), (4, .int x4), (5, .int x5), (6, .int x6), (7, .int x7)]) (st2 := [.int x7, .ref 116, .ref 67]) (I2 := m.I) (J2 := m.J) (fun hT v kk => ?_) ?_
      · refine sh_jc (c := .eq) (off := (6)) (pc2 := 111) true rfl (sh_Beqt c) rfl ?_
        refine sh_w (i := (.aload_n 0)) (len := 1) (pc2 := 112) (lv2 := [(0, .ref 67), (1, .int x1), (2, .int x2), (4, .int x4), (5, .int x5), (6, .int x6), (7, .int x7)]) (st2 := [.ref 67]) (h2 := (sh_rep m.T m.I m.J)) rfl rfl rfl ?_
        refine sh_w (i := (.aload_n 0)) (len := 1) (pc2 := 113) (lv2 := [(0, .ref 67), (1, .int x1), (2, .int x2), (4, .int x4), (5, .int x5), (6, .int x6), (7, .int x7)]) (st2 := [.ref 67, .ref 67]) (h2 := (sh_rep m.T m.I m.J)) rfl rfl rfl ?_
        refine sh_gR1 (len := 3) (x := .ref 116) (pc2 := 116) rfl rfl (sh_s66 hT.st) rfl rfl ?_
        refine sh_w (i := (.iload 7)) (len := 2) (pc2 := 118) (lv2 := [(0, .ref 67), (1, .int x1), (2, .int x2), (4, .int x4), (5, .int x5), (6, .int x6), (7, .int x7)]) (st2 := [.int x7, .ref 116, .ref 67]) (h2 := (sh_rep m.T m.I m.J)) rfl rfl rfl ?_
        exact kk
      obtain ⟨c, e⟩ := sh_gd e
      refine sh_Lk_lift (T := m.T) (I := m.I) (J := m.J) (s := m.s) (pc2 := 129) (lv2 := [(0, .ref 67), (1, .int x1), (2, .int x2), (4, .int x4), (5, .int x5), (6, .int x6), (7, .int x7)]) (st2 := [.int x7, .ref 117, .ref 67]) (I2 := m.I) (J2 := sh_u2 m.J 66 46 (m.J 115 (Int32.toNatClampNeg x7))) (fun hT v kk => ?_) ?_
      · refine sh_la1 (x := m.J 115 (Int32.toNatClampNeg x7)) (pc2 := 119) rfl (sh_s115 hT.st) (sh_okb1 c) (sh_okb2 c) rfl rfl ?_
        refine sh_pJ1 (x := m.J 115 (Int32.toNatClampNeg x7)) (pc2 := 122) rfl rfl (sh_s66 hT.st) rfl rfl rfl rfl ?_
        refine sh_w (i := (.aload_n 0)) (len := 1) (pc2 := 123) (lv2 := [(0, .ref 67), (1, .int x1), (2, .int x2), (4, .int x4), (5, .int x5), (6, .int x6), (7, .int x7)]) (st2 := [.ref 67]) (h2 := (sh_rep m.T m.I (sh_u2 m.J 66 46 (m.J 115 (Int32.toNatClampNeg x7))))) rfl rfl rfl ?_
        refine sh_w (i := (.aload_n 0)) (len := 1) (pc2 := 124) (lv2 := [(0, .ref 67), (1, .int x1), (2, .int x2), (4, .int x4), (5, .int x5), (6, .int x6), (7, .int x7)]) (st2 := [.ref 67, .ref 67]) (h2 := (sh_rep m.T m.I (sh_u2 m.J 66 46 (m.J 115 (Int32.toNatClampNeg x7))))) rfl rfl rfl ?_
        refine sh_gR1 (len := 3) (x := .ref 117) (pc2 := 127) rfl rfl (sh_s66 hT.st) rfl rfl ?_
        refine sh_w (i := (.iload 7)) (len := 2) (pc2 := 129) (lv2 := [(0, .ref 67), (1, .int x1), (2, .int x2), (4, .int x4), (5, .int x5), (6, .int x6), (7, .int x7)]) (st2 := [.int x7, .ref 117, .ref 67]) (h2 := (sh_rep m.T m.I (sh_u2 m.J 66 46 (m.J 115 (Int32.toNatClampNeg x7))))) rfl rfl rfl ?_
        exact kk
      obtain ⟨c, e⟩ := sh_gd e
      refine sh_Lk_lift (T := m.T) (I := m.I) (J := sh_u2 m.J 66 46 (m.J 115 (Int32.toNatClampNeg x7))) (s := m.s) (pc2 := 136) (lv2 := [(0, .ref 67), (1, .int x1), (2, .int x2), (4, .int x4), (5, .int x5), (6, .int x6), (7, .int x7)]) (st2 := [.int x6, .int x5, .int x4, .int (m.I 116 (Int32.toNatClampNeg x7)), .ref 67]) (I2 := m.I) (J2 := sh_u2 m.J 66 46 (m.J 115 (Int32.toNatClampNeg x7))) (fun hT v kk => ?_) ?_
      · refine sh_ia1 (x := m.I 116 (Int32.toNatClampNeg x7)) (pc2 := 130) rfl (sh_s116 hT.st) (sh_okb1 c) (sh_okb2 c) rfl rfl ?_
        refine sh_w (i := (.iload 4)) (len := 2) (pc2 := 132) (lv2 := [(0, .ref 67), (1, .int x1), (2, .int x2), (4, .int x4), (5, .int x5), (6, .int x6), (7, .int x7)]) (st2 := [.int x4, .int (m.I 116 (Int32.toNatClampNeg x7)), .ref 67]) (h2 := (sh_rep m.T m.I (sh_u2 m.J 66 46 (m.J 115 (Int32.toNatClampNeg x7))))) rfl rfl rfl ?_
        refine sh_w (i := (.iload 5)) (len := 2) (pc2 := 134) (lv2 := [(0, .ref 67), (1, .int x1), (2, .int x2), (4, .int x4), (5, .int x5), (6, .int x6), (7, .int x7)]) (st2 := [.int x5, .int x4, .int (m.I 116 (Int32.toNatClampNeg x7)), .ref 67]) (h2 := (sh_rep m.T m.I (sh_u2 m.J 66 46 (m.J 115 (Int32.toNatClampNeg x7))))) rfl rfl rfl ?_
        refine sh_w (i := (.iload 6)) (len := 2) (pc2 := 136) (lv2 := [(0, .ref 67), (1, .int x1), (2, .int x2), (4, .int x4), (5, .int x5), (6, .int x6), (7, .int x7)]) (st2 := [.int x6, .int x5, .int x4, .int (m.I 116 (Int32.toNatClampNeg x7)), .ref 67]) (h2 := (sh_rep m.T m.I (sh_u2 m.J 66 46 (m.J 115 (Int32.toNatClampNeg x7))))) rfl rfl rfl ?_
        exact kk
      obtain ⟨r1, m11, e1, e⟩ := sh_bn_e e
      refine sh_Lk_cV (r := (some (.int (sh_b2 r1)))) (st2 := [.int (sh_b2 r1)]) (pc2 := 139) (k2 := 299) (a := 66) (as := [.ref 67, .int (m.I 116 (Int32.toNatClampNeg x7)), .int x4, .int x5, .int x6]) (rest := []) rfl rfl rfl (fun hT => (sh_s66 hT.st)) rfl rfl ⟨Nat.le_of_ble_eq_true rfl, Nat.le_of_ble_eq_true rfl⟩ (sl_299 e1 ⟨rfl, rfl⟩) rfl rfl (Nat.le_of_ble_eq_true rfl) (Nat.le_of_ble_eq_true rfl) ?_
      rcases sh_ite e with ⟨c, e⟩ | ⟨c, e⟩
      · refine sh_Lk_lift (T := m11.T) (I := m11.I) (J := m11.J) (s := m11.s) (pc2 := 152) (lv2 := [(0, .ref 67), (1, .int x1), (2, .int x2), (4, .int x4), (5, .int x5), (6, .int x6), (7, .int x7)]) (st2 := [.int x4, .int x7, .ref 113]) (I2 := m11.I) (J2 := m11.J) (fun hT v kk => ?_) ?_
        · refine sh_j0 (c := .ne) (off := (5)) (pc2 := 144) true rfl (sh_Znet c) rfl ?_
          refine sh_w (i := (.aload_n 0)) (len := 1) (pc2 := 145) (lv2 := [(0, .ref 67), (1, .int x1), (2, .int x2), (4, .int x4), (5, .int x5), (6, .int x6), (7, .int x7)]) (st2 := [.ref 67]) (h2 := (sh_rep m11.T m11.I m11.J)) rfl rfl rfl ?_
          refine sh_gR1 (len := 3) (x := .ref 113) (pc2 := 148) rfl rfl (sh_s66 hT.st) rfl rfl ?_
          refine sh_w (i := (.iload 7)) (len := 2) (pc2 := 150) (lv2 := [(0, .ref 67), (1, .int x1), (2, .int x2), (4, .int x4), (5, .int x5), (6, .int x6), (7, .int x7)]) (st2 := [.int x7, .ref 113]) (h2 := (sh_rep m11.T m11.I m11.J)) rfl rfl rfl ?_
          refine sh_w (i := (.iload 4)) (len := 2) (pc2 := 152) (lv2 := [(0, .ref 67), (1, .int x1), (2, .int x2), (4, .int x4), (5, .int x5), (6, .int x6), (7, .int x7)]) (st2 := [.int x4, .int x7, .ref 113]) (h2 := (sh_rep m11.T m11.I m11.J)) rfl rfl rfl ?_
          exact kk
        obtain ⟨c, e⟩ := sh_gd e
        refine sh_Lk_lift (T := m11.T) (I := m11.I) (J := m11.J) (s := m11.s) (pc2 := 161) (lv2 := [(0, .ref 67), (1, .int x1), (2, .int x2), (4, .int x4), (5, .int x5), (6, .int x6), (7, .int x7)]) (st2 := [.int x5, .int x7, .ref 114]) (I2 := sh_u2 m11.I 112 (Int32.toNatClampNeg x7) x4) (J2 := m11.J) (fun hT v kk => ?_) ?_
        · refine sh_is1 (x := x4) (i := x7) (pc2 := 153) rfl (sh_s112 hT.st) (sh_okb1 c) (sh_okb2 c) rfl ?_
          refine sh_w (i := (.aload_n 0)) (len := 1) (pc2 := 154) (lv2 := [(0, .ref 67), (1, .int x1), (2, .int x2), (4, .int x4), (5, .int x5), (6, .int x6), (7, .int x7)]) (st2 := [.ref 67]) (h2 := (sh_rep m11.T (sh_u2 m11.I 112 (Int32.toNatClampNeg x7) x4) m11.J)) rfl rfl rfl ?_
          refine sh_gR1 (len := 3) (x := .ref 114) (pc2 := 157) rfl rfl (sh_s66 hT.st) rfl rfl ?_
          refine sh_w (i := (.iload 7)) (len := 2) (pc2 := 159) (lv2 := [(0, .ref 67), (1, .int x1), (2, .int x2), (4, .int x4), (5, .int x5), (6, .int x6), (7, .int x7)]) (st2 := [.int x7, .ref 114]) (h2 := (sh_rep m11.T (sh_u2 m11.I 112 (Int32.toNatClampNeg x7) x4) m11.J)) rfl rfl rfl ?_
          refine sh_w (i := (.iload 5)) (len := 2) (pc2 := 161) (lv2 := [(0, .ref 67), (1, .int x1), (2, .int x2), (4, .int x4), (5, .int x5), (6, .int x6), (7, .int x7)]) (st2 := [.int x5, .int x7, .ref 114]) (h2 := (sh_rep m11.T (sh_u2 m11.I 112 (Int32.toNatClampNeg x7) x4) m11.J)) rfl rfl rfl ?_
          exact kk
        obtain ⟨c, e⟩ := sh_gd e
        refine sh_Lk_lift (T := m11.T) (I := sh_u2 m11.I 112 (Int32.toNatClampNeg x7) x4) (J := m11.J) (s := m11.s) (pc2 := 162) (lv2 := [(0, .ref 67), (1, .int x1), (2, .int x2), (4, .int x4), (5, .int x5), (6, .int x6), (7, .int x7)]) (st2 := []) (I2 := sh_u2 (sh_u2 m11.I 112 (Int32.toNatClampNeg x7) x4) 113 (Int32.toNatClampNeg x7) x5) (J2 := m11.J) (fun hT v kk => ?_) ?_
        · refine sh_is1 (x := x5) (i := x7) (pc2 := 162) rfl (sh_s113 hT.st) (sh_okb1 c) (sh_okb2 c) rfl ?_
          exact kk
        exact sh_Lk_sub (sh_sub_c rfl (sh_sub_c rfl (sh_sub_c rfl (sh_sub_c rfl (sh_sub_c rfl (sh_sub_c rfl (sh_sub_c rfl (sh_sub_n)))))))) (sl_312_162 e tg)
      · refine sh_Lk_lift (T := m11.T) (I := m11.I) (J := m11.J) (s := m11.s) (pc2 := 143) (lv2 := [(0, .ref 67), (1, .int x1), (2, .int x2), (4, .int x4), (5, .int x5), (6, .int x6), (7, .int x7)]) (st2 := [.int 0]) (I2 := m11.I) (J2 := m11.J) (fun hT v kk => ?_) ?_
        · refine sh_j0 (c := .ne) (off := (5)) (pc2 := 142) false rfl (sh_Znef c) rfl ?_
          refine sh_w (i := (.iconst 0)) (len := 1) (pc2 := 143) (lv2 := [(0, .ref 67), (1, .int x1), (2, .int x2), (4, .int x4), (5, .int x5), (6, .int x6), (7, .int x7)]) (st2 := [.int 0]) (h2 := (sh_rep m11.T m11.I m11.J)) rfl rfl rfl ?_
          exact kk
        obtain rfl := Option.some.inj e
        obtain ⟨rfl, rfl⟩ := tg
        exact sh_Lk_ret (i := .ireturn) rfl rfl rfl (Nat.le_of_ble_eq_true rfl) (Nat.le_of_ble_eq_true rfl)
    · refine sh_Lk_lift (T := m.T) (I := m.I) (J := m.J) (s := m.s) (pc2 := 162) (lv2 := [(0, .ref 67), (1, .int x1), (2, .int x2), (4, .int x4), (5, .int x5), (6, .int x6), (7, .int x7)]) (st2 := []) (I2 := m.I) (J2 := m.J) (fun hT v kk => ?_) ?_
      · refine sh_jc (c := .eq) (off := (6)) (pc2 := 108) false rfl (sh_Beqf c) rfl ?_
        refine sh_w (i := (.goto 54)) (len := 3) (pc2 := 162) (lv2 := [(0, .ref 67), (1, .int x1), (2, .int x2), (4, .int x4), (5, .int x5), (6, .int x6), (7, .int x7)]) (st2 := []) (h2 := (sh_rep m.T m.I m.J)) rfl rfl rfl ?_
        exact kk
      exact sh_Lk_sub (sh_sub_c rfl (sh_sub_c rfl (sh_sub_c rfl (sh_sub_c rfl (sh_sub_c rfl (sh_sub_c rfl (sh_sub_c rfl (sh_sub_n)))))))) (sl_312_162 e tg)
  · refine sh_Lk_lift (T := m.T) (I := m.I) (J := m.J) (s := m.s) (pc2 := 171) (lv2 := [(7, .int x2), (0, .ref 67), (1, .int x1), (2, .int x2), (4, .int x4), (5, .int x5), (6, .int x6)]) (st2 := []) (I2 := m.I) (J2 := m.J) (fun hT v kk => ?_) ?_
    · refine sh_jc (c := .ge) (off := (74)) (pc2 := 168) true rfl (sh_Bget c) rfl ?_
      refine sh_w (i := (.iload_n 2)) (len := 1) (pc2 := 169) (lv2 := [(0, .ref 67), (1, .int x1), (2, .int x2), (4, .int x4), (5, .int x5), (6, .int x6), (7, .int x7)]) (st2 := [.int x2]) (h2 := (sh_rep m.T m.I m.J)) rfl rfl rfl ?_
      refine sh_w (i := (.istore 7)) (len := 2) (pc2 := 171) (lv2 := [(7, .int x2), (0, .ref 67), (1, .int x1), (2, .int x2), (4, .int x4), (5, .int x5), (6, .int x6)]) (st2 := []) (h2 := (sh_rep m.T m.I m.J)) rfl rfl rfl ?_
      exact kk
    obtain ⟨_, eu, rfl⟩ := sh_up_e e
    exact sh_Lk_sub (sh_sub_c rfl (sh_sub_c rfl (sh_sub_c rfl (sh_sub_c rfl (sh_sub_c rfl (sh_sub_c rfl (sh_sub_n))))))) (sl_312_171 eu tg)
theorem sl_312_88 {x1 : Int32} {x2 : Int32} {x4 : Int32} {x5 : Int32} {x6 : Int32} {x7 : Int32} {m m2 : sh_X} {o : Outcome} {z : (Bool × sh_X)} (e : sf_312_88 x1 x2 x4 x5 x6 x7 m = some z) (tg : (sh_tZ o m2) z) : sh_Lk 312 88 [(0, .ref 67), (1, .int x1), (2, .int x2), (4, .int x4), (5, .int x5), (6, .int x6), (7, .int x7)] [] m o m2 11 268 := by
  unfold sf_312_88 at e
  exact sh_while_lk (P := fun q => sh_Lk 312 88 [(0, .ref 67), (1, .int x1), (2, .int x2), (4, .int x4), (5, .int x5), (6, .int x6), (7, .int q.1)] [] q.2 o m2 11 268) (Q := (sh_tZ o m2)) (fun q z e tg => sl_312_88s (x1 := x1) (x2 := x2) (x4 := x4) (x5 := x5) (x6 := x6) (x7 := q.1) (m := q.2) e tg) (s := (x7, m)) e tg
theorem sl_312_83 {x1 : Int32} {x2 : Int32} {x4 : Int32} {x5 : Int32} {y0 : Int32} {m m2 : sh_X} {o : Outcome} {z : (Bool × sh_X)} (e : sf_312_83 x1 x2 x4 x5 y0 m = some z) (tg : (sh_tZ o m2) z) : sh_Lk 312 83 [(0, .ref 67), (1, .int x1), (2, .int x2), (4, .int x4), (5, .int x5)] [.int y0] m o m2 11 268 := by
  unfold sf_312_83 at e
  refine sh_Lk_lift (T := m.T) (I := m.I) (J := m.J) (s := m.s) (pc2 := 88) (lv2 := [(7, .int x2), (6, .int y0), (0, .ref 67), (1, .int x1), (2, .int x2), (4, .int x4), (5, .int x5)]) (st2 := []) (I2 := m.I) (J2 := m.J) (fun hT v kk => ?_) ?_
  · refine sh_w (i := (.istore 6)) (len := 2) (pc2 := 85) (lv2 := [(6, .int y0), (0, .ref 67), (1, .int x1), (2, .int x2), (4, .int x4), (5, .int x5)]) (st2 := []) (h2 := (sh_rep m.T m.I m.J)) rfl rfl rfl ?_
    refine sh_w (i := (.iload_n 2)) (len := 1) (pc2 := 86) (lv2 := [(6, .int y0), (0, .ref 67), (1, .int x1), (2, .int x2), (4, .int x4), (5, .int x5)]) (st2 := [.int x2]) (h2 := (sh_rep m.T m.I m.J)) rfl rfl rfl ?_
    refine sh_w (i := (.istore 7)) (len := 2) (pc2 := 88) (lv2 := [(7, .int x2), (6, .int y0), (0, .ref 67), (1, .int x1), (2, .int x2), (4, .int x4), (5, .int x5)]) (st2 := []) (h2 := (sh_rep m.T m.I m.J)) rfl rfl rfl ?_
    exact kk
  exact sh_Lk_sub (sh_sub_c rfl (sh_sub_c rfl (sh_sub_c rfl (sh_sub_c rfl (sh_sub_c rfl (sh_sub_c rfl (sh_sub_c rfl (sh_sub_n)))))))) (sl_312_88 e tg)
theorem sl_312_67 {x1 : Int32} {x2 : Int32} {x3 : Int32} {x4 : Int32} {y0 : Int32} {m m2 : sh_X} {o : Outcome} {z : (Bool × sh_X)} (e : sf_312_67 x1 x2 x3 x4 y0 m = some z) (tg : (sh_tZ o m2) z) : sh_Lk 312 67 [(0, .ref 67), (1, .int x1), (2, .int x2), (3, .int x3), (4, .int x4)] [.int y0] m o m2 11 268 := by
  unfold sf_312_67 at e
  refine sh_Lk_lift (T := m.T) (I := m.I) (J := m.J) (s := m.s) (pc2 := 70) (lv2 := [(5, .int y0), (0, .ref 67), (1, .int x1), (2, .int x2), (3, .int x3), (4, .int x4)]) (st2 := [.int x3]) (I2 := m.I) (J2 := m.J) (fun hT v kk => ?_) ?_
  · refine sh_w (i := (.istore 5)) (len := 2) (pc2 := 69) (lv2 := [(5, .int y0), (0, .ref 67), (1, .int x1), (2, .int x2), (3, .int x3), (4, .int x4)]) (st2 := []) (h2 := (sh_rep m.T m.I m.J)) rfl rfl rfl ?_
    refine sh_w (i := (.iload_n 3)) (len := 1) (pc2 := 70) (lv2 := [(5, .int y0), (0, .ref 67), (1, .int x1), (2, .int x2), (3, .int x3), (4, .int x4)]) (st2 := [.int x3]) (h2 := (sh_rep m.T m.I m.J)) rfl rfl rfl ?_
    exact kk
  rcases sh_ite e with ⟨c, e⟩ | ⟨c, e⟩
  · refine sh_Lk_lift (T := m.T) (I := m.I) (J := m.J) (s := m.s) (pc2 := 83) (lv2 := [(5, .int y0), (0, .ref 67), (1, .int x1), (2, .int x2), (3, .int x3), (4, .int x4)]) (st2 := [.int 0]) (I2 := m.I) (J2 := m.J) (fun hT v kk => ?_) ?_
    · refine sh_j0 (c := .ge) (off := (7)) (pc2 := 73) false rfl (sh_Bgef c) rfl ?_
      refine sh_w (i := (.iconst 0)) (len := 1) (pc2 := 74) (lv2 := [(5, .int y0), (0, .ref 67), (1, .int x1), (2, .int x2), (3, .int x3), (4, .int x4)]) (st2 := [.int 0]) (h2 := (sh_rep m.T m.I m.J)) rfl rfl rfl ?_
      refine sh_w (i := (.goto 9)) (len := 3) (pc2 := 83) (lv2 := [(5, .int y0), (0, .ref 67), (1, .int x1), (2, .int x2), (3, .int x3), (4, .int x4)]) (st2 := [.int 0]) (h2 := (sh_rep m.T m.I m.J)) rfl rfl rfl ?_
      exact kk
    exact sh_Lk_sub (sh_sub_c rfl (sh_sub_c rfl (sh_sub_c rfl (sh_sub_c rfl (sh_sub_c rfl (sh_sub_n)))))) (sl_312_83 e tg)
  · refine sh_Lk_lift (T := m.T) (I := m.I) (J := m.J) (s := m.s) (pc2 := 82) (lv2 := [(5, .int y0), (0, .ref 67), (1, .int x1), (2, .int x2), (3, .int x3), (4, .int x4)]) (st2 := [.int x3, .ref 115]) (I2 := m.I) (J2 := m.J) (fun hT v kk => ?_) ?_
    · refine sh_j0 (c := .ge) (off := (7)) (pc2 := 77) true rfl (sh_Bget c) rfl ?_
      refine sh_w (i := (.aload_n 0)) (len := 1) (pc2 := 78) (lv2 := [(5, .int y0), (0, .ref 67), (1, .int x1), (2, .int x2), (3, .int x3), (4, .int x4)]) (st2 := [.ref 67]) (h2 := (sh_rep m.T m.I m.J)) rfl rfl rfl ?_
      refine sh_gR1 (len := 3) (x := .ref 115) (pc2 := 81) rfl rfl (sh_s66 hT.st) rfl rfl ?_
      refine sh_w (i := (.iload_n 3)) (len := 1) (pc2 := 82) (lv2 := [(5, .int y0), (0, .ref 67), (1, .int x1), (2, .int x2), (3, .int x3), (4, .int x4)]) (st2 := [.int x3, .ref 115]) (h2 := (sh_rep m.T m.I m.J)) rfl rfl rfl ?_
      exact kk
    obtain ⟨c, e⟩ := sh_gd e
    refine sh_Lk_lift (T := m.T) (I := m.I) (J := m.J) (s := m.s) (pc2 := 83) (lv2 := [(5, .int y0), (0, .ref 67), (1, .int x1), (2, .int x2), (3, .int x3), (4, .int x4)]) (st2 := [.int (m.I 114 (Int32.toNatClampNeg x3))]) (I2 := m.I) (J2 := m.J) (fun hT v kk => ?_) ?_
    · refine sh_ia1 (x := m.I 114 (Int32.toNatClampNeg x3)) (pc2 := 83) rfl (sh_s114 hT.st) (sh_okb1 c) (sh_okb2 c) rfl rfl ?_
      exact kk
    exact sh_Lk_sub (sh_sub_c rfl (sh_sub_c rfl (sh_sub_c rfl (sh_sub_c rfl (sh_sub_c rfl (sh_sub_n)))))) (sl_312_83 e tg)
theorem sl_312_50 {x1 : Int32} {x2 : Int32} {x3 : Int32} {y0 : Int32} {m m2 : sh_X} {o : Outcome} {z : (Bool × sh_X)} (e : sf_312_50 x1 x2 x3 y0 m = some z) (tg : (sh_tZ o m2) z) : sh_Lk 312 50 [(0, .ref 67), (1, .int x1), (2, .int x2), (3, .int x3)] [.int y0] m o m2 11 268 := by
  unfold sf_312_50 at e
  refine sh_Lk_lift (T := m.T) (I := m.I) (J := m.J) (s := m.s) (pc2 := 53) (lv2 := [(4, .int y0), (0, .ref 67), (1, .int x1), (2, .int x2), (3, .int x3)]) (st2 := [.int x3]) (I2 := m.I) (J2 := m.J) (fun hT v kk => ?_) ?_
  · refine sh_w (i := (.istore 4)) (len := 2) (pc2 := 52) (lv2 := [(4, .int y0), (0, .ref 67), (1, .int x1), (2, .int x2), (3, .int x3)]) (st2 := []) (h2 := (sh_rep m.T m.I m.J)) rfl rfl rfl ?_
    refine sh_w (i := (.iload_n 3)) (len := 1) (pc2 := 53) (lv2 := [(4, .int y0), (0, .ref 67), (1, .int x1), (2, .int x2), (3, .int x3)]) (st2 := [.int x3]) (h2 := (sh_rep m.T m.I m.J)) rfl rfl rfl ?_
    exact kk
  rcases sh_ite e with ⟨c, e⟩ | ⟨c, e⟩
  · refine sh_Lk_lift (T := m.T) (I := m.I) (J := m.J) (s := m.s) (pc2 := 67) (lv2 := [(4, .int y0), (0, .ref 67), (1, .int x1), (2, .int x2), (3, .int x3)]) (st2 := [.int 32]) (I2 := m.I) (J2 := m.J) (fun hT v kk => ?_) ?_
    · refine sh_j0 (c := .ge) (off := (8)) (pc2 := 56) false rfl (sh_Bgef c) rfl ?_
      refine sh_w (i := (.bipush 32)) (len := 2) (pc2 := 58) (lv2 := [(4, .int y0), (0, .ref 67), (1, .int x1), (2, .int x2), (3, .int x3)]) (st2 := [.int 32]) (h2 := (sh_rep m.T m.I m.J)) rfl rfl rfl ?_
      refine sh_w (i := (.goto 9)) (len := 3) (pc2 := 67) (lv2 := [(4, .int y0), (0, .ref 67), (1, .int x1), (2, .int x2), (3, .int x3)]) (st2 := [.int 32]) (h2 := (sh_rep m.T m.I m.J)) rfl rfl rfl ?_
      exact kk
    exact sh_Lk_sub (sh_sub_c rfl (sh_sub_c rfl (sh_sub_c rfl (sh_sub_c rfl (sh_sub_c rfl (sh_sub_n)))))) (sl_312_67 e tg)
  · refine sh_Lk_lift (T := m.T) (I := m.I) (J := m.J) (s := m.s) (pc2 := 66) (lv2 := [(4, .int y0), (0, .ref 67), (1, .int x1), (2, .int x2), (3, .int x3)]) (st2 := [.int x3, .ref 114]) (I2 := m.I) (J2 := m.J) (fun hT v kk => ?_) ?_
    · refine sh_j0 (c := .ge) (off := (8)) (pc2 := 61) true rfl (sh_Bget c) rfl ?_
      refine sh_w (i := (.aload_n 0)) (len := 1) (pc2 := 62) (lv2 := [(4, .int y0), (0, .ref 67), (1, .int x1), (2, .int x2), (3, .int x3)]) (st2 := [.ref 67]) (h2 := (sh_rep m.T m.I m.J)) rfl rfl rfl ?_
      refine sh_gR1 (len := 3) (x := .ref 114) (pc2 := 65) rfl rfl (sh_s66 hT.st) rfl rfl ?_
      refine sh_w (i := (.iload_n 3)) (len := 1) (pc2 := 66) (lv2 := [(4, .int y0), (0, .ref 67), (1, .int x1), (2, .int x2), (3, .int x3)]) (st2 := [.int x3, .ref 114]) (h2 := (sh_rep m.T m.I m.J)) rfl rfl rfl ?_
      exact kk
    obtain ⟨c, e⟩ := sh_gd e
    refine sh_Lk_lift (T := m.T) (I := m.I) (J := m.J) (s := m.s) (pc2 := 67) (lv2 := [(4, .int y0), (0, .ref 67), (1, .int x1), (2, .int x2), (3, .int x3)]) (st2 := [.int (m.I 113 (Int32.toNatClampNeg x3))]) (I2 := m.I) (J2 := m.J) (fun hT v kk => ?_) ?_
    · refine sh_ia1 (x := m.I 113 (Int32.toNatClampNeg x3)) (pc2 := 67) rfl (sh_s113 hT.st) (sh_okb1 c) (sh_okb2 c) rfl rfl ?_
      exact kk
    exact sh_Lk_sub (sh_sub_c rfl (sh_sub_c rfl (sh_sub_c rfl (sh_sub_c rfl (sh_sub_c rfl (sh_sub_n)))))) (sl_312_67 e tg)
theorem sl_312_10s {x1 : Int32} {x2 : Int32} {x3 : Int32} {x4 : Int32} {m m2 : sh_X} {o : Outcome} {z : ((Int32 × Int32 × sh_X) ⊕ (Bool × sh_X))} (e : sf_312_10s x1 x2 x3 x4 m = some z) (tg : (sh_el (fun q => sh_Lk 312 10 [(0, .ref 67), (1, .int x1), (2, .int x2), (3, .int q.1), (4, .int q.2.1)] [] q.2.2 o m2 11 268) (sh_tZ o m2)) z) : sh_Lk 312 10 [(0, .ref 67), (1, .int x1), (2, .int x2), (3, .int x3), (4, .int x4)] [] m o m2 11 268 := by
  unfold sf_312_10s at e
  refine sh_Lk_lift (T := m.T) (I := m.I) (J := m.J) (s := m.s) (pc2 := 13) (lv2 := [(0, .ref 67), (1, .int x1), (2, .int x2), (3, .int x3), (4, .int x4)]) (st2 := [.int x2, .int x4]) (I2 := m.I) (J2 := m.J) (fun hT v kk => ?_) ?_
  · refine sh_w (i := (.iload 4)) (len := 2) (pc2 := 12) (lv2 := [(0, .ref 67), (1, .int x1), (2, .int x2), (3, .int x3), (4, .int x4)]) (st2 := [.int x4]) (h2 := (sh_rep m.T m.I m.J)) rfl rfl rfl ?_
    refine sh_w (i := (.iload_n 2)) (len := 1) (pc2 := 13) (lv2 := [(0, .ref 67), (1, .int x1), (2, .int x2), (3, .int x3), (4, .int x4)]) (st2 := [.int x2, .int x4]) (h2 := (sh_rep m.T m.I m.J)) rfl rfl rfl ?_
    exact kk
  rcases sh_ite e with ⟨c, e⟩ | ⟨c, e⟩
  · refine sh_Lk_lift (T := m.T) (I := m.I) (J := m.J) (s := m.s) (pc2 := 37) (lv2 := [(0, .ref 67), (1, .int x1), (2, .int x2), (3, .int x3), (4, .int x4)]) (st2 := [.int x3]) (I2 := m.I) (J2 := m.J) (fun hT v kk => ?_) ?_
    · refine sh_jc (c := .lt) (off := (23)) (pc2 := 36) true rfl (sh_Bltt c) rfl ?_
      refine sh_w (i := (.iload_n 3)) (len := 1) (pc2 := 37) (lv2 := [(0, .ref 67), (1, .int x1), (2, .int x2), (3, .int x3), (4, .int x4)]) (st2 := [.int x3]) (h2 := (sh_rep m.T m.I m.J)) rfl rfl rfl ?_
      exact kk
    rcases sh_ite e with ⟨c, e⟩ | ⟨c, e⟩
    · refine sh_Lk_lift (T := m.T) (I := m.I) (J := m.J) (s := m.s) (pc2 := 50) (lv2 := [(0, .ref 67), (1, .int x1), (2, .int x2), (3, .int x3), (4, .int x4)]) (st2 := [.int 2]) (I2 := m.I) (J2 := m.J) (fun hT v kk => ?_) ?_
      · refine sh_j0 (c := .ge) (off := (7)) (pc2 := 40) false rfl (sh_Bgef c) rfl ?_
        refine sh_w (i := (.iconst 2)) (len := 1) (pc2 := 41) (lv2 := [(0, .ref 67), (1, .int x1), (2, .int x2), (3, .int x3), (4, .int x4)]) (st2 := [.int 2]) (h2 := (sh_rep m.T m.I m.J)) rfl rfl rfl ?_
        refine sh_w (i := (.goto 9)) (len := 3) (pc2 := 50) (lv2 := [(0, .ref 67), (1, .int x1), (2, .int x2), (3, .int x3), (4, .int x4)]) (st2 := [.int 2]) (h2 := (sh_rep m.T m.I m.J)) rfl rfl rfl ?_
        exact kk
      obtain ⟨_, eu, rfl⟩ := sh_up_e e
      exact sh_Lk_sub (sh_sub_c rfl (sh_sub_c rfl (sh_sub_c rfl (sh_sub_c rfl (sh_sub_n))))) (sl_312_50 eu tg)
    · refine sh_Lk_lift (T := m.T) (I := m.I) (J := m.J) (s := m.s) (pc2 := 49) (lv2 := [(0, .ref 67), (1, .int x1), (2, .int x2), (3, .int x3), (4, .int x4)]) (st2 := [.int x3, .ref 113]) (I2 := m.I) (J2 := m.J) (fun hT v kk => ?_) ?_
      · refine sh_j0 (c := .ge) (off := (7)) (pc2 := 44) true rfl (sh_Bget c) rfl ?_
        refine sh_w (i := (.aload_n 0)) (len := 1) (pc2 := 45) (lv2 := [(0, .ref 67), (1, .int x1), (2, .int x2), (3, .int x3), (4, .int x4)]) (st2 := [.ref 67]) (h2 := (sh_rep m.T m.I m.J)) rfl rfl rfl ?_
        refine sh_gR1 (len := 3) (x := .ref 113) (pc2 := 48) rfl rfl (sh_s66 hT.st) rfl rfl ?_
        refine sh_w (i := (.iload_n 3)) (len := 1) (pc2 := 49) (lv2 := [(0, .ref 67), (1, .int x1), (2, .int x2), (3, .int x3), (4, .int x4)]) (st2 := [.int x3, .ref 113]) (h2 := (sh_rep m.T m.I m.J)) rfl rfl rfl ?_
        exact kk
      obtain ⟨c, e⟩ := sh_gd e
      refine sh_Lk_lift (T := m.T) (I := m.I) (J := m.J) (s := m.s) (pc2 := 50) (lv2 := [(0, .ref 67), (1, .int x1), (2, .int x2), (3, .int x3), (4, .int x4)]) (st2 := [.int (m.I 112 (Int32.toNatClampNeg x3))]) (I2 := m.I) (J2 := m.J) (fun hT v kk => ?_) ?_
      · refine sh_ia1 (x := m.I 112 (Int32.toNatClampNeg x3)) (pc2 := 50) rfl (sh_s112 hT.st) (sh_okb1 c) (sh_okb2 c) rfl rfl ?_
        exact kk
      obtain ⟨_, eu, rfl⟩ := sh_up_e e
      exact sh_Lk_sub (sh_sub_c rfl (sh_sub_c rfl (sh_sub_c rfl (sh_sub_c rfl (sh_sub_n))))) (sl_312_50 eu tg)
  · refine sh_Lk_lift (T := m.T) (I := m.I) (J := m.J) (s := m.s) (pc2 := 22) (lv2 := [(0, .ref 67), (1, .int x1), (2, .int x2), (3, .int x3), (4, .int x4)]) (st2 := [.int x4, .ref 113]) (I2 := m.I) (J2 := m.J) (fun hT v kk => ?_) ?_
    · refine sh_jc (c := .lt) (off := (23)) (pc2 := 16) false rfl (sh_Bltf c) rfl ?_
      refine sh_w (i := (.aload_n 0)) (len := 1) (pc2 := 17) (lv2 := [(0, .ref 67), (1, .int x1), (2, .int x2), (3, .int x3), (4, .int x4)]) (st2 := [.ref 67]) (h2 := (sh_rep m.T m.I m.J)) rfl rfl rfl ?_
      refine sh_gR1 (len := 3) (x := .ref 113) (pc2 := 20) rfl rfl (sh_s66 hT.st) rfl rfl ?_
      refine sh_w (i := (.iload 4)) (len := 2) (pc2 := 22) (lv2 := [(0, .ref 67), (1, .int x1), (2, .int x2), (3, .int x3), (4, .int x4)]) (st2 := [.int x4, .ref 113]) (h2 := (sh_rep m.T m.I m.J)) rfl rfl rfl ?_
      exact kk
    obtain ⟨c, e⟩ := sh_gd e
    refine sh_Lk_lift (T := m.T) (I := m.I) (J := m.J) (s := m.s) (pc2 := 24) (lv2 := [(0, .ref 67), (1, .int x1), (2, .int x2), (3, .int x3), (4, .int x4)]) (st2 := [.int 3, .int (m.I 112 (Int32.toNatClampNeg x4))]) (I2 := m.I) (J2 := m.J) (fun hT v kk => ?_) ?_
    · refine sh_ia1 (x := m.I 112 (Int32.toNatClampNeg x4)) (pc2 := 23) rfl (sh_s112 hT.st) (sh_okb1 c) (sh_okb2 c) rfl rfl ?_
      refine sh_w (i := (.iconst 3)) (len := 1) (pc2 := 24) (lv2 := [(0, .ref 67), (1, .int x1), (2, .int x2), (3, .int x3), (4, .int x4)]) (st2 := [.int 3, .int (m.I 112 (Int32.toNatClampNeg x4))]) (h2 := (sh_rep m.T m.I m.J)) rfl rfl rfl ?_
      exact kk
    rcases sh_ite e with ⟨c, e⟩ | ⟨c, e⟩
    · refine sh_Lk_lift (T := m.T) (I := m.I) (J := m.J) (s := m.s) (pc2 := 30) (lv2 := [(0, .ref 67), (1, .int x1), (2, .int x2), (3, .int x3), (4, .int x4)]) (st2 := []) (I2 := m.I) (J2 := m.J) (fun hT v kk => ?_) ?_
      · refine sh_jc (c := .eq) (off := (6)) (pc2 := 30) true rfl (sh_Beqt c) rfl ?_
        exact kk
      exact sh_Lk_sub (sh_sub_c rfl (sh_sub_c rfl (sh_sub_c rfl (sh_sub_c rfl (sh_sub_c rfl (sh_sub_n)))))) (sl_312_30 e tg)
    · refine sh_Lk_lift (T := m.T) (I := m.I) (J := m.J) (s := m.s) (pc2 := 30) (lv2 := [(3, .int x4), (0, .ref 67), (1, .int x1), (2, .int x2), (4, .int x4)]) (st2 := []) (I2 := m.I) (J2 := m.J) (fun hT v kk => ?_) ?_
      · refine sh_jc (c := .eq) (off := (6)) (pc2 := 27) false rfl (sh_Beqf c) rfl ?_
        refine sh_w (i := (.iload 4)) (len := 2) (pc2 := 29) (lv2 := [(0, .ref 67), (1, .int x1), (2, .int x2), (3, .int x3), (4, .int x4)]) (st2 := [.int x4]) (h2 := (sh_rep m.T m.I m.J)) rfl rfl rfl ?_
        refine sh_w (i := (.istore_n 3)) (len := 1) (pc2 := 30) (lv2 := [(3, .int x4), (0, .ref 67), (1, .int x1), (2, .int x2), (4, .int x4)]) (st2 := []) (h2 := (sh_rep m.T m.I m.J)) rfl rfl rfl ?_
        exact kk
      exact sh_Lk_sub (sh_sub_c rfl (sh_sub_c rfl (sh_sub_c rfl (sh_sub_c rfl (sh_sub_c rfl (sh_sub_n)))))) (sl_312_30 e tg)
theorem sl_312_10 {x1 : Int32} {x2 : Int32} {x3 : Int32} {x4 : Int32} {m m2 : sh_X} {o : Outcome} {z : (Bool × sh_X)} (e : sf_312_10 x1 x2 x3 x4 m = some z) (tg : (sh_tZ o m2) z) : sh_Lk 312 10 [(0, .ref 67), (1, .int x1), (2, .int x2), (3, .int x3), (4, .int x4)] [] m o m2 11 268 := by
  unfold sf_312_10 at e
  exact sh_while_lk (P := fun q => sh_Lk 312 10 [(0, .ref 67), (1, .int x1), (2, .int x2), (3, .int q.1), (4, .int q.2.1)] [] q.2.2 o m2 11 268) (Q := (sh_tZ o m2)) (fun q z e tg => sl_312_10s (x1 := x1) (x2 := x2) (x3 := q.1) (x4 := q.2.1) (m := q.2.2) e tg) (s := (x3, x4, m)) e tg
theorem sl_312 {x1 : Int32} {x2 : Int32} {m m2 : sh_X} {o : Outcome} {z : (Bool × sh_X)} (e : sf_312 x1 x2 m = some z) (tg : (sh_tZ o m2) z) : sh_Lk 312 0 [(0, .ref 67), (1, .int x1), (2, .int x2)] [] m o m2 11 268 := by
  unfold sf_312 at e
  refine sh_Lk_lift (T := m.T) (I := m.I) (J := m.J) (s := m.s) (pc2 := 10) (lv2 := [(4, .int ((m.I 66 79) - 1)), (3, .int (-1)), (0, .ref 67), (1, .int x1), (2, .int x2)]) (st2 := []) (I2 := m.I) (J2 := m.J) (fun hT v kk => ?_) ?_
  · refine sh_w (i := (.iconst (-1))) (len := 1) (pc2 := 1) (lv2 := [(0, .ref 67), (1, .int x1), (2, .int x2)]) (st2 := [.int (-1)]) (h2 := (sh_rep m.T m.I m.J)) rfl rfl rfl ?_
    refine sh_w (i := (.istore_n 3)) (len := 1) (pc2 := 2) (lv2 := [(3, .int (-1)), (0, .ref 67), (1, .int x1), (2, .int x2)]) (st2 := []) (h2 := (sh_rep m.T m.I m.J)) rfl rfl rfl ?_
    refine sh_w (i := (.aload_n 0)) (len := 1) (pc2 := 3) (lv2 := [(3, .int (-1)), (0, .ref 67), (1, .int x1), (2, .int x2)]) (st2 := [.ref 67]) (h2 := (sh_rep m.T m.I m.J)) rfl rfl rfl ?_
    refine sh_gI1 (len := 3) (x := m.I 66 79) (pc2 := 6) rfl rfl (sh_s66 hT.st) rfl rfl rfl ?_
    refine sh_w (i := (.iconst 1)) (len := 1) (pc2 := 7) (lv2 := [(3, .int (-1)), (0, .ref 67), (1, .int x1), (2, .int x2)]) (st2 := [.int 1, .int (m.I 66 79)]) (h2 := (sh_rep m.T m.I m.J)) rfl rfl rfl ?_
    refine sh_w (i := .isub) (len := 1) (pc2 := 8) (lv2 := [(3, .int (-1)), (0, .ref 67), (1, .int x1), (2, .int x2)]) (st2 := [.int ((m.I 66 79) - 1)]) (h2 := (sh_rep m.T m.I m.J)) rfl rfl rfl ?_
    refine sh_w (i := (.istore 4)) (len := 2) (pc2 := 10) (lv2 := [(4, .int ((m.I 66 79) - 1)), (3, .int (-1)), (0, .ref 67), (1, .int x1), (2, .int x2)]) (st2 := []) (h2 := (sh_rep m.T m.I m.J)) rfl rfl rfl ?_
    exact kk
  exact sh_Lk_sub (sh_sub_c rfl (sh_sub_c rfl (sh_sub_c rfl (sh_sub_c rfl (sh_sub_c rfl (sh_sub_n)))))) (sl_312_10 e tg)
