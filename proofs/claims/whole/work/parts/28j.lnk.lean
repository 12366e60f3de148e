/-! LINKS, printed by gen27.py -/
theorem sl_303_369 {x1 : Int32} {x5 : Int64} {x7 : Int32} {x8 : Int32} {x9 : Int32} {y0 : Int32} {m m2 : sh_X} {o : Outcome} {z : (Bool × sh_X)} (e : sf_303_369 x1 x5 x7 x8 x9 y0 m = some z) (tg : (sh_tZ o m2) z) : sh_Lk 303 369 [(0, .ref 67), (1, .int x1), (5, .long x5), (7, .int x7), (8, .int x8), (9, .int x9)] [.int y0] m o m2 13 326 := by
  unfold sf_303_369 at e
  refine sh_Lk_lift (T := m.T) (I := m.I) (J := m.J) (s := m.s) (pc2 := 384) (lv2 := [(15, .int y0), (0, .ref 67), (1, .int x1), (5, .long x5), (7, .int x7), (8, .int x8), (9, .int x9)]) (st2 := [.long (m.J 66 46), .long x5, .int x9, .int x8, .int x7, .ref 67]) (I2 := m.I) (J2 := m.J) (fun hT v kk => ?_) ?_
  · refine sh_w (i := (.istore 15)) (len := 2) (pc2 := 371) (lv2 := [(15, .int y0), (0, .ref 67), (1, .int x1), (5, .long x5), (7, .int x7), (8, .int x8), (9, .int x9)]) (st2 := []) (h2 := (sh_rep m.T m.I m.J)) rfl rfl rfl ?_
    refine sh_w (i := (.aload_n 0)) (len := 1) (pc2 := 372) (lv2 := [(15, .int y0), (0, .ref 67), (1, .int x1), (5, .long x5), (7, .int x7), (8, .int x8), (9, .int x9)]) (st2 := [.ref 67]) (h2 := (sh_rep m.T m.I m.J)) rfl rfl rfl ?_
    refine sh_w (i := (.iload 7)) (len := 2) (pc2 := 374) (lv2 := [(15, .int y0), (0, .ref 67), (1, .int x1), (5, .long x5), (7, .int x7), (8, .int x8), (9, .int x9)]) (st2 := [.int x7, .ref 67]) (h2 := (sh_rep m.T m.I m.J)) rfl rfl rfl ?_
    refine sh_w (i := (.iload 8)) (len := 2) (pc2 := 376) (lv2 := [(15, .int y0), (0, .ref 67), (1, .int x1), (5, .long x5), (7, .int x7), (8, .int x8), (9, .int x9)]) (st2 := [.int x8, .int x7, .ref 67]) (h2 := (sh_rep m.T m.I m.J)) rfl rfl rfl ?_
    refine sh_w (i := (.iload 9)) (len := 2) (pc2 := 378) (lv2 := [(15, .int y0), (0, .ref 67), (1, .int x1), (5, .long x5), (7, .int x7), (8, .int x8), (9, .int x9)]) (st2 := [.int x9, .int x8, .int x7, .ref 67]) (h2 := (sh_rep m.T m.I m.J)) rfl rfl rfl ?_
    refine sh_w (i := (.lload 5)) (len := 2) (pc2 := 380) (lv2 := [(15, .int y0), (0, .ref 67), (1, .int x1), (5, .long x5), (7, .int x7), (8, .int x8), (9, .int x9)]) (st2 := [.long x5, .int x9, .int x8, .int x7, .ref 67]) (h2 := (sh_rep m.T m.I m.J)) rfl rfl rfl ?_
    refine sh_w (i := (.aload_n 0)) (len := 1) (pc2 := 381) (lv2 := [(15, .int y0), (0, .ref 67), (1, .int x1), (5, .long x5), (7, .int x7), (8, .int x8), (9, .int x9)]) (st2 := [.ref 67, .long x5, .int x9, .int x8, .int x7, .ref 67]) (h2 := (sh_rep m.T m.I m.J)) rfl rfl rfl ?_
    refine sh_gJ1 (len := 3) (x := m.J 66 46) (pc2 := 384) rfl rfl (sh_s66 hT.st) rfl rfl rfl ?_
    exact kk
  obtain ⟨r1, m11, e1, e⟩ := sh_bn_e e
  refine sh_Lk_cV (r := none) (st2 := []) (pc2 := 387) (k2 := 305) (a := 66) (as := [.ref 67, .int x7, .int x8, .int x9, .long x5, .long (m.J 66 46)]) (rest := []) rfl rfl rfl (fun hT => (sh_s66 hT.st)) rfl rfl ⟨Nat.le_of_ble_eq_true rfl, Nat.le_of_ble_eq_true rfl⟩ (sl_305 e1 ⟨rfl, rfl⟩) rfl rfl (Nat.le_of_ble_eq_true rfl) (Nat.le_of_ble_eq_true rfl) ?_
  refine sh_Lk_lift (T := m11.T) (I := m11.I) (J := m11.J) (s := m11.s) (pc2 := 395) (lv2 := [(15, .int y0), (0, .ref 67), (1, .int x1), (5, .long x5), (7, .int x7), (8, .int x8), (9, .int x9)]) (st2 := [.int x1, .ref 74, .int y0, .ref 67]) (I2 := m11.I) (J2 := m11.J) (fun hT v kk => ?_) ?_
  · refine sh_w (i := (.aload_n 0)) (len := 1) (pc2 := 388) (lv2 := [(15, .int y0), (0, .ref 67), (1, .int x1), (5, .long x5), (7, .int x7), (8, .int x8), (9, .int x9)]) (st2 := [.ref 67]) (h2 := (sh_rep m11.T m11.I m11.J)) rfl rfl rfl ?_
    refine sh_w (i := (.iload 15)) (len := 2) (pc2 := 390) (lv2 := [(15, .int y0), (0, .ref 67), (1, .int x1), (5, .long x5), (7, .int x7), (8, .int x8), (9, .int x9)]) (st2 := [.int y0, .ref 67]) (h2 := (sh_rep m11.T m11.I m11.J)) rfl rfl rfl ?_
    refine sh_w (i := (.aload_n 0)) (len := 1) (pc2 := 391) (lv2 := [(15, .int y0), (0, .ref 67), (1, .int x1), (5, .long x5), (7, .int x7), (8, .int x8), (9, .int x9)]) (st2 := [.ref 67, .int y0, .ref 67]) (h2 := (sh_rep m11.T m11.I m11.J)) rfl rfl rfl ?_
    refine sh_gR1 (len := 3) (x := .ref 74) (pc2 := 394) rfl rfl (sh_s66 hT.st) rfl rfl ?_
    refine sh_w (i := (.iload_n 1)) (len := 1) (pc2 := 395) (lv2 := [(15, .int y0), (0, .ref 67), (1, .int x1), (5, .long x5), (7, .int x7), (8, .int x8), (9, .int x9)]) (st2 := [.int x1, .ref 74, .int y0, .ref 67]) (h2 := (sh_rep m11.T m11.I m11.J)) rfl rfl rfl ?_
    exact kk
  obtain ⟨c, e⟩ := sh_gd e
  refine sh_Lk_lift (T := m11.T) (I := m11.I) (J := m11.J) (s := m11.s) (pc2 := 396) (lv2 := [(15, .int y0), (0, .ref 67), (1, .int x1), (5, .long x5), (7, .int x7), (8, .int x8), (9, .int x9)]) (st2 := [.int (m11.I 73 (Int32.toNatClampNeg x1)), .int y0, .ref 67]) (I2 := m11.I) (J2 := m11.J) (fun hT v kk => ?_) ?_
  · refine sh_ia1 (x := m11.I 73 (Int32.toNatClampNeg x1)) (pc2 := 396) rfl (sh_s73 hT.st) (sh_okb1 c) (sh_okb2 c) rfl rfl ?_
    exact kk
  obtain ⟨r2, m12, e2, e⟩ := sh_bn_e e
  refine sh_Lk_cV (r := (some (.int (sh_b2 r2)))) (st2 := [.int (sh_b2 r2)]) (pc2 := 399) (k2 := 292) (a := 66) (as := [.ref 67, .int y0, .int (m11.I 73 (Int32.toNatClampNeg x1))]) (rest := []) rfl rfl rfl (fun hT => (sh_s66 hT.st)) rfl rfl ⟨Nat.le_of_ble_eq_true rfl, Nat.le_of_ble_eq_true rfl⟩ (sl_292 e2 ⟨rfl, rfl⟩) rfl rfl (Nat.le_of_ble_eq_true rfl) (Nat.le_of_ble_eq_true rfl) ?_
  obtain rfl := Option.some.inj e
  obtain ⟨rfl, rfl⟩ := tg
  exact sh_Lk_ret (i := .ireturn) rfl rfl (sh_rb rfl _) (Nat.le_of_ble_eq_true rfl) (Nat.le_of_ble_eq_true rfl)
theorem sl_303_357 {x1 : Int32} {x5 : Int64} {x7 : Int32} {x8 : Int32} {x9 : Int32} {m m2 : sh_X} {o : Outcome} {z : (Bool × sh_X)} (e : sf_303_357 x1 x5 x7 x8 x9 m = some z) (tg : (sh_tZ o m2) z) : sh_Lk 303 357 [(0, .ref 67), (1, .int x1), (5, .long x5), (7, .int x7), (8, .int x8), (9, .int x9)] [] m o m2 13 326 := by
  unfold sf_303_357 at e
  refine sh_Lk_lift (T := m.T) (I := m.I) (J := m.J) (s := m.s) (pc2 := 369) (lv2 := [(0, .ref 67), (1, .int x1), (5, .long x5), (7, .int x7), (8, .int x8), (9, .int x9)]) (st2 := [.int ((2 * x9) * x9)]) (I2 := m.I) (J2 := m.J) (fun hT v kk => ?_) ?_
  · refine sh_w (i := (.iconst 2)) (len := 1) (pc2 := 358) (lv2 := [(0, .ref 67), (1, .int x1), (5, .long x5), (7, .int x7), (8, .int x8), (9, .int x9)]) (st2 := [.int 2]) (h2 := (sh_rep m.T m.I m.J)) rfl rfl rfl ?_
    refine sh_w (i := (.iload 9)) (len := 2) (pc2 := 360) (lv2 := [(0, .ref 67), (1, .int x1), (5, .long x5), (7, .int x7), (8, .int x8), (9, .int x9)]) (st2 := [.int x9, .int 2]) (h2 := (sh_rep m.T m.I m.J)) rfl rfl rfl ?_
    refine sh_w (i := .imul) (len := 1) (pc2 := 361) (lv2 := [(0, .ref 67), (1, .int x1), (5, .long x5), (7, .int x7), (8, .int x8), (9, .int x9)]) (st2 := [.int (2 * x9)]) (h2 := (sh_rep m.T m.I m.J)) rfl rfl rfl ?_
    refine sh_w (i := (.iload 9)) (len := 2) (pc2 := 363) (lv2 := [(0, .ref 67), (1, .int x1), (5, .long x5), (7, .int x7), (8, .int x8), (9, .int x9)]) (st2 := [.int x9, .int (2 * x9)]) (h2 := (sh_rep m.T m.I m.J)) rfl rfl rfl ?_
    refine sh_w (i := .imul) (len := 1) (pc2 := 364) (lv2 := [(0, .ref 67), (1, .int x1), (5, .long x5), (7, .int x7), (8, .int x8), (9, .int x9)]) (st2 := [.int ((2 * x9) * x9)]) (h2 := (sh_rep m.T m.I m.J)) rfl rfl rfl ?_
    refine sh_w (i := (.goto 5)) (len := 3) (pc2 := 369) (lv2 := [(0, .ref 67), (1, .int x1), (5, .long x5), (7, .int x7), (8, .int x8), (9, .int x9)]) (st2 := [.int ((2 * x9) * x9)]) (h2 := (sh_rep m.T m.I m.J)) rfl rfl rfl ?_
    exact kk
  exact sh_Lk_sub (sh_sub_c rfl (sh_sub_c rfl (sh_sub_c rfl (sh_sub_c rfl (sh_sub_c rfl (sh_sub_c rfl (sh_sub_n))))))) (sl_303_369 e tg)
theorem sl_303_304 {x1 : Int32} {x5 : Int64} {x7 : Int32} {x8 : Int32} {x9 : Int32} {y0 : Bool} {m m2 : sh_X} {o : Outcome} {z : (Bool × sh_X)} (e : sf_303_304 x1 x5 x7 x8 x9 y0 m = some z) (tg : (sh_tZ o m2) z) : sh_Lk 303 304 [(0, .ref 67), (1, .int x1), (5, .long x5), (7, .int x7), (8, .int x8), (9, .int x9)] [.int (sh_b2 y0)] m o m2 13 326 := by
  unfold sf_303_304 at e
  refine sh_Lk_lift (T := m.T) (I := m.I) (J := m.J) (s := m.s) (pc2 := 308) (lv2 := [(14, .int (sh_b2 y0)), (0, .ref 67), (1, .int x1), (5, .long x5), (7, .int x7), (8, .int x8), (9, .int x9)]) (st2 := [.int (sh_b2 y0)]) (I2 := m.I) (J2 := m.J) (fun hT v kk => ?_) ?_
  · refine sh_w (i := (.istore 14)) (len := 2) (pc2 := 306) (lv2 := [(14, .int (sh_b2 y0)), (0, .ref 67), (1, .int x1), (5, .long x5), (7, .int x7), (8, .int x8), (9, .int x9)]) (st2 := []) (h2 := (sh_rep m.T m.I m.J)) rfl rfl rfl ?_
    refine sh_w (i := (.iload 14)) (len := 2) (pc2 := 308) (lv2 := [(14, .int (sh_b2 y0)), (0, .ref 67), (1, .int x1), (5, .long x5), (7, .int x7), (8, .int x8), (9, .int x9)]) (st2 := [.int (sh_b2 y0)]) (h2 := (sh_rep m.T m.I m.J)) rfl rfl rfl ?_
    exact kk
  rcases sh_ite e with ⟨c, e⟩ | ⟨c, e⟩
  · refine sh_Lk_lift (T := m.T) (I := m.I) (J := m.J) (s := m.s) (pc2 := 332) (lv2 := [(14, .int (sh_b2 y0)), (0, .ref 67), (1, .int x1), (5, .long x5), (7, .int x7), (8, .int x8), (9, .int x9)]) (st2 := [.int 42, .int x7]) (I2 := m.I) (J2 := m.J) (fun hT v kk => ?_) ?_
    · refine sh_j0 (c := .ne) (off := (20)) (pc2 := 328) true rfl (sh_Znet c) rfl ?_
      refine sh_w (i := (.iload 7)) (len := 2) (pc2 := 330) (lv2 := [(14, .int (sh_b2 y0)), (0, .ref 67), (1, .int x1), (5, .long x5), (7, .int x7), (8, .int x8), (9, .int x9)]) (st2 := [.int x7]) (h2 := (sh_rep m.T m.I m.J)) rfl rfl rfl ?_
      refine sh_w (i := (.bipush 42)) (len := 2) (pc2 := 332) (lv2 := [(14, .int (sh_b2 y0)), (0, .ref 67), (1, .int x1), (5, .long x5), (7, .int x7), (8, .int x8), (9, .int x9)]) (st2 := [.int 42, .int x7]) (h2 := (sh_rep m.T m.I m.J)) rfl rfl rfl ?_
      exact kk
    rcases sh_ite e with ⟨c, e⟩ | ⟨c, e⟩
    · refine sh_Lk_lift (T := m.T) (I := m.I) (J := m.J) (s := m.s) (pc2 := 369) (lv2 := [(14, .int (sh_b2 y0)), (0, .ref 67), (1, .int x1), (5, .long x5), (7, .int x7), (8, .int x8), (9, .int x9)]) (st2 := [.int (x9 * x9)]) (I2 := m.I) (J2 := m.J) (fun hT v kk => ?_) ?_
      · refine sh_jc (c := .ne) (off := (11)) (pc2 := 335) false rfl (sh_Bnef c) rfl ?_
        refine sh_w (i := (.iload 9)) (len := 2) (pc2 := 337) (lv2 := [(14, .int (sh_b2 y0)), (0, .ref 67), (1, .int x1), (5, .long x5), (7, .int x7), (8, .int x8), (9, .int x9)]) (st2 := [.int x9]) (h2 := (sh_rep m.T m.I m.J)) rfl rfl rfl ?_
        refine sh_w (i := (.iload 9)) (len := 2) (pc2 := 339) (lv2 := [(14, .int (sh_b2 y0)), (0, .ref 67), (1, .int x1), (5, .long x5), (7, .int x7), (8, .int x8), (9, .int x9)]) (st2 := [.int x9, .int x9]) (h2 := (sh_rep m.T m.I m.J)) rfl rfl rfl ?_
        refine sh_w (i := .imul) (len := 1) (pc2 := 340) (lv2 := [(14, .int (sh_b2 y0)), (0, .ref 67), (1, .int x1), (5, .long x5), (7, .int x7), (8, .int x8), (9, .int x9)]) (st2 := [.int (x9 * x9)]) (h2 := (sh_rep m.T m.I m.J)) rfl rfl rfl ?_
        refine sh_w (i := (.goto 29)) (len := 3) (pc2 := 369) (lv2 := [(14, .int (sh_b2 y0)), (0, .ref 67), (1, .int x1), (5, .long x5), (7, .int x7), (8, .int x8), (9, .int x9)]) (st2 := [.int (x9 * x9)]) (h2 := (sh_rep m.T m.I m.J)) rfl rfl rfl ?_
        exact kk
      exact sh_Lk_sub (sh_sub_c rfl (sh_sub_c rfl (sh_sub_c rfl (sh_sub_c rfl (sh_sub_c rfl (sh_sub_c rfl (sh_sub_n))))))) (sl_303_369 e tg)
    · refine sh_Lk_lift (T := m.T) (I := m.I) (J := m.J) (s := m.s) (pc2 := 347) (lv2 := [(14, .int (sh_b2 y0)), (0, .ref 67), (1, .int x1), (5, .long x5), (7, .int x7), (8, .int x8), (9, .int x9)]) (st2 := [.int 47, .int x7]) (I2 := m.I) (J2 := m.J) (fun hT v kk => ?_) ?_
      · refine sh_jc (c := .ne) (off := (11)) (pc2 := 343) true rfl (sh_Bnet c) rfl ?_
        refine sh_w (i := (.iload 7)) (len := 2) (pc2 := 345) (lv2 := [(14, .int (sh_b2 y0)), (0, .ref 67), (1, .int x1), (5, .long x5), (7, .int x7), (8, .int x8), (9, .int x9)]) (st2 := [.int x7]) (h2 := (sh_rep m.T m.I m.J)) rfl rfl rfl ?_
        refine sh_w (i := (.bipush 47)) (len := 2) (pc2 := 347) (lv2 := [(14, .int (sh_b2 y0)), (0, .ref 67), (1, .int x1), (5, .long x5), (7, .int x7), (8, .int x8), (9, .int x9)]) (st2 := [.int 47, .int x7]) (h2 := (sh_rep m.T m.I m.J)) rfl rfl rfl ?_
        exact kk
      rcases sh_ite e with ⟨c, e⟩ | ⟨c, e⟩
      · refine sh_Lk_lift (T := m.T) (I := m.I) (J := m.J) (s := m.s) (pc2 := 357) (lv2 := [(14, .int (sh_b2 y0)), (0, .ref 67), (1, .int x1), (5, .long x5), (7, .int x7), (8, .int x8), (9, .int x9)]) (st2 := []) (I2 := m.I) (J2 := m.J) (fun hT v kk => ?_) ?_
        · refine sh_jc (c := .eq) (off := (10)) (pc2 := 357) true rfl (sh_Beqt c) rfl ?_
          exact kk
        exact sh_Lk_sub (sh_sub_c rfl (sh_sub_c rfl (sh_sub_c rfl (sh_sub_c rfl (sh_sub_c rfl (sh_sub_c rfl (sh_sub_n))))))) (sl_303_357 e tg)
      · refine sh_Lk_lift (T := m.T) (I := m.I) (J := m.J) (s := m.s) (pc2 := 354) (lv2 := [(14, .int (sh_b2 y0)), (0, .ref 67), (1, .int x1), (5, .long x5), (7, .int x7), (8, .int x8), (9, .int x9)]) (st2 := [.int 37, .int x7]) (I2 := m.I) (J2 := m.J) (fun hT v kk => ?_) ?_
        · refine sh_jc (c := .eq) (off := (10)) (pc2 := 350) false rfl (sh_Beqf c) rfl ?_
          refine sh_w (i := (.iload 7)) (len := 2) (pc2 := 352) (lv2 := [(14, .int (sh_b2 y0)), (0, .ref 67), (1, .int x1), (5, .long x5), (7, .int x7), (8, .int x8), (9, .int x9)]) (st2 := [.int x7]) (h2 := (sh_rep m.T m.I m.J)) rfl rfl rfl ?_
          refine sh_w (i := (.bipush 37)) (len := 2) (pc2 := 354) (lv2 := [(14, .int (sh_b2 y0)), (0, .ref 67), (1, .int x1), (5, .long x5), (7, .int x7), (8, .int x8), (9, .int x9)]) (st2 := [.int 37, .int x7]) (h2 := (sh_rep m.T m.I m.J)) rfl rfl rfl ?_
          exact kk
        rcases sh_ite e with ⟨c, e⟩ | ⟨c, e⟩
        · refine sh_Lk_lift (T := m.T) (I := m.I) (J := m.J) (s := m.s) (pc2 := 357) (lv2 := [(14, .int (sh_b2 y0)), (0, .ref 67), (1, .int x1), (5, .long x5), (7, .int x7), (8, .int x8), (9, .int x9)]) (st2 := []) (I2 := m.I) (J2 := m.J) (fun hT v kk => ?_) ?_
          · refine sh_jc (c := .ne) (off := (13)) (pc2 := 357) false rfl (sh_Bnef c) rfl ?_
            exact kk
          exact sh_Lk_sub (sh_sub_c rfl (sh_sub_c rfl (sh_sub_c rfl (sh_sub_c rfl (sh_sub_c rfl (sh_sub_c rfl (sh_sub_n))))))) (sl_303_357 e tg)
        · refine sh_Lk_lift (T := m.T) (I := m.I) (J := m.J) (s := m.s) (pc2 := 369) (lv2 := [(14, .int (sh_b2 y0)), (0, .ref 67), (1, .int x1), (5, .long x5), (7, .int x7), (8, .int x8), (9, .int x9)]) (st2 := [.int x9]) (I2 := m.I) (J2 := m.J) (fun hT v kk => ?_) ?_
          · refine sh_jc (c := .ne) (off := (13)) (pc2 := 367) true rfl (sh_Bnet c) rfl ?_
            refine sh_w (i := (.iload 9)) (len := 2) (pc2 := 369) (lv2 := [(14, .int (sh_b2 y0)), (0, .ref 67), (1, .int x1), (5, .long x5), (7, .int x7), (8, .int x8), (9, .int x9)]) (st2 := [.int x9]) (h2 := (sh_rep m.T m.I m.J)) rfl rfl rfl ?_
            exact kk
          exact sh_Lk_sub (sh_sub_c rfl (sh_sub_c rfl (sh_sub_c rfl (sh_sub_c rfl (sh_sub_c rfl (sh_sub_c rfl (sh_sub_n))))))) (sl_303_369 e tg)
  · refine sh_Lk_lift (T := m.T) (I := m.I) (J := m.J) (s := m.s) (pc2 := 322) (lv2 := [(14, .int (sh_b2 y0)), (0, .ref 67), (1, .int x1), (5, .long x5), (7, .int x7), (8, .int x8), (9, .int x9)]) (st2 := [.int x1, .ref 74, .ref 70, .int 4, .ref 67]) (I2 := m.I) (J2 := m.J) (fun hT v kk => ?_) ?_
    · refine sh_j0 (c := .ne) (off := (20)) (pc2 := 311) false rfl (sh_Znef c) rfl ?_
      refine sh_w (i := (.aload_n 0)) (len := 1) (pc2 := 312) (lv2 := [(14, .int (sh_b2 y0)), (0, .ref 67), (1, .int x1), (5, .long x5), (7, .int x7), (8, .int x8), (9, .int x9)]) (st2 := [.ref 67]) (h2 := (sh_rep m.T m.I m.J)) rfl rfl rfl ?_
      refine sh_w (i := (.iconst 4)) (len := 1) (pc2 := 313) (lv2 := [(14, .int (sh_b2 y0)), (0, .ref 67), (1, .int x1), (5, .long x5), (7, .int x7), (8, .int x8), (9, .int x9)]) (st2 := [.int 4, .ref 67]) (h2 := (sh_rep m.T m.I m.J)) rfl rfl rfl ?_
      refine sh_w (i := (.aload_n 0)) (len := 1) (pc2 := 314) (lv2 := [(14, .int (sh_b2 y0)), (0, .ref 67), (1, .int x1), (5, .long x5), (7, .int x7), (8, .int x8), (9, .int x9)]) (st2 := [.ref 67, .int 4, .ref 67]) (h2 := (sh_rep m.T m.I m.J)) rfl rfl rfl ?_
      refine sh_gR1 (len := 3) (x := .ref 70) (pc2 := 317) rfl rfl (sh_s66 hT.st) rfl rfl ?_
      refine sh_w (i := (.aload_n 0)) (len := 1) (pc2 := 318) (lv2 := [(14, .int (sh_b2 y0)), (0, .ref 67), (1, .int x1), (5, .long x5), (7, .int x7), (8, .int x8), (9, .int x9)]) (st2 := [.ref 67, .ref 70, .int 4, .ref 67]) (h2 := (sh_rep m.T m.I m.J)) rfl rfl rfl ?_
      refine sh_gR1 (len := 3) (x := .ref 74) (pc2 := 321) rfl rfl (sh_s66 hT.st) rfl rfl ?_
      refine sh_w (i := (.iload_n 1)) (len := 1) (pc2 := 322) (lv2 := [(14, .int (sh_b2 y0)), (0, .ref 67), (1, .int x1), (5, .long x5), (7, .int x7), (8, .int x8), (9, .int x9)]) (st2 := [.int x1, .ref 74, .ref 70, .int 4, .ref 67]) (h2 := (sh_rep m.T m.I m.J)) rfl rfl rfl ?_
      exact kk
    obtain ⟨c, e⟩ := sh_gd e
    refine sh_Lk_lift (T := m.T) (I := m.I) (J := m.J) (s := m.s) (pc2 := 323) (lv2 := [(14, .int (sh_b2 y0)), (0, .ref 67), (1, .int x1), (5, .long x5), (7, .int x7), (8, .int x8), (9, .int x9)]) (st2 := [.int (m.I 73 (Int32.toNatClampNeg x1)), .ref 70, .int 4, .ref 67]) (I2 := m.I) (J2 := m.J) (fun hT v kk => ?_) ?_
    · refine sh_ia1 (x := m.I 73 (Int32.toNatClampNeg x1)) (pc2 := 323) rfl (sh_s73 hT.st) (sh_okb1 c) (sh_okb2 c) rfl rfl ?_
      exact kk
    obtain ⟨c, e⟩ := sh_gd e
    refine sh_Lk_lift (T := m.T) (I := m.I) (J := m.J) (s := m.s) (pc2 := 324) (lv2 := [(14, .int (sh_b2 y0)), (0, .ref 67), (1, .int x1), (5, .long x5), (7, .int x7), (8, .int x8), (9, .int x9)]) (st2 := [.int (m.I 69 (Int32.toNatClampNeg (m.I 73 (Int32.toNatClampNeg x1)))), .int 4, .ref 67]) (I2 := m.I) (J2 := m.J) (fun hT v kk => ?_) ?_
    · refine sh_ia1 (x := m.I 69 (Int32.toNatClampNeg (m.I 73 (Int32.toNatClampNeg x1)))) (pc2 := 324) rfl (sh_s69 hT.st) (sh_okb1 c) (sh_okb2 c) rfl rfl ?_
      exact kk
    obtain ⟨r1, m11, e1, e⟩ := sh_bn_e e
    refine sh_Lk_cV (r := (some (.int (sh_b2 r1)))) (st2 := [.int (sh_b2 r1)]) (pc2 := 327) (k2 := 252) (a := 66) (as := [.ref 67, .int 4, .int (m.I 69 (Int32.toNatClampNeg (m.I 73 (Int32.toNatClampNeg x1))))]) (rest := []) rfl rfl rfl (fun hT => (sh_s66 hT.st)) rfl rfl ⟨Nat.le_of_ble_eq_true rfl, Nat.le_of_ble_eq_true rfl⟩ (sl_252 e1 ⟨rfl, rfl⟩) rfl rfl (Nat.le_of_ble_eq_true rfl) (Nat.le_of_ble_eq_true rfl) ?_
    obtain rfl := Option.some.inj e
    obtain ⟨rfl, rfl⟩ := tg
    exact sh_Lk_ret (i := .ireturn) rfl rfl (sh_rb rfl _) (Nat.le_of_ble_eq_true rfl) (Nat.le_of_ble_eq_true rfl)
theorem sl_303_299 {x1 : Int32} {x5 : Int64} {x7 : Int32} {x8 : Int32} {x9 : Int32} {m m2 : sh_X} {o : Outcome} {z : (Bool × sh_X)} (e : sf_303_299 x1 x5 x7 x8 x9 m = some z) (tg : (sh_tZ o m2) z) : sh_Lk 303 299 [(0, .ref 67), (1, .int x1), (5, .long x5), (7, .int x7), (8, .int x8), (9, .int x9)] [] m o m2 13 326 := by
  unfold sf_303_299 at e
  refine sh_Lk_lift (T := m.T) (I := m.I) (J := m.J) (s := m.s) (pc2 := 304) (lv2 := [(0, .ref 67), (1, .int x1), (5, .long x5), (7, .int x7), (8, .int x8), (9, .int x9)]) (st2 := [.int 1]) (I2 := m.I) (J2 := m.J) (fun hT v kk => ?_) ?_
  · refine sh_w (i := (.iconst 1)) (len := 1) (pc2 := 300) (lv2 := [(0, .ref 67), (1, .int x1), (5, .long x5), (7, .int x7), (8, .int x8), (9, .int x9)]) (st2 := [.int 1]) (h2 := (sh_rep m.T m.I m.J)) rfl rfl rfl ?_
    refine sh_w (i := (.goto 4)) (len := 3) (pc2 := 304) (lv2 := [(0, .ref 67), (1, .int x1), (5, .long x5), (7, .int x7), (8, .int x8), (9, .int x9)]) (st2 := [.int 1]) (h2 := (sh_rep m.T m.I m.J)) rfl rfl rfl ?_
    exact kk
  exact sh_Lk_sub (sh_sub_c rfl (sh_sub_c rfl (sh_sub_c rfl (sh_sub_c rfl (sh_sub_c rfl (sh_sub_c rfl (sh_sub_n))))))) (sl_303_304 e tg)
theorem sl_303_303 {x1 : Int32} {x5 : Int64} {x7 : Int32} {x8 : Int32} {x9 : Int32} {m m2 : sh_X} {o : Outcome} {z : (Bool × sh_X)} (e : sf_303_303 x1 x5 x7 x8 x9 m = some z) (tg : (sh_tZ o m2) z) : sh_Lk 303 303 [(0, .ref 67), (1, .int x1), (5, .long x5), (7, .int x7), (8, .int x8), (9, .int x9)] [] m o m2 13 326 := by
  unfold sf_303_303 at e
  refine sh_Lk_lift (T := m.T) (I := m.I) (J := m.J) (s := m.s) (pc2 := 304) (lv2 := [(0, .ref 67), (1, .int x1), (5, .long x5), (7, .int x7), (8, .int x8), (9, .int x9)]) (st2 := [.int 0]) (I2 := m.I) (J2 := m.J) (fun hT v kk => ?_) ?_
  · refine sh_w (i := (.iconst 0)) (len := 1) (pc2 := 304) (lv2 := [(0, .ref 67), (1, .int x1), (5, .long x5), (7, .int x7), (8, .int x8), (9, .int x9)]) (st2 := [.int 0]) (h2 := (sh_rep m.T m.I m.J)) rfl rfl rfl ?_
    exact kk
  exact sh_Lk_sub (sh_sub_c rfl (sh_sub_c rfl (sh_sub_c rfl (sh_sub_c rfl (sh_sub_c rfl (sh_sub_c rfl (sh_sub_n))))))) (sl_303_304 e tg)
theorem sl_303_266 {x1 : Int32} {x5 : Int64} {x7 : Int32} {x8 : Int32} {x9 : Int32} {x11 : Int32} {x12 : Bool} {y0 : Bool} {m m2 : sh_X} {o : Outcome} {z : (Bool × sh_X)} (e : sf_303_266 x1 x5 x7 x8 x9 x11 x12 y0 m = some z) (tg : (sh_tZ o m2) z) : sh_Lk 303 266 [(0, .ref 67), (1, .int x1), (5, .long x5), (7, .int x7), (8, .int x8), (9, .int x9), (11, .int x11), (12, .int (sh_b2 x12))] [.int (sh_b2 y0)] m o m2 13 326 := by
  unfold sf_303_266 at e
  refine sh_Lk_lift (T := m.T) (I := m.I) (J := m.J) (s := m.s) (pc2 := 270) (lv2 := [(13, .int (sh_b2 y0)), (0, .ref 67), (1, .int x1), (5, .long x5), (7, .int x7), (8, .int x8), (9, .int x9), (11, .int x11), (12, .int (sh_b2 x12))]) (st2 := [.int (sh_b2 x12)]) (I2 := m.I) (J2 := m.J) (fun hT v kk => ?_) ?_
  · refine sh_w (i := (.istore 13)) (len := 2) (pc2 := 268) (lv2 := [(13, .int (sh_b2 y0)), (0, .ref 67), (1, .int x1), (5, .long x5), (7, .int x7), (8, .int x8), (9, .int x9), (11, .int x11), (12, .int (sh_b2 x12))]) (st2 := []) (h2 := (sh_rep m.T m.I m.J)) rfl rfl rfl ?_
    refine sh_w (i := (.iload 12)) (len := 2) (pc2 := 270) (lv2 := [(13, .int (sh_b2 y0)), (0, .ref 67), (1, .int x1), (5, .long x5), (7, .int x7), (8, .int x8), (9, .int x9), (11, .int x11), (12, .int (sh_b2 x12))]) (st2 := [.int (sh_b2 x12)]) (h2 := (sh_rep m.T m.I m.J)) rfl rfl rfl ?_
    exact kk
  rcases sh_ite e with ⟨c, e⟩ | ⟨c, e⟩
  · refine sh_Lk_lift (T := m.T) (I := m.I) (J := m.J) (s := m.s) (pc2 := 276) (lv2 := [(13, .int (sh_b2 y0)), (0, .ref 67), (1, .int x1), (5, .long x5), (7, .int x7), (8, .int x8), (9, .int x9), (11, .int x11), (12, .int (sh_b2 x12))]) (st2 := [.int 3, .int x11]) (I2 := m.I) (J2 := m.J) (fun hT v kk => ?_) ?_
    · refine sh_j0 (c := .eq) (off := (33)) (pc2 := 273) false rfl (sh_Zeqf c) rfl ?_
      refine sh_w (i := (.iload 11)) (len := 2) (pc2 := 275) (lv2 := [(13, .int (sh_b2 y0)), (0, .ref 67), (1, .int x1), (5, .long x5), (7, .int x7), (8, .int x8), (9, .int x9), (11, .int x11), (12, .int (sh_b2 x12))]) (st2 := [.int x11]) (h2 := (sh_rep m.T m.I m.J)) rfl rfl rfl ?_
      refine sh_w (i := (.iconst 3)) (len := 1) (pc2 := 276) (lv2 := [(13, .int (sh_b2 y0)), (0, .ref 67), (1, .int x1), (5, .long x5), (7, .int x7), (8, .int x8), (9, .int x9), (11, .int x11), (12, .int (sh_b2 x12))]) (st2 := [.int 3, .int x11]) (h2 := (sh_rep m.T m.I m.J)) rfl rfl rfl ?_
      exact kk
    rcases sh_ite e with ⟨c, e⟩ | ⟨c, e⟩
    · refine sh_Lk_lift (T := m.T) (I := m.I) (J := m.J) (s := m.s) (pc2 := 281) (lv2 := [(13, .int (sh_b2 y0)), (0, .ref 67), (1, .int x1), (5, .long x5), (7, .int x7), (8, .int x8), (9, .int x9), (11, .int x11), (12, .int (sh_b2 x12))]) (st2 := [.int (sh_b2 y0)]) (I2 := m.I) (J2 := m.J) (fun hT v kk => ?_) ?_
      · refine sh_jc (c := .ge) (off := (11)) (pc2 := 279) false rfl (sh_Bgef c) rfl ?_
        refine sh_w (i := (.iload 13)) (len := 2) (pc2 := 281) (lv2 := [(13, .int (sh_b2 y0)), (0, .ref 67), (1, .int x1), (5, .long x5), (7, .int x7), (8, .int x8), (9, .int x9), (11, .int x11), (12, .int (sh_b2 x12))]) (st2 := [.int (sh_b2 y0)]) (h2 := (sh_rep m.T m.I m.J)) rfl rfl rfl ?_
        exact kk
      rcases sh_ite e with ⟨c, e⟩ | ⟨c, e⟩
      · refine sh_Lk_lift (T := m.T) (I := m.I) (J := m.J) (s := m.s) (pc2 := 303) (lv2 := [(13, .int (sh_b2 y0)), (0, .ref 67), (1, .int x1), (5, .long x5), (7, .int x7), (8, .int x8), (9, .int x9), (11, .int x11), (12, .int (sh_b2 x12))]) (st2 := []) (I2 := m.I) (J2 := m.J) (fun hT v kk => ?_) ?_
        · refine sh_j0 (c := .ne) (off := (22)) (pc2 := 303) true rfl (sh_Znet c) rfl ?_
          exact kk
        exact sh_Lk_sub (sh_sub_c rfl (sh_sub_c rfl (sh_sub_c rfl (sh_sub_c rfl (sh_sub_c rfl (sh_sub_c rfl (sh_sub_n))))))) (sl_303_303 e tg)
      · refine sh_Lk_lift (T := m.T) (I := m.I) (J := m.J) (s := m.s) (pc2 := 299) (lv2 := [(13, .int (sh_b2 y0)), (0, .ref 67), (1, .int x1), (5, .long x5), (7, .int x7), (8, .int x8), (9, .int x9), (11, .int x11), (12, .int (sh_b2 x12))]) (st2 := []) (I2 := m.I) (J2 := m.J) (fun hT v kk => ?_) ?_
        · refine sh_j0 (c := .ne) (off := (22)) (pc2 := 284) false rfl (sh_Znef c) rfl ?_
          refine sh_w (i := (.goto 15)) (len := 3) (pc2 := 299) (lv2 := [(13, .int (sh_b2 y0)), (0, .ref 67), (1, .int x1), (5, .long x5), (7, .int x7), (8, .int x8), (9, .int x9), (11, .int x11), (12, .int (sh_b2 x12))]) (st2 := []) (h2 := (sh_rep m.T m.I m.J)) rfl rfl rfl ?_
          exact kk
        exact sh_Lk_sub (sh_sub_c rfl (sh_sub_c rfl (sh_sub_c rfl (sh_sub_c rfl (sh_sub_c rfl (sh_sub_c rfl (sh_sub_n))))))) (sl_303_299 e tg)
    · refine sh_Lk_lift (T := m.T) (I := m.I) (J := m.J) (s := m.s) (pc2 := 291) (lv2 := [(13, .int (sh_b2 y0)), (0, .ref 67), (1, .int x1), (5, .long x5), (7, .int x7), (8, .int x8), (9, .int x9), (11, .int x11), (12, .int (sh_b2 x12))]) (st2 := [.int 7, .int x11]) (I2 := m.I) (J2 := m.J) (fun hT v kk => ?_) ?_
      · refine sh_jc (c := .ge) (off := (11)) (pc2 := 287) true rfl (sh_Bget c) rfl ?_
        refine sh_w (i := (.iload 11)) (len := 2) (pc2 := 289) (lv2 := [(13, .int (sh_b2 y0)), (0, .ref 67), (1, .int x1), (5, .long x5), (7, .int x7), (8, .int x8), (9, .int x9), (11, .int x11), (12, .int (sh_b2 x12))]) (st2 := [.int x11]) (h2 := (sh_rep m.T m.I m.J)) rfl rfl rfl ?_
        refine sh_w (i := (.bipush 7)) (len := 2) (pc2 := 291) (lv2 := [(13, .int (sh_b2 y0)), (0, .ref 67), (1, .int x1), (5, .long x5), (7, .int x7), (8, .int x8), (9, .int x9), (11, .int x11), (12, .int (sh_b2 x12))]) (st2 := [.int 7, .int x11]) (h2 := (sh_rep m.T m.I m.J)) rfl rfl rfl ?_
        exact kk
      rcases sh_ite e with ⟨c, e⟩ | ⟨c, e⟩
      · refine sh_Lk_lift (T := m.T) (I := m.I) (J := m.J) (s := m.s) (pc2 := 299) (lv2 := [(13, .int (sh_b2 y0)), (0, .ref 67), (1, .int x1), (5, .long x5), (7, .int x7), (8, .int x8), (9, .int x9), (11, .int x11), (12, .int (sh_b2 x12))]) (st2 := []) (I2 := m.I) (J2 := m.J) (fun hT v kk => ?_) ?_
        · refine sh_jc (c := .lt) (off := (8)) (pc2 := 299) true rfl (sh_Bltt c) rfl ?_
          exact kk
        exact sh_Lk_sub (sh_sub_c rfl (sh_sub_c rfl (sh_sub_c rfl (sh_sub_c rfl (sh_sub_c rfl (sh_sub_c rfl (sh_sub_n))))))) (sl_303_299 e tg)
      · refine sh_Lk_lift (T := m.T) (I := m.I) (J := m.J) (s := m.s) (pc2 := 296) (lv2 := [(13, .int (sh_b2 y0)), (0, .ref 67), (1, .int x1), (5, .long x5), (7, .int x7), (8, .int x8), (9, .int x9), (11, .int x11), (12, .int (sh_b2 x12))]) (st2 := [.int (sh_b2 y0)]) (I2 := m.I) (J2 := m.J) (fun hT v kk => ?_) ?_
        · refine sh_jc (c := .lt) (off := (8)) (pc2 := 294) false rfl (sh_Bltf c) rfl ?_
          refine sh_w (i := (.iload 13)) (len := 2) (pc2 := 296) (lv2 := [(13, .int (sh_b2 y0)), (0, .ref 67), (1, .int x1), (5, .long x5), (7, .int x7), (8, .int x8), (9, .int x9), (11, .int x11), (12, .int (sh_b2 x12))]) (st2 := [.int (sh_b2 y0)]) (h2 := (sh_rep m.T m.I m.J)) rfl rfl rfl ?_
          exact kk
        rcases sh_ite e with ⟨c, e⟩ | ⟨c, e⟩
        · refine sh_Lk_lift (T := m.T) (I := m.I) (J := m.J) (s := m.s) (pc2 := 299) (lv2 := [(13, .int (sh_b2 y0)), (0, .ref 67), (1, .int x1), (5, .long x5), (7, .int x7), (8, .int x8), (9, .int x9), (11, .int x11), (12, .int (sh_b2 x12))]) (st2 := []) (I2 := m.I) (J2 := m.J) (fun hT v kk => ?_) ?_
          · refine sh_j0 (c := .eq) (off := (7)) (pc2 := 299) false rfl (sh_Zeqf c) rfl ?_
            exact kk
          exact sh_Lk_sub (sh_sub_c rfl (sh_sub_c rfl (sh_sub_c rfl (sh_sub_c rfl (sh_sub_c rfl (sh_sub_c rfl (sh_sub_n))))))) (sl_303_299 e tg)
        · refine sh_Lk_lift (T := m.T) (I := m.I) (J := m.J) (s := m.s) (pc2 := 303) (lv2 := [(13, .int (sh_b2 y0)), (0, .ref 67), (1, .int x1), (5, .long x5), (7, .int x7), (8, .int x8), (9, .int x9), (11, .int x11), (12, .int (sh_b2 x12))]) (st2 := []) (I2 := m.I) (J2 := m.J) (fun hT v kk => ?_) ?_
          · refine sh_j0 (c := .eq) (off := (7)) (pc2 := 303) true rfl (sh_Zeqt c) rfl ?_
            exact kk
          exact sh_Lk_sub (sh_sub_c rfl (sh_sub_c rfl (sh_sub_c rfl (sh_sub_c rfl (sh_sub_c rfl (sh_sub_c rfl (sh_sub_n))))))) (sl_303_303 e tg)
  · refine sh_Lk_lift (T := m.T) (I := m.I) (J := m.J) (s := m.s) (pc2 := 303) (lv2 := [(13, .int (sh_b2 y0)), (0, .ref 67), (1, .int x1), (5, .long x5), (7, .int x7), (8, .int x8), (9, .int x9), (11, .int x11), (12, .int (sh_b2 x12))]) (st2 := []) (I2 := m.I) (J2 := m.J) (fun hT v kk => ?_) ?_
    · refine sh_j0 (c := .eq) (off := (33)) (pc2 := 303) true rfl (sh_Zeqt c) rfl ?_
      exact kk
    exact sh_Lk_sub (sh_sub_c rfl (sh_sub_c rfl (sh_sub_c rfl (sh_sub_c rfl (sh_sub_c rfl (sh_sub_c rfl (sh_sub_n))))))) (sl_303_303 e tg)
theorem sl_303_254 {x1 : Int32} {x5 : Int64} {x7 : Int32} {x8 : Int32} {x9 : Int32} {x11 : Int32} {y0 : Bool} {m m2 : sh_X} {o : Outcome} {z : (Bool × sh_X)} (e : sf_303_254 x1 x5 x7 x8 x9 x11 y0 m = some z) (tg : (sh_tZ o m2) z) : sh_Lk 303 254 [(0, .ref 67), (1, .int x1), (5, .long x5), (7, .int x7), (8, .int x8), (9, .int x9), (11, .int x11)] [.int (sh_b2 y0)] m o m2 13 326 := by
  unfold sf_303_254 at e
  refine sh_Lk_lift (T := m.T) (I := m.I) (J := m.J) (s := m.s) (pc2 := 258) (lv2 := [(12, .int (sh_b2 y0)), (0, .ref 67), (1, .int x1), (5, .long x5), (7, .int x7), (8, .int x8), (9, .int x9), (11, .int x11)]) (st2 := [.int x8]) (I2 := m.I) (J2 := m.J) (fun hT v kk => ?_) ?_
  · refine sh_w (i := (.istore 12)) (len := 2) (pc2 := 256) (lv2 := [(12, .int (sh_b2 y0)), (0, .ref 67), (1, .int x1), (5, .long x5), (7, .int x7), (8, .int x8), (9, .int x9), (11, .int x11)]) (st2 := []) (h2 := (sh_rep m.T m.I m.J)) rfl rfl rfl ?_
    refine sh_w (i := (.iload 8)) (len := 2) (pc2 := 258) (lv2 := [(12, .int (sh_b2 y0)), (0, .ref 67), (1, .int x1), (5, .long x5), (7, .int x7), (8, .int x8), (9, .int x9), (11, .int x11)]) (st2 := [.int x8]) (h2 := (sh_rep m.T m.I m.J)) rfl rfl rfl ?_
    exact kk
  rcases sh_ite e with ⟨c, e⟩ | ⟨c, e⟩
  · refine sh_Lk_lift (T := m.T) (I := m.I) (J := m.J) (s := m.s) (pc2 := 266) (lv2 := [(12, .int (sh_b2 y0)), (0, .ref 67), (1, .int x1), (5, .long x5), (7, .int x7), (8, .int x8), (9, .int x9), (11, .int x11)]) (st2 := [.int 0]) (I2 := m.I) (J2 := m.J) (fun hT v kk => ?_) ?_
    · refine sh_j0 (c := .eq) (off := (7)) (pc2 := 265) true rfl (sh_Beqt c) rfl ?_
      refine sh_w (i := (.iconst 0)) (len := 1) (pc2 := 266) (lv2 := [(12, .int (sh_b2 y0)), (0, .ref 67), (1, .int x1), (5, .long x5), (7, .int x7), (8, .int x8), (9, .int x9), (11, .int x11)]) (st2 := [.int 0]) (h2 := (sh_rep m.T m.I m.J)) rfl rfl rfl ?_
      exact kk
    exact sh_Lk_sub (sh_sub_c rfl (sh_sub_c rfl (sh_sub_c rfl (sh_sub_c rfl (sh_sub_c rfl (sh_sub_c rfl (sh_sub_c rfl (sh_sub_c rfl (sh_sub_n))))))))) (sl_303_266 e tg)
  · refine sh_Lk_lift (T := m.T) (I := m.I) (J := m.J) (s := m.s) (pc2 := 266) (lv2 := [(12, .int (sh_b2 y0)), (0, .ref 67), (1, .int x1), (5, .long x5), (7, .int x7), (8, .int x8), (9, .int x9), (11, .int x11)]) (st2 := [.int 1]) (I2 := m.I) (J2 := m.J) (fun hT v kk => ?_) ?_
    · refine sh_j0 (c := .eq) (off := (7)) (pc2 := 261) false rfl (sh_Beqf c) rfl ?_
      refine sh_w (i := (.iconst 1)) (len := 1) (pc2 := 262) (lv2 := [(12, .int (sh_b2 y0)), (0, .ref 67), (1, .int x1), (5, .long x5), (7, .int x7), (8, .int x8), (9, .int x9), (11, .int x11)]) (st2 := [.int 1]) (h2 := (sh_rep m.T m.I m.J)) rfl rfl rfl ?_
      refine sh_w (i := (.goto 4)) (len := 3) (pc2 := 266) (lv2 := [(12, .int (sh_b2 y0)), (0, .ref 67), (1, .int x1), (5, .long x5), (7, .int x7), (8, .int x8), (9, .int x9), (11, .int x11)]) (st2 := [.int 1]) (h2 := (sh_rep m.T m.I m.J)) rfl rfl rfl ?_
      exact kk
    exact sh_Lk_sub (sh_sub_c rfl (sh_sub_c rfl (sh_sub_c rfl (sh_sub_c rfl (sh_sub_c rfl (sh_sub_c rfl (sh_sub_c rfl (sh_sub_c rfl (sh_sub_n))))))))) (sl_303_266 e tg)
theorem sl_303_253 {x1 : Int32} {x5 : Int64} {x7 : Int32} {x8 : Int32} {x9 : Int32} {x11 : Int32} {m m2 : sh_X} {o : Outcome} {z : (Bool × sh_X)} (e : sf_303_253 x1 x5 x7 x8 x9 x11 m = some z) (tg : (sh_tZ o m2) z) : sh_Lk 303 253 [(0, .ref 67), (1, .int x1), (5, .long x5), (7, .int x7), (8, .int x8), (9, .int x9), (11, .int x11)] [] m o m2 13 326 := by
  unfold sf_303_253 at e
  refine sh_Lk_lift (T := m.T) (I := m.I) (J := m.J) (s := m.s) (pc2 := 254) (lv2 := [(0, .ref 67), (1, .int x1), (5, .long x5), (7, .int x7), (8, .int x8), (9, .int x9), (11, .int x11)]) (st2 := [.int 0]) (I2 := m.I) (J2 := m.J) (fun hT v kk => ?_) ?_
  · refine sh_w (i := (.iconst 0)) (len := 1) (pc2 := 254) (lv2 := [(0, .ref 67), (1, .int x1), (5, .long x5), (7, .int x7), (8, .int x8), (9, .int x9), (11, .int x11)]) (st2 := [.int 0]) (h2 := (sh_rep m.T m.I m.J)) rfl rfl rfl ?_
    exact kk
  exact sh_Lk_sub (sh_sub_c rfl (sh_sub_c rfl (sh_sub_c rfl (sh_sub_c rfl (sh_sub_c rfl (sh_sub_c rfl (sh_sub_c rfl (sh_sub_n)))))))) (sl_303_254 e tg)
theorem sl_303_219 {x1 : Int32} {x5 : Int64} {x7 : Int32} {x8 : Int32} {x9 : Int32} {x10 : Int32} {x11 : Int32} {m m2 : sh_X} {o : Outcome} {z : (Bool × sh_X)} (e : sf_303_219 x1 x5 x7 x8 x9 x10 x11 m = some z) (tg : (sh_tZ o m2) z) : sh_Lk 303 219 [(0, .ref 67), (1, .int x1), (5, .long x5), (7, .int x7), (8, .int x8), (9, .int x9), (10, .int x10), (11, .int x11)] [] m o m2 13 326 := by
  unfold sf_303_219 at e
  refine sh_Lk_lift (T := m.T) (I := m.I) (J := m.J) (s := m.s) (pc2 := 225) (lv2 := [(0, .ref 67), (1, .int x1), (5, .long x5), (7, .int x7), (8, .int x8), (9, .int x9), (10, .int x10), (11, .int x11)]) (st2 := [.int (m.I 66 43), .int x8]) (I2 := m.I) (J2 := m.J) (fun hT v kk => ?_) ?_
  · refine sh_w (i := (.iload 8)) (len := 2) (pc2 := 221) (lv2 := [(0, .ref 67), (1, .int x1), (5, .long x5), (7, .int x7), (8, .int x8), (9, .int x9), (10, .int x10), (11, .int x11)]) (st2 := [.int x8]) (h2 := (sh_rep m.T m.I m.J)) rfl rfl rfl ?_
    refine sh_w (i := (.aload_n 0)) (len := 1) (pc2 := 222) (lv2 := [(0, .ref 67), (1, .int x1), (5, .long x5), (7, .int x7), (8, .int x8), (9, .int x9), (10, .int x10), (11, .int x11)]) (st2 := [.ref 67, .int x8]) (h2 := (sh_rep m.T m.I m.J)) rfl rfl rfl ?_
    refine sh_gI1 (len := 3) (x := m.I 66 43) (pc2 := 225) rfl rfl (sh_s66 hT.st) rfl rfl rfl ?_
    exact kk
  rcases sh_ite e with ⟨c, e⟩ | ⟨c, e⟩
  · refine sh_Lk_lift (T := m.T) (I := m.I) (J := m.J) (s := m.s) (pc2 := 234) (lv2 := [(0, .ref 67), (1, .int x1), (5, .long x5), (7, .int x7), (8, .int x8), (9, .int x9), (10, .int x10), (11, .int x11)]) (st2 := [.int (m.I 66 44), .int x9]) (I2 := m.I) (J2 := m.J) (fun hT v kk => ?_) ?_
    · refine sh_jc (c := .ne) (off := (28)) (pc2 := 228) false rfl (sh_Bnef c) rfl ?_
      refine sh_w (i := (.iload 9)) (len := 2) (pc2 := 230) (lv2 := [(0, .ref 67), (1, .int x1), (5, .long x5), (7, .int x7), (8, .int x8), (9, .int x9), (10, .int x10), (11, .int x11)]) (st2 := [.int x9]) (h2 := (sh_rep m.T m.I m.J)) rfl rfl rfl ?_
      refine sh_w (i := (.aload_n 0)) (len := 1) (pc2 := 231) (lv2 := [(0, .ref 67), (1, .int x1), (5, .long x5), (7, .int x7), (8, .int x8), (9, .int x9), (10, .int x10), (11, .int x11)]) (st2 := [.ref 67, .int x9]) (h2 := (sh_rep m.T m.I m.J)) rfl rfl rfl ?_
      refine sh_gI1 (len := 3) (x := m.I 66 44) (pc2 := 234) rfl rfl (sh_s66 hT.st) rfl rfl rfl ?_
      exact kk
    rcases sh_ite e with ⟨c, e⟩ | ⟨c, e⟩
    · refine sh_Lk_lift (T := m.T) (I := m.I) (J := m.J) (s := m.s) (pc2 := 239) (lv2 := [(0, .ref 67), (1, .int x1), (5, .long x5), (7, .int x7), (8, .int x8), (9, .int x9), (10, .int x10), (11, .int x11)]) (st2 := [.int x10]) (I2 := m.I) (J2 := m.J) (fun hT v kk => ?_) ?_
      · refine sh_jc (c := .ne) (off := (19)) (pc2 := 237) false rfl (sh_Bnef c) rfl ?_
        refine sh_w (i := (.iload 10)) (len := 2) (pc2 := 239) (lv2 := [(0, .ref 67), (1, .int x1), (5, .long x5), (7, .int x7), (8, .int x8), (9, .int x9), (10, .int x10), (11, .int x11)]) (st2 := [.int x10]) (h2 := (sh_rep m.T m.I m.J)) rfl rfl rfl ?_
        exact kk
      rcases sh_ite e with ⟨c, e⟩ | ⟨c, e⟩
      · refine sh_Lk_lift (T := m.T) (I := m.I) (J := m.J) (s := m.s) (pc2 := 246) (lv2 := [(0, .ref 67), (1, .int x1), (5, .long x5), (7, .int x7), (8, .int x8), (9, .int x9), (10, .int x10), (11, .int x11)]) (st2 := [.int (m.I 66 45)]) (I2 := m.I) (J2 := m.J) (fun hT v kk => ?_) ?_
        · refine sh_j0 (c := .ne) (off := (14)) (pc2 := 242) false rfl (sh_Bnef c) rfl ?_
          refine sh_w (i := (.aload_n 0)) (len := 1) (pc2 := 243) (lv2 := [(0, .ref 67), (1, .int x1), (5, .long x5), (7, .int x7), (8, .int x8), (9, .int x9), (10, .int x10), (11, .int x11)]) (st2 := [.ref 67]) (h2 := (sh_rep m.T m.I m.J)) rfl rfl rfl ?_
          refine sh_gI1 (len := 3) (x := m.I 66 45) (pc2 := 246) rfl rfl (sh_s66 hT.st) rfl rfl rfl ?_
          exact kk
        rcases sh_ite e with ⟨c, e⟩ | ⟨c, e⟩
        · refine sh_Lk_lift (T := m.T) (I := m.I) (J := m.J) (s := m.s) (pc2 := 254) (lv2 := [(0, .ref 67), (1, .int x1), (5, .long x5), (7, .int x7), (8, .int x8), (9, .int x9), (10, .int x10), (11, .int x11)]) (st2 := [.int 1]) (I2 := m.I) (J2 := m.J) (fun hT v kk => ?_) ?_
          · refine sh_j0 (c := .ne) (off := (7)) (pc2 := 249) false rfl (sh_Bnef c) rfl ?_
            refine sh_w (i := (.iconst 1)) (len := 1) (pc2 := 250) (lv2 := [(0, .ref 67), (1, .int x1), (5, .long x5), (7, .int x7), (8, .int x8), (9, .int x9), (10, .int x10), (11, .int x11)]) (st2 := [.int 1]) (h2 := (sh_rep m.T m.I m.J)) rfl rfl rfl ?_
            refine sh_w (i := (.goto 4)) (len := 3) (pc2 := 254) (lv2 := [(0, .ref 67), (1, .int x1), (5, .long x5), (7, .int x7), (8, .int x8), (9, .int x9), (10, .int x10), (11, .int x11)]) (st2 := [.int 1]) (h2 := (sh_rep m.T m.I m.J)) rfl rfl rfl ?_
            exact kk
          exact sh_Lk_sub (sh_sub_c rfl (sh_sub_c rfl (sh_sub_c rfl (sh_sub_c rfl (sh_sub_c rfl (sh_sub_c rfl (sh_sub_c rfl (sh_sub_n)))))))) (sl_303_254 e tg)
        · refine sh_Lk_lift (T := m.T) (I := m.I) (J := m.J) (s := m.s) (pc2 := 253) (lv2 := [(0, .ref 67), (1, .int x1), (5, .long x5), (7, .int x7), (8, .int x8), (9, .int x9), (10, .int x10), (11, .int x11)]) (st2 := []) (I2 := m.I) (J2 := m.J) (fun hT v kk => ?_) ?_
          · refine sh_j0 (c := .ne) (off := (7)) (pc2 := 253) true rfl (sh_Bnet c) rfl ?_
            exact kk
          exact sh_Lk_sub (sh_sub_c rfl (sh_sub_c rfl (sh_sub_c rfl (sh_sub_c rfl (sh_sub_c rfl (sh_sub_c rfl (sh_sub_c rfl (sh_sub_n)))))))) (sl_303_253 e tg)
      · refine sh_Lk_lift (T := m.T) (I := m.I) (J := m.J) (s := m.s) (pc2 := 253) (lv2 := [(0, .ref 67), (1, .int x1), (5, .long x5), (7, .int x7), (8, .int x8), (9, .int x9), (10, .int x10), (11, .int x11)]) (st2 := []) (I2 := m.I) (J2 := m.J) (fun hT v kk => ?_) ?_
        · refine sh_j0 (c := .ne) (off := (14)) (pc2 := 253) true rfl (sh_Bnet c) rfl ?_
          exact kk
        exact sh_Lk_sub (sh_sub_c rfl (sh_sub_c rfl (sh_sub_c rfl (sh_sub_c rfl (sh_sub_c rfl (sh_sub_c rfl (sh_sub_c rfl (sh_sub_n)))))))) (sl_303_253 e tg)
    · refine sh_Lk_lift (T := m.T) (I := m.I) (J := m.J) (s := m.s) (pc2 := 253) (lv2 := [(0, .ref 67), (1, .int x1), (5, .long x5), (7, .int x7), (8, .int x8), (9, .int x9), (10, .int x10), (11, .int x11)]) (st2 := []) (I2 := m.I) (J2 := m.J) (fun hT v kk => ?_) ?_
      · refine sh_jc (c := .ne) (off := (19)) (pc2 := 253) true rfl (sh_Bnet c) rfl ?_
        exact kk
      exact sh_Lk_sub (sh_sub_c rfl (sh_sub_c rfl (sh_sub_c rfl (sh_sub_c rfl (sh_sub_c rfl (sh_sub_c rfl (sh_sub_c rfl (sh_sub_n)))))))) (sl_303_253 e tg)
  · refine sh_Lk_lift (T := m.T) (I := m.I) (J := m.J) (s := m.s) (pc2 := 253) (lv2 := [(0, .ref 67), (1, .int x1), (5, .long x5), (7, .int x7), (8, .int x8), (9, .int x9), (10, .int x10), (11, .int x11)]) (st2 := []) (I2 := m.I) (J2 := m.J) (fun hT v kk => ?_) ?_
    · refine sh_jc (c := .ne) (off := (28)) (pc2 := 253) true rfl (sh_Bnet c) rfl ?_
      exact kk
    exact sh_Lk_sub (sh_sub_c rfl (sh_sub_c rfl (sh_sub_c rfl (sh_sub_c rfl (sh_sub_c rfl (sh_sub_c rfl (sh_sub_c rfl (sh_sub_n)))))))) (sl_303_253 e tg)
theorem sl_303_190 {x1 : Int32} {x5 : Int64} {x7 : Int32} {x8 : Int32} {x9 : Int32} {x10 : Int32} {x11 : Int32} {m m2 : sh_X} {o : Outcome} {z : (Bool × sh_X)} (e : sf_303_190 x1 x5 x7 x8 x9 x10 x11 m = some z) (tg : (sh_tZ o m2) z) : sh_Lk 303 190 [(0, .ref 67), (1, .int x1), (5, .long x5), (7, .int x7), (8, .int x8), (9, .int x9), (10, .int x10), (11, .int x11)] [] m o m2 13 326 := by
  unfold sf_303_190 at e
  refine sh_Lk_lift (T := m.T) (I := m.I) (J := m.J) (s := m.s) (pc2 := 195) (lv2 := [(0, .ref 67), (1, .int x1), (5, .long x5), (7, .int x7), (8, .int x8), (9, .int x9), (10, .int x10), (11, .int x11)]) (st2 := [.int 3, .int (m.I 66 43)]) (I2 := m.I) (J2 := m.J) (fun hT v kk => ?_) ?_
  · refine sh_w (i := (.aload_n 0)) (len := 1) (pc2 := 191) (lv2 := [(0, .ref 67), (1, .int x1), (5, .long x5), (7, .int x7), (8, .int x8), (9, .int x9), (10, .int x10), (11, .int x11)]) (st2 := [.ref 67]) (h2 := (sh_rep m.T m.I m.J)) rfl rfl rfl ?_
    refine sh_gI1 (len := 3) (x := m.I 66 43) (pc2 := 194) rfl rfl (sh_s66 hT.st) rfl rfl rfl ?_
    refine sh_w (i := (.iconst 3)) (len := 1) (pc2 := 195) (lv2 := [(0, .ref 67), (1, .int x1), (5, .long x5), (7, .int x7), (8, .int x8), (9, .int x9), (10, .int x10), (11, .int x11)]) (st2 := [.int 3, .int (m.I 66 43)]) (h2 := (sh_rep m.T m.I m.J)) rfl rfl rfl ?_
    exact kk
  rcases sh_ite e with ⟨c, e⟩ | ⟨c, e⟩
  · refine sh_Lk_lift (T := m.T) (I := m.I) (J := m.J) (s := m.s) (pc2 := 204) (lv2 := [(0, .ref 67), (1, .int x1), (5, .long x5), (7, .int x7), (8, .int x8), (9, .int x9), (10, .int x10), (11, .int x11)]) (st2 := [.int x1, .ref 76, .ref 67]) (I2 := m.I) (J2 := m.J) (fun hT v kk => ?_) ?_
    · refine sh_jc (c := .ne) (off := (24)) (pc2 := 198) false rfl (sh_Bnef c) rfl ?_
      refine sh_w (i := (.aload_n 0)) (len := 1) (pc2 := 199) (lv2 := [(0, .ref 67), (1, .int x1), (5, .long x5), (7, .int x7), (8, .int x8), (9, .int x9), (10, .int x10), (11, .int x11)]) (st2 := [.ref 67]) (h2 := (sh_rep m.T m.I m.J)) rfl rfl rfl ?_
      refine sh_w (i := (.aload_n 0)) (len := 1) (pc2 := 200) (lv2 := [(0, .ref 67), (1, .int x1), (5, .long x5), (7, .int x7), (8, .int x8), (9, .int x9), (10, .int x10), (11, .int x11)]) (st2 := [.ref 67, .ref 67]) (h2 := (sh_rep m.T m.I m.J)) rfl rfl rfl ?_
      refine sh_gR1 (len := 3) (x := .ref 76) (pc2 := 203) rfl rfl (sh_s66 hT.st) rfl rfl ?_
      refine sh_w (i := (.iload_n 1)) (len := 1) (pc2 := 204) (lv2 := [(0, .ref 67), (1, .int x1), (5, .long x5), (7, .int x7), (8, .int x8), (9, .int x9), (10, .int x10), (11, .int x11)]) (st2 := [.int x1, .ref 76, .ref 67]) (h2 := (sh_rep m.T m.I m.J)) rfl rfl rfl ?_
      exact kk
    obtain ⟨c, e⟩ := sh_gd e
    refine sh_Lk_lift (T := m.T) (I := m.I) (J := m.J) (s := m.s) (pc2 := 211) (lv2 := [(0, .ref 67), (1, .int x1), (5, .long x5), (7, .int x7), (8, .int x8), (9, .int x9), (10, .int x10), (11, .int x11)]) (st2 := [.int x10, .int x9, .int x8, .int (m.I 75 (Int32.toNatClampNeg x1)), .ref 67]) (I2 := m.I) (J2 := m.J) (fun hT v kk => ?_) ?_
    · refine sh_ia1 (x := m.I 75 (Int32.toNatClampNeg x1)) (pc2 := 205) rfl (sh_s75 hT.st) (sh_okb1 c) (sh_okb2 c) rfl rfl ?_
      refine sh_w (i := (.iload 8)) (len := 2) (pc2 := 207) (lv2 := [(0, .ref 67), (1, .int x1), (5, .long x5), (7, .int x7), (8, .int x8), (9, .int x9), (10, .int x10), (11, .int x11)]) (st2 := [.int x8, .int (m.I 75 (Int32.toNatClampNeg x1)), .ref 67]) (h2 := (sh_rep m.T m.I m.J)) rfl rfl rfl ?_
      refine sh_w (i := (.iload 9)) (len := 2) (pc2 := 209) (lv2 := [(0, .ref 67), (1, .int x1), (5, .long x5), (7, .int x7), (8, .int x8), (9, .int x9), (10, .int x10), (11, .int x11)]) (st2 := [.int x9, .int x8, .int (m.I 75 (Int32.toNatClampNeg x1)), .ref 67]) (h2 := (sh_rep m.T m.I m.J)) rfl rfl rfl ?_
      refine sh_w (i := (.iload 10)) (len := 2) (pc2 := 211) (lv2 := [(0, .ref 67), (1, .int x1), (5, .long x5), (7, .int x7), (8, .int x8), (9, .int x9), (10, .int x10), (11, .int x11)]) (st2 := [.int x10, .int x9, .int x8, .int (m.I 75 (Int32.toNatClampNeg x1)), .ref 67]) (h2 := (sh_rep m.T m.I m.J)) rfl rfl rfl ?_
      exact kk
    obtain ⟨r1, m11, e1, e⟩ := sh_bn_e e
    refine sh_Lk_cV (r := (some (.int (sh_b2 r1)))) (st2 := [.int (sh_b2 r1)]) (pc2 := 214) (k2 := 299) (a := 66) (as := [.ref 67, .int (m.I 75 (Int32.toNatClampNeg x1)), .int x8, .int x9, .int x10]) (rest := []) rfl rfl rfl (fun hT => (sh_s66 hT.st)) rfl rfl ⟨Nat.le_of_ble_eq_true rfl, Nat.le_of_ble_eq_true rfl⟩ (sl_299 e1 ⟨rfl, rfl⟩) rfl rfl (Nat.le_of_ble_eq_true rfl) (Nat.le_of_ble_eq_true rfl) ?_
    rcases sh_ite e with ⟨c, e⟩ | ⟨c, e⟩
    · refine sh_Lk_lift (T := m11.T) (I := m11.I) (J := m11.J) (s := m11.s) (pc2 := 219) (lv2 := [(0, .ref 67), (1, .int x1), (5, .long x5), (7, .int x7), (8, .int x8), (9, .int x9), (10, .int x10), (11, .int x11)]) (st2 := []) (I2 := m11.I) (J2 := m11.J) (fun hT v kk => ?_) ?_
      · refine sh_j0 (c := .ne) (off := (5)) (pc2 := 219) true rfl (sh_Znet c) rfl ?_
        exact kk
      exact sh_Lk_sub (sh_sub_c rfl (sh_sub_c rfl (sh_sub_c rfl (sh_sub_c rfl (sh_sub_c rfl (sh_sub_c rfl (sh_sub_c rfl (sh_sub_c rfl (sh_sub_n))))))))) (sl_303_219 e tg)
    · refine sh_Lk_lift (T := m11.T) (I := m11.I) (J := m11.J) (s := m11.s) (pc2 := 218) (lv2 := [(0, .ref 67), (1, .int x1), (5, .long x5), (7, .int x7), (8, .int x8), (9, .int x9), (10, .int x10), (11, .int x11)]) (st2 := [.int 0]) (I2 := m11.I) (J2 := m11.J) (fun hT v kk => ?_) ?_
      · refine sh_j0 (c := .ne) (off := (5)) (pc2 := 217) false rfl (sh_Znef c) rfl ?_
        refine sh_w (i := (.iconst 0)) (len := 1) (pc2 := 218) (lv2 := [(0, .ref 67), (1, .int x1), (5, .long x5), (7, .int x7), (8, .int x8), (9, .int x9), (10, .int x10), (11, .int x11)]) (st2 := [.int 0]) (h2 := (sh_rep m11.T m11.I m11.J)) rfl rfl rfl ?_
        exact kk
      obtain rfl := Option.some.inj e
      obtain ⟨rfl, rfl⟩ := tg
      exact sh_Lk_ret (i := .ireturn) rfl rfl rfl (Nat.le_of_ble_eq_true rfl) (Nat.le_of_ble_eq_true rfl)
  · refine sh_Lk_lift (T := m.T) (I := m.I) (J := m.J) (s := m.s) (pc2 := 219) (lv2 := [(0, .ref 67), (1, .int x1), (5, .long x5), (7, .int x7), (8, .int x8), (9, .int x9), (10, .int x10), (11, .int x11)]) (st2 := []) (I2 := m.I) (J2 := m.J) (fun hT v kk => ?_) ?_
    · refine sh_jc (c := .ne) (off := (24)) (pc2 := 219) true rfl (sh_Bnet c) rfl ?_
      exact kk
    exact sh_Lk_sub (sh_sub_c rfl (sh_sub_c rfl (sh_sub_c rfl (sh_sub_c rfl (sh_sub_c rfl (sh_sub_c rfl (sh_sub_c rfl (sh_sub_c rfl (sh_sub_n))))))))) (sl_303_219 e tg)
theorem sl_303_143 {x1 : Int32} {x5 : Int64} {x7 : Int32} {x11 : Int32} {x13 : Int32} {x14 : Int32} {x15 : Int32} {x16 : Int64} {y1 : Int32} {y2 : Int32} {y3 : Int32} {y4 : Int32} {m m2 : sh_X} {o : Outcome} {z : (Bool × sh_X)} (e : sf_303_143 x1 x5 x7 x11 x13 x14 x15 x16 y1 y2 y3 y4 m = some z) (tg : (sh_tZ o m2) z) : sh_Lk 303 143 [(0, .ref 67), (1, .int x1), (5, .long x5), (7, .int x7), (11, .int x11), (13, .int x13), (14, .int x14), (15, .int x15), (16, .long x16)] [.int y4, .int y3, .int y2, .int y1, .ref 67] m o m2 13 326 := by
  unfold sf_303_143 at e
  obtain ⟨r1, m11, e1, e⟩ := sh_bn_e e
  refine sh_Lk_cV (r := (some (.int (sh_b2 r1)))) (st2 := [.int (sh_b2 r1)]) (pc2 := 146) (k2 := 299) (a := 66) (as := [.ref 67, .int y1, .int y2, .int y3, .int y4]) (rest := []) rfl rfl rfl (fun hT => (sh_s66 hT.st)) rfl rfl ⟨Nat.le_of_ble_eq_true rfl, Nat.le_of_ble_eq_true rfl⟩ (sl_299 e1 ⟨rfl, rfl⟩) rfl rfl (Nat.le_of_ble_eq_true rfl) (Nat.le_of_ble_eq_true rfl) ?_
  rcases sh_ite e with ⟨c, e⟩ | ⟨c, e⟩
  · refine sh_Lk_lift (T := m11.T) (I := m11.I) (J := m11.J) (s := m11.s) (pc2 := 190) (lv2 := [(10, .int 0), (9, .int (m11.I 66 44)), (8, .int (m11.I 66 43)), (0, .ref 67), (1, .int x1), (5, .long x5), (7, .int x7), (11, .int x11), (13, .int x13), (14, .int x14), (15, .int x15), (16, .long x16)]) (st2 := []) (I2 := sh_u2 (sh_u2 (sh_u2 m11.I 66 43 x13) 66 44 x14) 66 45 x15) (J2 := sh_u2 m11.J 66 46 x16) (fun hT v kk => ?_) ?_
    · refine sh_j0 (c := .ne) (off := (5)) (pc2 := 151) true rfl (sh_Znet c) rfl ?_
      refine sh_w (i := (.aload_n 0)) (len := 1) (pc2 := 152) (lv2 := [(0, .ref 67), (1, .int x1), (5, .long x5), (7, .int x7), (11, .int x11), (13, .int x13), (14, .int x14), (15, .int x15), (16, .long x16)]) (st2 := [.ref 67]) (h2 := (sh_rep m11.T m11.I m11.J)) rfl rfl rfl ?_
      refine sh_gI1 (len := 3) (x := m11.I 66 43) (pc2 := 155) rfl rfl (sh_s66 hT.st) rfl rfl rfl ?_
      refine sh_w (i := (.istore 8)) (len := 2) (pc2 := 157) (lv2 := [(8, .int (m11.I 66 43)), (0, .ref 67), (1, .int x1), (5, .long x5), (7, .int x7), (11, .int x11), (13, .int x13), (14, .int x14), (15, .int x15), (16, .long x16)]) (st2 := []) (h2 := (sh_rep m11.T m11.I m11.J)) rfl rfl rfl ?_
      refine sh_w (i := (.aload_n 0)) (len := 1) (pc2 := 158) (lv2 := [(8, .int (m11.I 66 43)), (0, .ref 67), (1, .int x1), (5, .long x5), (7, .int x7), (11, .int x11), (13, .int x13), (14, .int x14), (15, .int x15), (16, .long x16)]) (st2 := [.ref 67]) (h2 := (sh_rep m11.T m11.I m11.J)) rfl rfl rfl ?_
      refine sh_gI1 (len := 3) (x := m11.I 66 44) (pc2 := 161) rfl rfl (sh_s66 hT.st) rfl rfl rfl ?_
      refine sh_w (i := (.istore 9)) (len := 2) (pc2 := 163) (lv2 := [(9, .int (m11.I 66 44)), (8, .int (m11.I 66 43)), (0, .ref 67), (1, .int x1), (5, .long x5), (7, .int x7), (11, .int x11), (13, .int x13), (14, .int x14), (15, .int x15), (16, .long x16)]) (st2 := []) (h2 := (sh_rep m11.T m11.I m11.J)) rfl rfl rfl ?_
      refine sh_w (i := (.iconst 0)) (len := 1) (pc2 := 164) (lv2 := [(9, .int (m11.I 66 44)), (8, .int (m11.I 66 43)), (0, .ref 67), (1, .int x1), (5, .long x5), (7, .int x7), (11, .int x11), (13, .int x13), (14, .int x14), (15, .int x15), (16, .long x16)]) (st2 := [.int 0]) (h2 := (sh_rep m11.T m11.I m11.J)) rfl rfl rfl ?_
      refine sh_w (i := (.istore 10)) (len := 2) (pc2 := 166) (lv2 := [(10, .int 0), (9, .int (m11.I 66 44)), (8, .int (m11.I 66 43)), (0, .ref 67), (1, .int x1), (5, .long x5), (7, .int x7), (11, .int x11), (13, .int x13), (14, .int x14), (15, .int x15), (16, .long x16)]) (st2 := []) (h2 := (sh_rep m11.T m11.I m11.J)) rfl rfl rfl ?_
      refine sh_w (i := (.aload_n 0)) (len := 1) (pc2 := 167) (lv2 := [(10, .int 0), (9, .int (m11.I 66 44)), (8, .int (m11.I 66 43)), (0, .ref 67), (1, .int x1), (5, .long x5), (7, .int x7), (11, .int x11), (13, .int x13), (14, .int x14), (15, .int x15), (16, .long x16)]) (st2 := [.ref 67]) (h2 := (sh_rep m11.T m11.I m11.J)) rfl rfl rfl ?_
      refine sh_w (i := (.iload 13)) (len := 2) (pc2 := 169) (lv2 := [(10, .int 0), (9, .int (m11.I 66 44)), (8, .int (m11.I 66 43)), (0, .ref 67), (1, .int x1), (5, .long x5), (7, .int x7), (11, .int x11), (13, .int x13), (14, .int x14), (15, .int x15), (16, .long x16)]) (st2 := [.int x13, .ref 67]) (h2 := (sh_rep m11.T m11.I m11.J)) rfl rfl rfl ?_
      refine sh_pI1 (x := x13) (pc2 := 172) rfl rfl (sh_s66 hT.st) rfl rfl rfl rfl ?_
      refine sh_w (i := (.aload_n 0)) (len := 1) (pc2 := 173) (lv2 := [(10, .int 0), (9, .int (m11.I 66 44)), (8, .int (m11.I 66 43)), (0, .ref 67), (1, .int x1), (5, .long x5), (7, .int x7), (11, .int x11), (13, .int x13), (14, .int x14), (15, .int x15), (16, .long x16)]) (st2 := [.ref 67]) (h2 := (sh_rep m11.T (sh_u2 m11.I 66 43 x13) m11.J)) rfl rfl rfl ?_
      refine sh_w (i := (.iload 14)) (len := 2) (pc2 := 175) (lv2 := [(10, .int 0), (9, .int (m11.I 66 44)), (8, .int (m11.I 66 43)), (0, .ref 67), (1, .int x1), (5, .long x5), (7, .int x7), (11, .int x11), (13, .int x13), (14, .int x14), (15, .int x15), (16, .long x16)]) (st2 := [.int x14, .ref 67]) (h2 := (sh_rep m11.T (sh_u2 m11.I 66 43 x13) m11.J)) rfl rfl rfl ?_
      refine sh_pI1 (x := x14) (pc2 := 178) rfl rfl (sh_s66 hT.st) rfl rfl rfl rfl ?_
      refine sh_w (i := (.aload_n 0)) (len := 1) (pc2 := 179) (lv2 := [(10, .int 0), (9, .int (m11.I 66 44)), (8, .int (m11.I 66 43)), (0, .ref 67), (1, .int x1), (5, .long x5), (7, .int x7), (11, .int x11), (13, .int x13), (14, .int x14), (15, .int x15), (16, .long x16)]) (st2 := [.ref 67]) (h2 := (sh_rep m11.T (sh_u2 (sh_u2 m11.I 66 43 x13) 66 44 x14) m11.J)) rfl rfl rfl ?_
      refine sh_w (i := (.iload 15)) (len := 2) (pc2 := 181) (lv2 := [(10, .int 0), (9, .int (m11.I 66 44)), (8, .int (m11.I 66 43)), (0, .ref 67), (1, .int x1), (5, .long x5), (7, .int x7), (11, .int x11), (13, .int x13), (14, .int x14), (15, .int x15), (16, .long x16)]) (st2 := [.int x15, .ref 67]) (h2 := (sh_rep m11.T (sh_u2 (sh_u2 m11.I 66 43 x13) 66 44 x14) m11.J)) rfl rfl rfl ?_
      refine sh_pI1 (x := x15) (pc2 := 184) rfl rfl (sh_s66 hT.st) rfl rfl rfl rfl ?_
      refine sh_w (i := (.aload_n 0)) (len := 1) (pc2 := 185) (lv2 := [(10, .int 0), (9, .int (m11.I 66 44)), (8, .int (m11.I 66 43)), (0, .ref 67), (1, .int x1), (5, .long x5), (7, .int x7), (11, .int x11), (13, .int x13), (14, .int x14), (15, .int x15), (16, .long x16)]) (st2 := [.ref 67]) (h2 := (sh_rep m11.T (sh_u2 (sh_u2 (sh_u2 m11.I 66 43 x13) 66 44 x14) 66 45 x15) m11.J)) rfl rfl rfl ?_
      refine sh_w (i := (.lload 16)) (len := 2) (pc2 := 187) (lv2 := [(10, .int 0), (9, .int (m11.I 66 44)), (8, .int (m11.I 66 43)), (0, .ref 67), (1, .int x1), (5, .long x5), (7, .int x7), (11, .int x11), (13, .int x13), (14, .int x14), (15, .int x15), (16, .long x16)]) (st2 := [.long x16, .ref 67]) (h2 := (sh_rep m11.T (sh_u2 (sh_u2 (sh_u2 m11.I 66 43 x13) 66 44 x14) 66 45 x15) m11.J)) rfl rfl rfl ?_
      refine sh_pJ1 (x := x16) (pc2 := 190) rfl rfl (sh_s66 hT.st) rfl rfl rfl rfl ?_
      exact kk
    exact sh_Lk_sub (sh_sub_c rfl (sh_sub_c rfl (sh_sub_c rfl (sh_sub_c rfl (sh_sub_c rfl (sh_sub_c rfl (sh_sub_c rfl (sh_sub_c rfl (sh_sub_n))))))))) (sl_303_190 e tg)
  · refine sh_Lk_lift (T := m11.T) (I := m11.I) (J := m11.J) (s := m11.s) (pc2 := 150) (lv2 := [(0, .ref 67), (1, .int x1), (5, .long x5), (7, .int x7), (11, .int x11), (13, .int x13), (14, .int x14), (15, .int x15), (16, .long x16)]) (st2 := [.int 0]) (I2 := m11.I) (J2 := m11.J) (fun hT v kk => ?_) ?_
    · refine sh_j0 (c := .ne) (off := (5)) (pc2 := 149) false rfl (sh_Znef c) rfl ?_
      refine sh_w (i := (.iconst 0)) (len := 1) (pc2 := 150) (lv2 := [(0, .ref 67), (1, .int x1), (5, .long x5), (7, .int x7), (11, .int x11), (13, .int x13), (14, .int x14), (15, .int x15), (16, .long x16)]) (st2 := [.int 0]) (h2 := (sh_rep m11.T m11.I m11.J)) rfl rfl rfl ?_
      exact kk
    obtain rfl := Option.some.inj e
    obtain ⟨rfl, rfl⟩ := tg
    exact sh_Lk_ret (i := .ireturn) rfl rfl rfl (Nat.le_of_ble_eq_true rfl) (Nat.le_of_ble_eq_true rfl)
theorem sl_303_132 {x1 : Int32} {x5 : Int64} {x7 : Int32} {x11 : Int32} {x12 : Bool} {x13 : Int32} {x14 : Int32} {x15 : Int32} {x16 : Int64} {y1 : Int32} {y2 : Int32} {y3 : Int32} {m m2 : sh_X} {o : Outcome} {z : (Bool × sh_X)} (e : sf_303_132 x1 x5 x7 x11 x12 x13 x14 x15 x16 y1 y2 y3 m = some z) (tg : (sh_tZ o m2) z) : sh_Lk 303 132 [(0, .ref 67), (1, .int x1), (5, .long x5), (7, .int x7), (11, .int x11), (12, .int (sh_b2 x12)), (13, .int x13), (14, .int x14), (15, .int x15), (16, .long x16)] [.int y3, .int y2, .int y1, .ref 67] m o m2 13 326 := by
  unfold sf_303_132 at e
  refine sh_Lk_lift (T := m.T) (I := m.I) (J := m.J) (s := m.s) (pc2 := 134) (lv2 := [(0, .ref 67), (1, .int x1), (5, .long x5), (7, .int x7), (11, .int x11), (12, .int (sh_b2 x12)), (13, .int x13), (14, .int x14), (15, .int x15), (16, .long x16)]) (st2 := [.int (sh_b2 x12), .int y3, .int y2, .int y1, .ref 67]) (I2 := m.I) (J2 := m.J) (fun hT v kk => ?_) ?_
  · refine sh_w (i := (.iload 12)) (len := 2) (pc2 := 134) (lv2 := [(0, .ref 67), (1, .int x1), (5, .long x5), (7, .int x7), (11, .int x11), (12, .int (sh_b2 x12)), (13, .int x13), (14, .int x14), (15, .int x15), (16, .long x16)]) (st2 := [.int (sh_b2 x12), .int y3, .int y2, .int y1, .ref 67]) (h2 := (sh_rep m.T m.I m.J)) rfl rfl rfl ?_
    exact kk
  rcases sh_ite e with ⟨c, e⟩ | ⟨c, e⟩
  · refine sh_Lk_lift (T := m.T) (I := m.I) (J := m.J) (s := m.s) (pc2 := 143) (lv2 := [(0, .ref 67), (1, .int x1), (5, .long x5), (7, .int x7), (11, .int x11), (12, .int (sh_b2 x12)), (13, .int x13), (14, .int x14), (15, .int x15), (16, .long x16)]) (st2 := [.int x15, .int y3, .int y2, .int y1, .ref 67]) (I2 := m.I) (J2 := m.J) (fun hT v kk => ?_) ?_
    · refine sh_j0 (c := .eq) (off := (8)) (pc2 := 137) false rfl (sh_Zeqf c) rfl ?_
      refine sh_w (i := (.iload 15)) (len := 2) (pc2 := 139) (lv2 := [(0, .ref 67), (1, .int x1), (5, .long x5), (7, .int x7), (11, .int x11), (12, .int (sh_b2 x12)), (13, .int x13), (14, .int x14), (15, .int x15), (16, .long x16)]) (st2 := [.int x15, .int y3, .int y2, .int y1, .ref 67]) (h2 := (sh_rep m.T m.I m.J)) rfl rfl rfl ?_
      refine sh_w (i := (.goto 4)) (len := 3) (pc2 := 143) (lv2 := [(0, .ref 67), (1, .int x1), (5, .long x5), (7, .int x7), (11, .int x11), (12, .int (sh_b2 x12)), (13, .int x13), (14, .int x14), (15, .int x15), (16, .long x16)]) (st2 := [.int x15, .int y3, .int y2, .int y1, .ref 67]) (h2 := (sh_rep m.T m.I m.J)) rfl rfl rfl ?_
      exact kk
    exact sh_Lk_sub (sh_sub_c rfl (sh_sub_c rfl (sh_sub_c rfl (sh_sub_c rfl (sh_sub_c rfl (sh_sub_c rfl (sh_sub_c rfl (sh_sub_c rfl (sh_sub_c rfl (sh_sub_n)))))))))) (sl_303_143 e tg)
  · refine sh_Lk_lift (T := m.T) (I := m.I) (J := m.J) (s := m.s) (pc2 := 143) (lv2 := [(0, .ref 67), (1, .int x1), (5, .long x5), (7, .int x7), (11, .int x11), (12, .int (sh_b2 x12)), (13, .int x13), (14, .int x14), (15, .int x15), (16, .long x16)]) (st2 := [.int 0, .int y3, .int y2, .int y1, .ref 67]) (I2 := m.I) (J2 := m.J) (fun hT v kk => ?_) ?_
    · refine sh_j0 (c := .eq) (off := (8)) (pc2 := 142) true rfl (sh_Zeqt c) rfl ?_
      refine sh_w (i := (.iconst 0)) (len := 1) (pc2 := 143) (lv2 := [(0, .ref 67), (1, .int x1), (5, .long x5), (7, .int x7), (11, .int x11), (12, .int (sh_b2 x12)), (13, .int x13), (14, .int x14), (15, .int x15), (16, .long x16)]) (st2 := [.int 0, .int y3, .int y2, .int y1, .ref 67]) (h2 := (sh_rep m.T m.I m.J)) rfl rfl rfl ?_
      exact kk
    exact sh_Lk_sub (sh_sub_c rfl (sh_sub_c rfl (sh_sub_c rfl (sh_sub_c rfl (sh_sub_c rfl (sh_sub_c rfl (sh_sub_c rfl (sh_sub_c rfl (sh_sub_c rfl (sh_sub_n)))))))))) (sl_303_143 e tg)
theorem sl_303_120 {x1 : Int32} {x5 : Int64} {x7 : Int32} {x11 : Int32} {x12 : Bool} {x13 : Int32} {x14 : Int32} {x15 : Int32} {x16 : Int64} {y1 : Int32} {y2 : Int32} {m m2 : sh_X} {o : Outcome} {z : (Bool × sh_X)} (e : sf_303_120 x1 x5 x7 x11 x12 x13 x14 x15 x16 y1 y2 m = some z) (tg : (sh_tZ o m2) z) : sh_Lk 303 120 [(0, .ref 67), (1, .int x1), (5, .long x5), (7, .int x7), (11, .int x11), (12, .int (sh_b2 x12)), (13, .int x13), (14, .int x14), (15, .int x15), (16, .long x16)] [.int y2, .int y1, .ref 67] m o m2 13 326 := by
  unfold sf_303_120 at e
  refine sh_Lk_lift (T := m.T) (I := m.I) (J := m.J) (s := m.s) (pc2 := 122) (lv2 := [(0, .ref 67), (1, .int x1), (5, .long x5), (7, .int x7), (11, .int x11), (12, .int (sh_b2 x12)), (13, .int x13), (14, .int x14), (15, .int x15), (16, .long x16)]) (st2 := [.int (sh_b2 x12), .int y2, .int y1, .ref 67]) (I2 := m.I) (J2 := m.J) (fun hT v kk => ?_) ?_
  · refine sh_w (i := (.iload 12)) (len := 2) (pc2 := 122) (lv2 := [(0, .ref 67), (1, .int x1), (5, .long x5), (7, .int x7), (11, .int x11), (12, .int (sh_b2 x12)), (13, .int x13), (14, .int x14), (15, .int x15), (16, .long x16)]) (st2 := [.int (sh_b2 x12), .int y2, .int y1, .ref 67]) (h2 := (sh_rep m.T m.I m.J)) rfl rfl rfl ?_
    exact kk
  rcases sh_ite e with ⟨c, e⟩ | ⟨c, e⟩
  · refine sh_Lk_lift (T := m.T) (I := m.I) (J := m.J) (s := m.s) (pc2 := 132) (lv2 := [(0, .ref 67), (1, .int x1), (5, .long x5), (7, .int x7), (11, .int x11), (12, .int (sh_b2 x12)), (13, .int x13), (14, .int x14), (15, .int x15), (16, .long x16)]) (st2 := [.int x14, .int y2, .int y1, .ref 67]) (I2 := m.I) (J2 := m.J) (fun hT v kk => ?_) ?_
    · refine sh_j0 (c := .eq) (off := (8)) (pc2 := 125) false rfl (sh_Zeqf c) rfl ?_
      refine sh_w (i := (.iload 14)) (len := 2) (pc2 := 127) (lv2 := [(0, .ref 67), (1, .int x1), (5, .long x5), (7, .int x7), (11, .int x11), (12, .int (sh_b2 x12)), (13, .int x13), (14, .int x14), (15, .int x15), (16, .long x16)]) (st2 := [.int x14, .int y2, .int y1, .ref 67]) (h2 := (sh_rep m.T m.I m.J)) rfl rfl rfl ?_
      refine sh_w (i := (.goto 5)) (len := 3) (pc2 := 132) (lv2 := [(0, .ref 67), (1, .int x1), (5, .long x5), (7, .int x7), (11, .int x11), (12, .int (sh_b2 x12)), (13, .int x13), (14, .int x14), (15, .int x15), (16, .long x16)]) (st2 := [.int x14, .int y2, .int y1, .ref 67]) (h2 := (sh_rep m.T m.I m.J)) rfl rfl rfl ?_
      exact kk
    exact sh_Lk_sub (sh_sub_c rfl (sh_sub_c rfl (sh_sub_c rfl (sh_sub_c rfl (sh_sub_c rfl (sh_sub_c rfl (sh_sub_c rfl (sh_sub_c rfl (sh_sub_c rfl (sh_sub_c rfl (sh_sub_n))))))))))) (sl_303_132 e tg)
  · refine sh_Lk_lift (T := m.T) (I := m.I) (J := m.J) (s := m.s) (pc2 := 132) (lv2 := [(0, .ref 67), (1, .int x1), (5, .long x5), (7, .int x7), (11, .int x11), (12, .int (sh_b2 x12)), (13, .int x13), (14, .int x14), (15, .int x15), (16, .long x16)]) (st2 := [.int 32, .int y2, .int y1, .ref 67]) (I2 := m.I) (J2 := m.J) (fun hT v kk => ?_) ?_
    · refine sh_j0 (c := .eq) (off := (8)) (pc2 := 130) true rfl (sh_Zeqt c) rfl ?_
      refine sh_w (i := (.bipush 32)) (len := 2) (pc2 := 132) (lv2 := [(0, .ref 67), (1, .int x1), (5, .long x5), (7, .int x7), (11, .int x11), (12, .int (sh_b2 x12)), (13, .int x13), (14, .int x14), (15, .int x15), (16, .long x16)]) (st2 := [.int 32, .int y2, .int y1, .ref 67]) (h2 := (sh_rep m.T m.I m.J)) rfl rfl rfl ?_
      exact kk
    exact sh_Lk_sub (sh_sub_c rfl (sh_sub_c rfl (sh_sub_c rfl (sh_sub_c rfl (sh_sub_c rfl (sh_sub_c rfl (sh_sub_c rfl (sh_sub_c rfl (sh_sub_c rfl (sh_sub_c rfl (sh_sub_n))))))))))) (sl_303_132 e tg)
theorem sl_303_70 {x1 : Int32} {x5 : Int64} {x7 : Int32} {x11 : Int32} {y0 : Bool} {m m2 : sh_X} {o : Outcome} {z : (Bool × sh_X)} (e : sf_303_70 x1 x5 x7 x11 y0 m = some z) (tg : (sh_tZ o m2) z) : sh_Lk 303 70 [(0, .ref 67), (1, .int x1), (5, .long x5), (7, .int x7), (11, .int x11)] [.int (sh_b2 y0)] m o m2 13 326 := by
  unfold sf_303_70 at e
  refine sh_Lk_lift (T := m.T) (I := m.I) (J := m.J) (s := m.s) (pc2 := 108) (lv2 := [(16, .long (m.J 66 46)), (15, .int (m.I 66 45)), (14, .int (m.I 66 44)), (13, .int (m.I 66 43)), (12, .int (sh_b2 y0)), (0, .ref 67), (1, .int x1), (5, .long x5), (7, .int x7), (11, .int x11)]) (st2 := [.int x1, .ref 75, .ref 67]) (I2 := m.I) (J2 := sh_u2 m.J 66 46 x5) (fun hT v kk => ?_) ?_
  · refine sh_w (i := (.istore 12)) (len := 2) (pc2 := 72) (lv2 := [(12, .int (sh_b2 y0)), (0, .ref 67), (1, .int x1), (5, .long x5), (7, .int x7), (11, .int x11)]) (st2 := []) (h2 := (sh_rep m.T m.I m.J)) rfl rfl rfl ?_
    refine sh_w (i := (.aload_n 0)) (len := 1) (pc2 := 73) (lv2 := [(12, .int (sh_b2 y0)), (0, .ref 67), (1, .int x1), (5, .long x5), (7, .int x7), (11, .int x11)]) (st2 := [.ref 67]) (h2 := (sh_rep m.T m.I m.J)) rfl rfl rfl ?_
    refine sh_gI1 (len := 3) (x := m.I 66 43) (pc2 := 76) rfl rfl (sh_s66 hT.st) rfl rfl rfl ?_
    refine sh_w (i := (.istore 13)) (len := 2) (pc2 := 78) (lv2 := [(13, .int (m.I 66 43)), (12, .int (sh_b2 y0)), (0, .ref 67), (1, .int x1), (5, .long x5), (7, .int x7), (11, .int x11)]) (st2 := []) (h2 := (sh_rep m.T m.I m.J)) rfl rfl rfl ?_
    refine sh_w (i := (.aload_n 0)) (len := 1) (pc2 := 79) (lv2 := [(13, .int (m.I 66 43)), (12, .int (sh_b2 y0)), (0, .ref 67), (1, .int x1), (5, .long x5), (7, .int x7), (11, .int x11)]) (st2 := [.ref 67]) (h2 := (sh_rep m.T m.I m.J)) rfl rfl rfl ?_
    refine sh_gI1 (len := 3) (x := m.I 66 44) (pc2 := 82) rfl rfl (sh_s66 hT.st) rfl rfl rfl ?_
    refine sh_w (i := (.istore 14)) (len := 2) (pc2 := 84) (lv2 := [(14, .int (m.I 66 44)), (13, .int (m.I 66 43)), (12, .int (sh_b2 y0)), (0, .ref 67), (1, .int x1), (5, .long x5), (7, .int x7), (11, .int x11)]) (st2 := []) (h2 := (sh_rep m.T m.I m.J)) rfl rfl rfl ?_
    refine sh_w (i := (.aload_n 0)) (len := 1) (pc2 := 85) (lv2 := [(14, .int (m.I 66 44)), (13, .int (m.I 66 43)), (12, .int (sh_b2 y0)), (0, .ref 67), (1, .int x1), (5, .long x5), (7, .int x7), (11, .int x11)]) (st2 := [.ref 67]) (h2 := (sh_rep m.T m.I m.J)) rfl rfl rfl ?_
    refine sh_gI1 (len := 3) (x := m.I 66 45) (pc2 := 88) rfl rfl (sh_s66 hT.st) rfl rfl rfl ?_
    refine sh_w (i := (.istore 15)) (len := 2) (pc2 := 90) (lv2 := [(15, .int (m.I 66 45)), (14, .int (m.I 66 44)), (13, .int (m.I 66 43)), (12, .int (sh_b2 y0)), (0, .ref 67), (1, .int x1), (5, .long x5), (7, .int x7), (11, .int x11)]) (st2 := []) (h2 := (sh_rep m.T m.I m.J)) rfl rfl rfl ?_
    refine sh_w (i := (.aload_n 0)) (len := 1) (pc2 := 91) (lv2 := [(15, .int (m.I 66 45)), (14, .int (m.I 66 44)), (13, .int (m.I 66 43)), (12, .int (sh_b2 y0)), (0, .ref 67), (1, .int x1), (5, .long x5), (7, .int x7), (11, .int x11)]) (st2 := [.ref 67]) (h2 := (sh_rep m.T m.I m.J)) rfl rfl rfl ?_
    refine sh_gJ1 (len := 3) (x := m.J 66 46) (pc2 := 94) rfl rfl (sh_s66 hT.st) rfl rfl rfl ?_
    refine sh_w (i := (.lstore 16)) (len := 2) (pc2 := 96) (lv2 := [(16, .long (m.J 66 46)), (15, .int (m.I 66 45)), (14, .int (m.I 66 44)), (13, .int (m.I 66 43)), (12, .int (sh_b2 y0)), (0, .ref 67), (1, .int x1), (5, .long x5), (7, .int x7), (11, .int x11)]) (st2 := []) (h2 := (sh_rep m.T m.I m.J)) rfl rfl rfl ?_
    refine sh_w (i := (.aload_n 0)) (len := 1) (pc2 := 97) (lv2 := [(16, .long (m.J 66 46)), (15, .int (m.I 66 45)), (14, .int (m.I 66 44)), (13, .int (m.I 66 43)), (12, .int (sh_b2 y0)), (0, .ref 67), (1, .int x1), (5, .long x5), (7, .int x7), (11, .int x11)]) (st2 := [.ref 67]) (h2 := (sh_rep m.T m.I m.J)) rfl rfl rfl ?_
    refine sh_w (i := (.lload 5)) (len := 2) (pc2 := 99) (lv2 := [(16, .long (m.J 66 46)), (15, .int (m.I 66 45)), (14, .int (m.I 66 44)), (13, .int (m.I 66 43)), (12, .int (sh_b2 y0)), (0, .ref 67), (1, .int x1), (5, .long x5), (7, .int x7), (11, .int x11)]) (st2 := [.long x5, .ref 67]) (h2 := (sh_rep m.T m.I m.J)) rfl rfl rfl ?_
    refine sh_pJ1 (x := x5) (pc2 := 102) rfl rfl (sh_s66 hT.st) rfl rfl rfl rfl ?_
    refine sh_w (i := (.aload_n 0)) (len := 1) (pc2 := 103) (lv2 := [(16, .long (m.J 66 46)), (15, .int (m.I 66 45)), (14, .int (m.I 66 44)), (13, .int (m.I 66 43)), (12, .int (sh_b2 y0)), (0, .ref 67), (1, .int x1), (5, .long x5), (7, .int x7), (11, .int x11)]) (st2 := [.ref 67]) (h2 := (sh_rep m.T m.I (sh_u2 m.J 66 46 x5))) rfl rfl rfl ?_
    refine sh_w (i := (.aload_n 0)) (len := 1) (pc2 := 104) (lv2 := [(16, .long (m.J 66 46)), (15, .int (m.I 66 45)), (14, .int (m.I 66 44)), (13, .int (m.I 66 43)), (12, .int (sh_b2 y0)), (0, .ref 67), (1, .int x1), (5, .long x5), (7, .int x7), (11, .int x11)]) (st2 := [.ref 67, .ref 67]) (h2 := (sh_rep m.T m.I (sh_u2 m.J 66 46 x5))) rfl rfl rfl ?_
    refine sh_gR1 (len := 3) (x := .ref 75) (pc2 := 107) rfl rfl (sh_s66 hT.st) rfl rfl ?_
    refine sh_w (i := (.iload_n 1)) (len := 1) (pc2 := 108) (lv2 := [(16, .long (m.J 66 46)), (15, .int (m.I 66 45)), (14, .int (m.I 66 44)), (13, .int (m.I 66 43)), (12, .int (sh_b2 y0)), (0, .ref 67), (1, .int x1), (5, .long x5), (7, .int x7), (11, .int x11)]) (st2 := [.int x1, .ref 75, .ref 67]) (h2 := (sh_rep m.T m.I (sh_u2 m.J 66 46 x5))) rfl rfl rfl ?_
    exact kk
  obtain ⟨c, e⟩ := sh_gd e
  refine sh_Lk_lift (T := m.T) (I := m.I) (J := sh_u2 m.J 66 46 x5) (s := m.s) (pc2 := 111) (lv2 := [(16, .long (m.J 66 46)), (15, .int (m.I 66 45)), (14, .int (m.I 66 44)), (13, .int (m.I 66 43)), (12, .int (sh_b2 y0)), (0, .ref 67), (1, .int x1), (5, .long x5), (7, .int x7), (11, .int x11)]) (st2 := [.int (sh_b2 y0), .int (m.I 74 (Int32.toNatClampNeg x1)), .ref 67]) (I2 := m.I) (J2 := sh_u2 m.J 66 46 x5) (fun hT v kk => ?_) ?_
  · refine sh_ia1 (x := m.I 74 (Int32.toNatClampNeg x1)) (pc2 := 109) rfl (sh_s74 hT.st) (sh_okb1 c) (sh_okb2 c) rfl rfl ?_
    refine sh_w (i := (.iload 12)) (len := 2) (pc2 := 111) (lv2 := [(16, .long (m.J 66 46)), (15, .int (m.I 66 45)), (14, .int (m.I 66 44)), (13, .int (m.I 66 43)), (12, .int (sh_b2 y0)), (0, .ref 67), (1, .int x1), (5, .long x5), (7, .int x7), (11, .int x11)]) (st2 := [.int (sh_b2 y0), .int (m.I 74 (Int32.toNatClampNeg x1)), .ref 67]) (h2 := (sh_rep m.T m.I (sh_u2 m.J 66 46 x5))) rfl rfl rfl ?_
    exact kk
  rcases sh_ite e with ⟨c, e⟩ | ⟨c, e⟩
  · refine sh_Lk_lift (T := m.T) (I := m.I) (J := sh_u2 m.J 66 46 x5) (s := m.s) (pc2 := 120) (lv2 := [(16, .long (m.J 66 46)), (15, .int (m.I 66 45)), (14, .int (m.I 66 44)), (13, .int (m.I 66 43)), (12, .int (sh_b2 y0)), (0, .ref 67), (1, .int x1), (5, .long x5), (7, .int x7), (11, .int x11)]) (st2 := [.int (m.I 66 43), .int (m.I 74 (Int32.toNatClampNeg x1)), .ref 67]) (I2 := m.I) (J2 := sh_u2 m.J 66 46 x5) (fun hT v kk => ?_) ?_
    · refine sh_j0 (c := .eq) (off := (8)) (pc2 := 114) false rfl (sh_Zeqf c) rfl ?_
      refine sh_w (i := (.iload 13)) (len := 2) (pc2 := 116) (lv2 := [(16, .long (m.J 66 46)), (15, .int (m.I 66 45)), (14, .int (m.I 66 44)), (13, .int (m.I 66 43)), (12, .int (sh_b2 y0)), (0, .ref 67), (1, .int x1), (5, .long x5), (7, .int x7), (11, .int x11)]) (st2 := [.int (m.I 66 43), .int (m.I 74 (Int32.toNatClampNeg x1)), .ref 67]) (h2 := (sh_rep m.T m.I (sh_u2 m.J 66 46 x5))) rfl rfl rfl ?_
      refine sh_w (i := (.goto 4)) (len := 3) (pc2 := 120) (lv2 := [(16, .long (m.J 66 46)), (15, .int (m.I 66 45)), (14, .int (m.I 66 44)), (13, .int (m.I 66 43)), (12, .int (sh_b2 y0)), (0, .ref 67), (1, .int x1), (5, .long x5), (7, .int x7), (11, .int x11)]) (st2 := [.int (m.I 66 43), .int (m.I 74 (Int32.toNatClampNeg x1)), .ref 67]) (h2 := (sh_rep m.T m.I (sh_u2 m.J 66 46 x5))) rfl rfl rfl ?_
      exact kk
    exact sh_Lk_sub (sh_sub_c rfl (sh_sub_c rfl (sh_sub_c rfl (sh_sub_c rfl (sh_sub_c rfl (sh_sub_c rfl (sh_sub_c rfl (sh_sub_c rfl (sh_sub_c rfl (sh_sub_c rfl (sh_sub_n))))))))))) (sl_303_120 e tg)
  · refine sh_Lk_lift (T := m.T) (I := m.I) (J := sh_u2 m.J 66 46 x5) (s := m.s) (pc2 := 120) (lv2 := [(16, .long (m.J 66 46)), (15, .int (m.I 66 45)), (14, .int (m.I 66 44)), (13, .int (m.I 66 43)), (12, .int (sh_b2 y0)), (0, .ref 67), (1, .int x1), (5, .long x5), (7, .int x7), (11, .int x11)]) (st2 := [.int 2, .int (m.I 74 (Int32.toNatClampNeg x1)), .ref 67]) (I2 := m.I) (J2 := sh_u2 m.J 66 46 x5) (fun hT v kk => ?_) ?_
    · refine sh_j0 (c := .eq) (off := (8)) (pc2 := 119) true rfl (sh_Zeqt c) rfl ?_
      refine sh_w (i := (.iconst 2)) (len := 1) (pc2 := 120) (lv2 := [(16, .long (m.J 66 46)), (15, .int (m.I 66 45)), (14, .int (m.I 66 44)), (13, .int (m.I 66 43)), (12, .int (sh_b2 y0)), (0, .ref 67), (1, .int x1), (5, .long x5), (7, .int x7), (11, .int x11)]) (st2 := [.int 2, .int (m.I 74 (Int32.toNatClampNeg x1)), .ref 67]) (h2 := (sh_rep m.T m.I (sh_u2 m.J 66 46 x5))) rfl rfl rfl ?_
      exact kk
    exact sh_Lk_sub (sh_sub_c rfl (sh_sub_c rfl (sh_sub_c rfl (sh_sub_c rfl (sh_sub_c rfl (sh_sub_c rfl (sh_sub_c rfl (sh_sub_c rfl (sh_sub_c rfl (sh_sub_c rfl (sh_sub_n))))))))))) (sl_303_120 e tg)
theorem sl_303 {x1 : Int32} {x2 : Int32} {x3 : Int32} {x4 : Int32} {x5 : Int64} {m m2 : sh_X} {o : Outcome} {z : (Bool × sh_X)} (e : sf_303 x1 x2 x3 x4 x5 m = some z) (tg : (sh_tZ o m2) z) : sh_Lk 303 0 [(0, .ref 67), (1, .int x1), (2, .int x2), (3, .int x3), (4, .int x4), (5, .long x5)] [] m o m2 13 326 := by
  unfold sf_303 at e
  refine sh_Lk_lift (T := m.T) (I := m.I) (J := m.J) (s := m.s) (pc2 := 9) (lv2 := [(0, .ref 67), (1, .int x1), (2, .int x2), (3, .int x3), (4, .int x4), (5, .long x5)]) (st2 := [.int x1, .ref 74, .ref 69]) (I2 := m.I) (J2 := m.J) (fun hT v kk => ?_) ?_
  · refine sh_w (i := (.aload_n 0)) (len := 1) (pc2 := 1) (lv2 := [(0, .ref 67), (1, .int x1), (2, .int x2), (3, .int x3), (4, .int x4), (5, .long x5)]) (st2 := [.ref 67]) (h2 := (sh_rep m.T m.I m.J)) rfl rfl rfl ?_
    refine sh_gR1 (len := 3) (x := .ref 69) (pc2 := 4) rfl rfl (sh_s66 hT.st) rfl rfl ?_
    refine sh_w (i := (.aload_n 0)) (len := 1) (pc2 := 5) (lv2 := [(0, .ref 67), (1, .int x1), (2, .int x2), (3, .int x3), (4, .int x4), (5, .long x5)]) (st2 := [.ref 67, .ref 69]) (h2 := (sh_rep m.T m.I m.J)) rfl rfl rfl ?_
    refine sh_gR1 (len := 3) (x := .ref 74) (pc2 := 8) rfl rfl (sh_s66 hT.st) rfl rfl ?_
    refine sh_w (i := (.iload_n 1)) (len := 1) (pc2 := 9) (lv2 := [(0, .ref 67), (1, .int x1), (2, .int x2), (3, .int x3), (4, .int x4), (5, .long x5)]) (st2 := [.int x1, .ref 74, .ref 69]) (h2 := (sh_rep m.T m.I m.J)) rfl rfl rfl ?_
    exact kk
  obtain ⟨c, e⟩ := sh_gd e
  refine sh_Lk_lift (T := m.T) (I := m.I) (J := m.J) (s := m.s) (pc2 := 10) (lv2 := [(0, .ref 67), (1, .int x1), (2, .int x2), (3, .int x3), (4, .int x4), (5, .long x5)]) (st2 := [.int (m.I 73 (Int32.toNatClampNeg x1)), .ref 69]) (I2 := m.I) (J2 := m.J) (fun hT v kk => ?_) ?_
  · refine sh_ia1 (x := m.I 73 (Int32.toNatClampNeg x1)) (pc2 := 10) rfl (sh_s73 hT.st) (sh_okb1 c) (sh_okb2 c) rfl rfl ?_
    exact kk
  obtain ⟨c, e⟩ := sh_gd e
  refine sh_Lk_lift (T := m.T) (I := m.I) (J := m.J) (s := m.s) (pc2 := 25) (lv2 := [(10, .int x4), (9, .int x3), (8, .int x2), (7, .int (m.I 68 (Int32.toNatClampNeg (m.I 73 (Int32.toNatClampNeg x1))))), (0, .ref 67), (1, .int x1), (2, .int x2), (3, .int x3), (4, .int x4), (5, .long x5)]) (st2 := [.int (m.I 68 (Int32.toNatClampNeg (m.I 73 (Int32.toNatClampNeg x1))))]) (I2 := m.I) (J2 := m.J) (fun hT v kk => ?_) ?_
  · refine sh_ia1 (x := m.I 68 (Int32.toNatClampNeg (m.I 73 (Int32.toNatClampNeg x1)))) (pc2 := 11) rfl (sh_s68 hT.st) (sh_okb1 c) (sh_okb2 c) rfl rfl ?_
    refine sh_w (i := (.istore 7)) (len := 2) (pc2 := 13) (lv2 := [(7, .int (m.I 68 (Int32.toNatClampNeg (m.I 73 (Int32.toNatClampNeg x1))))), (0, .ref 67), (1, .int x1), (2, .int x2), (3, .int x3), (4, .int x4), (5, .long x5)]) (st2 := []) (h2 := (sh_rep m.T m.I m.J)) rfl rfl rfl ?_
    refine sh_w (i := (.iload_n 2)) (len := 1) (pc2 := 14) (lv2 := [(7, .int (m.I 68 (Int32.toNatClampNeg (m.I 73 (Int32.toNatClampNeg x1))))), (0, .ref 67), (1, .int x1), (2, .int x2), (3, .int x3), (4, .int x4), (5, .long x5)]) (st2 := [.int x2]) (h2 := (sh_rep m.T m.I m.J)) rfl rfl rfl ?_
    refine sh_w (i := (.istore 8)) (len := 2) (pc2 := 16) (lv2 := [(8, .int x2), (7, .int (m.I 68 (Int32.toNatClampNeg (m.I 73 (Int32.toNatClampNeg x1))))), (0, .ref 67), (1, .int x1), (2, .int x2), (3, .int x3), (4, .int x4), (5, .long x5)]) (st2 := []) (h2 := (sh_rep m.T m.I m.J)) rfl rfl rfl ?_
    refine sh_w (i := (.iload_n 3)) (len := 1) (pc2 := 17) (lv2 := [(8, .int x2), (7, .int (m.I 68 (Int32.toNatClampNeg (m.I 73 (Int32.toNatClampNeg x1))))), (0, .ref 67), (1, .int x1), (2, .int x2), (3, .int x3), (4, .int x4), (5, .long x5)]) (st2 := [.int x3]) (h2 := (sh_rep m.T m.I m.J)) rfl rfl rfl ?_
    refine sh_w (i := (.istore 9)) (len := 2) (pc2 := 19) (lv2 := [(9, .int x3), (8, .int x2), (7, .int (m.I 68 (Int32.toNatClampNeg (m.I 73 (Int32.toNatClampNeg x1))))), (0, .ref 67), (1, .int x1), (2, .int x2), (3, .int x3), (4, .int x4), (5, .long x5)]) (st2 := []) (h2 := (sh_rep m.T m.I m.J)) rfl rfl rfl ?_
    refine sh_w (i := (.iload 4)) (len := 2) (pc2 := 21) (lv2 := [(9, .int x3), (8, .int x2), (7, .int (m.I 68 (Int32.toNatClampNeg (m.I 73 (Int32.toNatClampNeg x1))))), (0, .ref 67), (1, .int x1), (2, .int x2), (3, .int x3), (4, .int x4), (5, .long x5)]) (st2 := [.int x4]) (h2 := (sh_rep m.T m.I m.J)) rfl rfl rfl ?_
    refine sh_w (i := (.istore 10)) (len := 2) (pc2 := 23) (lv2 := [(10, .int x4), (9, .int x3), (8, .int x2), (7, .int (m.I 68 (Int32.toNatClampNeg (m.I 73 (Int32.toNatClampNeg x1))))), (0, .ref 67), (1, .int x1), (2, .int x2), (3, .int x3), (4, .int x4), (5, .long x5)]) (st2 := []) (h2 := (sh_rep m.T m.I m.J)) rfl rfl rfl ?_
    refine sh_w (i := (.iload 7)) (len := 2) (pc2 := 25) (lv2 := [(10, .int x4), (9, .int x3), (8, .int x2), (7, .int (m.I 68 (Int32.toNatClampNeg (m.I 73 (Int32.toNatClampNeg x1))))), (0, .ref 67), (1, .int x1), (2, .int x2), (3, .int x3), (4, .int x4), (5, .long x5)]) (st2 := [.int (m.I 68 (Int32.toNatClampNeg (m.I 73 (Int32.toNatClampNeg x1))))]) (h2 := (sh_rep m.T m.I m.J)) rfl rfl rfl ?_
    exact kk
  refine sh_Lk_cS (r := (some (.int (sf_274 (m.I 68 (Int32.toNatClampNeg (m.I 73 (Int32.toNatClampNeg x1)))))))) (st2 := [.int (sf_274 (m.I 68 (Int32.toNatClampNeg (m.I 73 (Int32.toNatClampNeg x1)))))]) (pc2 := 28) (k2 := 274) (as := [.int (m.I 68 (Int32.toNatClampNeg (m.I 73 (Int32.toNatClampNeg x1))))]) (rest := []) rfl rfl (by decide) (Nat.le_of_ble_eq_true rfl) rfl rfl ⟨Nat.le_of_ble_eq_true rfl, Nat.le_of_ble_eq_true rfl⟩ (sl_274 (m := m) rfl ⟨rfl, rfl⟩) rfl rfl (Nat.le_of_ble_eq_true rfl) (Nat.le_of_ble_eq_true rfl) ?_
  refine sh_Lk_lift (T := m.T) (I := m.I) (J := m.J) (s := m.s) (pc2 := 34) (lv2 := [(11, .int (sf_274 (m.I 68 (Int32.toNatClampNeg (m.I 73 (Int32.toNatClampNeg x1)))))), (10, .int x4), (9, .int x3), (8, .int x2), (7, .int (m.I 68 (Int32.toNatClampNeg (m.I 73 (Int32.toNatClampNeg x1))))), (0, .ref 67), (1, .int x1), (2, .int x2), (3, .int x3), (4, .int x4), (5, .long x5)]) (st2 := [.int 8, .int (sf_274 (m.I 68 (Int32.toNatClampNeg (m.I 73 (Int32.toNatClampNeg x1)))))]) (I2 := m.I) (J2 := m.J) (fun hT v kk => ?_) ?_
  · refine sh_w (i := (.istore 11)) (len := 2) (pc2 := 30) (lv2 := [(11, .int (sf_274 (m.I 68 (Int32.toNatClampNeg (m.I 73 (Int32.toNatClampNeg x1)))))), (10, .int x4), (9, .int x3), (8, .int x2), (7, .int (m.I 68 (Int32.toNatClampNeg (m.I 73 (Int32.toNatClampNeg x1))))), (0, .ref 67), (1, .int x1), (2, .int x2), (3, .int x3), (4, .int x4), (5, .long x5)]) (st2 := []) (h2 := (sh_rep m.T m.I m.J)) rfl rfl rfl ?_
    refine sh_w (i := (.iload 11)) (len := 2) (pc2 := 32) (lv2 := [(11, .int (sf_274 (m.I 68 (Int32.toNatClampNeg (m.I 73 (Int32.toNatClampNeg x1)))))), (10, .int x4), (9, .int x3), (8, .int x2), (7, .int (m.I 68 (Int32.toNatClampNeg (m.I 73 (Int32.toNatClampNeg x1))))), (0, .ref 67), (1, .int x1), (2, .int x2), (3, .int x3), (4, .int x4), (5, .long x5)]) (st2 := [.int (sf_274 (m.I 68 (Int32.toNatClampNeg (m.I 73 (Int32.toNatClampNeg x1)))))]) (h2 := (sh_rep m.T m.I m.J)) rfl rfl rfl ?_
    refine sh_w (i := (.bipush 8)) (len := 2) (pc2 := 34) (lv2 := [(11, .int (sf_274 (m.I 68 (Int32.toNatClampNeg (m.I 73 (Int32.toNatClampNeg x1)))))), (10, .int x4), (9, .int x3), (8, .int x2), (7, .int (m.I 68 (Int32.toNatClampNeg (m.I 73 (Int32.toNatClampNeg x1))))), (0, .ref 67), (1, .int x1), (2, .int x2), (3, .int x3), (4, .int x4), (5, .long x5)]) (st2 := [.int 8, .int (sf_274 (m.I 68 (Int32.toNatClampNeg (m.I 73 (Int32.toNatClampNeg x1)))))]) (h2 := (sh_rep m.T m.I m.J)) rfl rfl rfl ?_
    exact kk
  rcases sh_ite e with ⟨c, e⟩ | ⟨c, e⟩
  · refine sh_Lk_lift (T := m.T) (I := m.I) (J := m.J) (s := m.s) (pc2 := 47) (lv2 := [(11, .int (sf_274 (m.I 68 (Int32.toNatClampNeg (m.I 73 (Int32.toNatClampNeg x1)))))), (10, .int x4), (9, .int x3), (8, .int x2), (7, .int (m.I 68 (Int32.toNatClampNeg (m.I 73 (Int32.toNatClampNeg x1))))), (0, .ref 67), (1, .int x1), (2, .int x2), (3, .int x3), (4, .int x4), (5, .long x5)]) (st2 := [.long x5, .int x4, .int x3, .int x2, .int x1, .ref 67]) (I2 := m.I) (J2 := m.J) (fun hT v kk => ?_) ?_
    · refine sh_jc (c := .ne) (off := (17)) (pc2 := 37) false rfl (sh_Bnef c) rfl ?_
      refine sh_w (i := (.aload_n 0)) (len := 1) (pc2 := 38) (lv2 := [(11, .int (sf_274 (m.I 68 (Int32.toNatClampNeg (m.I 73 (Int32.toNatClampNeg x1)))))), (10, .int x4), (9, .int x3), (8, .int x2), (7, .int (m.I 68 (Int32.toNatClampNeg (m.I 73 (Int32.toNatClampNeg x1))))), (0, .ref 67), (1, .int x1), (2, .int x2), (3, .int x3), (4, .int x4), (5, .long x5)]) (st2 := [.ref 67]) (h2 := (sh_rep m.T m.I m.J)) rfl rfl rfl ?_
      refine sh_w (i := (.iload_n 1)) (len := 1) (pc2 := 39) (lv2 := [(11, .int (sf_274 (m.I 68 (Int32.toNatClampNeg (m.I 73 (Int32.toNatClampNeg x1)))))), (10, .int x4), (9, .int x3), (8, .int x2), (7, .int (m.I 68 (Int32.toNatClampNeg (m.I 73 (Int32.toNatClampNeg x1))))), (0, .ref 67), (1, .int x1), (2, .int x2), (3, .int x3), (4, .int x4), (5, .long x5)]) (st2 := [.int x1, .ref 67]) (h2 := (sh_rep m.T m.I m.J)) rfl rfl rfl ?_
      refine sh_w (i := (.iload 8)) (len := 2) (pc2 := 41) (lv2 := [(11, .int (sf_274 (m.I 68 (Int32.toNatClampNeg (m.I 73 (Int32.toNatClampNeg x1)))))), (10, .int x4), (9, .int x3), (8, .int x2), (7, .int (m.I 68 (Int32.toNatClampNeg (m.I 73 (Int32.toNatClampNeg x1))))), (0, .ref 67), (1, .int x1), (2, .int x2), (3, .int x3), (4, .int x4), (5, .long x5)]) (st2 := [.int x2, .int x1, .ref 67]) (h2 := (sh_rep m.T m.I m.J)) rfl rfl rfl ?_
      refine sh_w (i := (.iload 9)) (len := 2) (pc2 := 43) (lv2 := [(11, .int (sf_274 (m.I 68 (Int32.toNatClampNeg (m.I 73 (Int32.toNatClampNeg x1)))))), (10, .int x4), (9, .int x3), (8, .int x2), (7, .int (m.I 68 (Int32.toNatClampNeg (m.I 73 (Int32.toNatClampNeg x1))))), (0, .ref 67), (1, .int x1), (2, .int x2), (3, .int x3), (4, .int x4), (5, .long x5)]) (st2 := [.int x3, .int x2, .int x1, .ref 67]) (h2 := (sh_rep m.T m.I m.J)) rfl rfl rfl ?_
      refine sh_w (i := (.iload 10)) (len := 2) (pc2 := 45) (lv2 := [(11, .int (sf_274 (m.I 68 (Int32.toNatClampNeg (m.I 73 (Int32.toNatClampNeg x1)))))), (10, .int x4), (9, .int x3), (8, .int x2), (7, .int (m.I 68 (Int32.toNatClampNeg (m.I 73 (Int32.toNatClampNeg x1))))), (0, .ref 67), (1, .int x1), (2, .int x2), (3, .int x3), (4, .int x4), (5, .long x5)]) (st2 := [.int x4, .int x3, .int x2, .int x1, .ref 67]) (h2 := (sh_rep m.T m.I m.J)) rfl rfl rfl ?_
      refine sh_w (i := (.lload 5)) (len := 2) (pc2 := 47) (lv2 := [(11, .int (sf_274 (m.I 68 (Int32.toNatClampNeg (m.I 73 (Int32.toNatClampNeg x1)))))), (10, .int x4), (9, .int x3), (8, .int x2), (7, .int (m.I 68 (Int32.toNatClampNeg (m.I 73 (Int32.toNatClampNeg x1))))), (0, .ref 67), (1, .int x1), (2, .int x2), (3, .int x3), (4, .int x4), (5, .long x5)]) (st2 := [.long x5, .int x4, .int x3, .int x2, .int x1, .ref 67]) (h2 := (sh_rep m.T m.I m.J)) rfl rfl rfl ?_
      exact kk
    obtain ⟨r2, m12, e2, e⟩ := sh_bn_e e
    refine sh_Lk_cV (r := (some (.int (sh_b2 r2)))) (st2 := [.int (sh_b2 r2)]) (pc2 := 50) (k2 := 304) (a := 66) (as := [.ref 67, .int x1, .int x2, .int x3, .int x4, .long x5]) (rest := []) rfl rfl rfl (fun hT => (sh_s66 hT.st)) rfl rfl ⟨Nat.le_of_ble_eq_true rfl, Nat.le_of_ble_eq_true rfl⟩ (sl_304 e2 ⟨rfl, rfl⟩) rfl rfl (Nat.le_of_ble_eq_true rfl) (Nat.le_of_ble_eq_true rfl) ?_
    obtain rfl := Option.some.inj e
    obtain ⟨rfl, rfl⟩ := tg
    exact sh_Lk_ret (i := .ireturn) rfl rfl (sh_rb rfl _) (Nat.le_of_ble_eq_true rfl) (Nat.le_of_ble_eq_true rfl)
  · refine sh_Lk_lift (T := m.T) (I := m.I) (J := m.J) (s := m.s) (pc2 := 54) (lv2 := [(11, .int (sf_274 (m.I 68 (Int32.toNatClampNeg (m.I 73 (Int32.toNatClampNeg x1)))))), (10, .int x4), (9, .int x3), (8, .int x2), (7, .int (m.I 68 (Int32.toNatClampNeg (m.I 73 (Int32.toNatClampNeg x1))))), (0, .ref 67), (1, .int x1), (2, .int x2), (3, .int x3), (4, .int x4), (5, .long x5)]) (st2 := [.int 3, .int x2]) (I2 := m.I) (J2 := m.J) (fun hT v kk => ?_) ?_
    · refine sh_jc (c := .ne) (off := (17)) (pc2 := 51) true rfl (sh_Bnet c) rfl ?_
      refine sh_w (i := (.iload 8)) (len := 2) (pc2 := 53) (lv2 := [(11, .int (sf_274 (m.I 68 (Int32.toNatClampNeg (m.I 73 (Int32.toNatClampNeg x1)))))), (10, .int x4), (9, .int x3), (8, .int x2), (7, .int (m.I 68 (Int32.toNatClampNeg (m.I 73 (Int32.toNatClampNeg x1))))), (0, .ref 67), (1, .int x1), (2, .int x2), (3, .int x3), (4, .int x4), (5, .long x5)]) (st2 := [.int x2]) (h2 := (sh_rep m.T m.I m.J)) rfl rfl rfl ?_
      refine sh_w (i := (.iconst 3)) (len := 1) (pc2 := 54) (lv2 := [(11, .int (sf_274 (m.I 68 (Int32.toNatClampNeg (m.I 73 (Int32.toNatClampNeg x1)))))), (10, .int x4), (9, .int x3), (8, .int x2), (7, .int (m.I 68 (Int32.toNatClampNeg (m.I 73 (Int32.toNatClampNeg x1))))), (0, .ref 67), (1, .int x1), (2, .int x2), (3, .int x3), (4, .int x4), (5, .long x5)]) (st2 := [.int 3, .int x2]) (h2 := (sh_rep m.T m.I m.J)) rfl rfl rfl ?_
      exact kk
    rcases sh_ite e with ⟨c, e⟩ | ⟨c, e⟩
    · refine sh_Lk_lift (T := m.T) (I := m.I) (J := m.J) (s := m.s) (pc2 := 62) (lv2 := [(11, .int (sf_274 (m.I 68 (Int32.toNatClampNeg (m.I 73 (Int32.toNatClampNeg x1)))))), (10, .int x4), (9, .int x3), (8, .int x2), (7, .int (m.I 68 (Int32.toNatClampNeg (m.I 73 (Int32.toNatClampNeg x1))))), (0, .ref 67), (1, .int x1), (2, .int x2), (3, .int x3), (4, .int x4), (5, .long x5)]) (st2 := [.int 3, .int (m.I 66 43)]) (I2 := m.I) (J2 := m.J) (fun hT v kk => ?_) ?_
      · refine sh_jc (c := .ne) (off := (136)) (pc2 := 57) false rfl (sh_Bnef c) rfl ?_
        refine sh_w (i := (.aload_n 0)) (len := 1) (pc2 := 58) (lv2 := [(11, .int (sf_274 (m.I 68 (Int32.toNatClampNeg (m.I 73 (Int32.toNatClampNeg x1)))))), (10, .int x4), (9, .int x3), (8, .int x2), (7, .int (m.I 68 (Int32.toNatClampNeg (m.I 73 (Int32.toNatClampNeg x1))))), (0, .ref 67), (1, .int x1), (2, .int x2), (3, .int x3), (4, .int x4), (5, .long x5)]) (st2 := [.ref 67]) (h2 := (sh_rep m.T m.I m.J)) rfl rfl rfl ?_
        refine sh_gI1 (len := 3) (x := m.I 66 43) (pc2 := 61) rfl rfl (sh_s66 hT.st) rfl rfl rfl ?_
        refine sh_w (i := (.iconst 3)) (len := 1) (pc2 := 62) (lv2 := [(11, .int (sf_274 (m.I 68 (Int32.toNatClampNeg (m.I 73 (Int32.toNatClampNeg x1)))))), (10, .int x4), (9, .int x3), (8, .int x2), (7, .int (m.I 68 (Int32.toNatClampNeg (m.I 73 (Int32.toNatClampNeg x1))))), (0, .ref 67), (1, .int x1), (2, .int x2), (3, .int x3), (4, .int x4), (5, .long x5)]) (st2 := [.int 3, .int (m.I 66 43)]) (h2 := (sh_rep m.T m.I m.J)) rfl rfl rfl ?_
        exact kk
      rcases sh_ite e with ⟨c, e⟩ | ⟨c, e⟩
      · refine sh_Lk_lift (T := m.T) (I := m.I) (J := m.J) (s := m.s) (pc2 := 70) (lv2 := [(11, .int (sf_274 (m.I 68 (Int32.toNatClampNeg (m.I 73 (Int32.toNatClampNeg x1)))))), (10, .int x4), (9, .int x3), (8, .int x2), (7, .int (m.I 68 (Int32.toNatClampNeg (m.I 73 (Int32.toNatClampNeg x1))))), (0, .ref 67), (1, .int x1), (2, .int x2), (3, .int x3), (4, .int x4), (5, .long x5)]) (st2 := [.int 0]) (I2 := m.I) (J2 := m.J) (fun hT v kk => ?_) ?_
        · refine sh_jc (c := .eq) (off := (7)) (pc2 := 69) true rfl (sh_Beqt c) rfl ?_
          refine sh_w (i := (.iconst 0)) (len := 1) (pc2 := 70) (lv2 := [(11, .int (sf_274 (m.I 68 (Int32.toNatClampNeg (m.I 73 (Int32.toNatClampNeg x1)))))), (10, .int x4), (9, .int x3), (8, .int x2), (7, .int (m.I 68 (Int32.toNatClampNeg (m.I 73 (Int32.toNatClampNeg x1))))), (0, .ref 67), (1, .int x1), (2, .int x2), (3, .int x3), (4, .int x4), (5, .long x5)]) (st2 := [.int 0]) (h2 := (sh_rep m.T m.I m.J)) rfl rfl rfl ?_
          exact kk
        exact sh_Lk_sub (sh_sub_c rfl (sh_sub_c rfl (sh_sub_c rfl (sh_sub_c rfl (sh_sub_c rfl (sh_sub_n)))))) (sl_303_70 e tg)
      · refine sh_Lk_lift (T := m.T) (I := m.I) (J := m.J) (s := m.s) (pc2 := 70) (lv2 := [(11, .int (sf_274 (m.I 68 (Int32.toNatClampNeg (m.I 73 (Int32.toNatClampNeg x1)))))), (10, .int x4), (9, .int x3), (8, .int x2), (7, .int (m.I 68 (Int32.toNatClampNeg (m.I 73 (Int32.toNatClampNeg x1))))), (0, .ref 67), (1, .int x1), (2, .int x2), (3, .int x3), (4, .int x4), (5, .long x5)]) (st2 := [.int 1]) (I2 := m.I) (J2 := m.J) (fun hT v kk => ?_) ?_
        · refine sh_jc (c := .eq) (off := (7)) (pc2 := 65) false rfl (sh_Beqf c) rfl ?_
          refine sh_w (i := (.iconst 1)) (len := 1) (pc2 := 66) (lv2 := [(11, .int (sf_274 (m.I 68 (Int32.toNatClampNeg (m.I 73 (Int32.toNatClampNeg x1)))))), (10, .int x4), (9, .int x3), (8, .int x2), (7, .int (m.I 68 (Int32.toNatClampNeg (m.I 73 (Int32.toNatClampNeg x1))))), (0, .ref 67), (1, .int x1), (2, .int x2), (3, .int x3), (4, .int x4), (5, .long x5)]) (st2 := [.int 1]) (h2 := (sh_rep m.T m.I m.J)) rfl rfl rfl ?_
          refine sh_w (i := (.goto 4)) (len := 3) (pc2 := 70) (lv2 := [(11, .int (sf_274 (m.I 68 (Int32.toNatClampNeg (m.I 73 (Int32.toNatClampNeg x1)))))), (10, .int x4), (9, .int x3), (8, .int x2), (7, .int (m.I 68 (Int32.toNatClampNeg (m.I 73 (Int32.toNatClampNeg x1))))), (0, .ref 67), (1, .int x1), (2, .int x2), (3, .int x3), (4, .int x4), (5, .long x5)]) (st2 := [.int 1]) (h2 := (sh_rep m.T m.I m.J)) rfl rfl rfl ?_
          exact kk
        exact sh_Lk_sub (sh_sub_c rfl (sh_sub_c rfl (sh_sub_c rfl (sh_sub_c rfl (sh_sub_c rfl (sh_sub_n)))))) (sl_303_70 e tg)
    · refine sh_Lk_lift (T := m.T) (I := m.I) (J := m.J) (s := m.s) (pc2 := 190) (lv2 := [(11, .int (sf_274 (m.I 68 (Int32.toNatClampNeg (m.I 73 (Int32.toNatClampNeg x1)))))), (10, .int x4), (9, .int x3), (8, .int x2), (7, .int (m.I 68 (Int32.toNatClampNeg (m.I 73 (Int32.toNatClampNeg x1))))), (0, .ref 67), (1, .int x1), (2, .int x2), (3, .int x3), (4, .int x4), (5, .long x5)]) (st2 := []) (I2 := m.I) (J2 := m.J) (fun hT v kk => ?_) ?_
      · refine sh_jc (c := .ne) (off := (136)) (pc2 := 190) true rfl (sh_Bnet c) rfl ?_
        exact kk
      exact sh_Lk_sub (sh_sub_c rfl (sh_sub_c rfl (sh_sub_c rfl (sh_sub_c rfl (sh_sub_c rfl (sh_sub_c rfl (sh_sub_c rfl (sh_sub_c rfl (sh_sub_n))))))))) (sl_303_190 e tg)
theorem sl_310_51 {m m2 : sh_X} {o : Outcome} {z : (Bool × sh_X)} (e : sf_310_51 m = some z) (tg : (sh_tZ o m2) z) : sh_Lk 310 51 [] [] m o m2 9 223 := by
  unfold sf_310_51 at e
  refine sh_Lk_lift (T := m.T) (I := m.I) (J := m.J) (s := m.s) (pc2 := 56) (lv2 := []) (st2 := [.int 1]) (I2 := m.I) (J2 := m.J) (fun hT v kk => ?_) ?_
  · refine sh_w (i := (.iconst 1)) (len := 1) (pc2 := 52) (lv2 := []) (st2 := [.int 1]) (h2 := (sh_rep m.T m.I m.J)) rfl rfl rfl ?_
    refine sh_w (i := (.goto 4)) (len := 3) (pc2 := 56) (lv2 := []) (st2 := [.int 1]) (h2 := (sh_rep m.T m.I m.J)) rfl rfl rfl ?_
    exact kk
  obtain rfl := Option.some.inj e
  obtain ⟨rfl, rfl⟩ := tg
  exact sh_Lk_ret (i := .ireturn) rfl rfl rfl (Nat.le_of_ble_eq_true rfl) (Nat.le_of_ble_eq_true rfl)
theorem sl_310_90 {m m2 : sh_X} {o : Outcome} {z : (Bool × sh_X)} (e : sf_310_90 m = some z) (tg : (sh_tZ o m2) z) : sh_Lk 310 90 [] [] m o m2 9 223 := by
  unfold sf_310_90 at e
  refine sh_Lk_lift (T := m.T) (I := m.I) (J := m.J) (s := m.s) (pc2 := 95) (lv2 := []) (st2 := [.int 1]) (I2 := m.I) (J2 := m.J) (fun hT v kk => ?_) ?_
  · refine sh_w (i := (.iconst 1)) (len := 1) (pc2 := 91) (lv2 := []) (st2 := [.int 1]) (h2 := (sh_rep m.T m.I m.J)) rfl rfl rfl ?_
    refine sh_w (i := (.goto 4)) (len := 3) (pc2 := 95) (lv2 := []) (st2 := [.int 1]) (h2 := (sh_rep m.T m.I m.J)) rfl rfl rfl ?_
    exact kk
  obtain rfl := Option.some.inj e
  obtain ⟨rfl, rfl⟩ := tg
  exact sh_Lk_ret (i := .ireturn) rfl rfl rfl (Nat.le_of_ble_eq_true rfl) (Nat.le_of_ble_eq_true rfl)
theorem sl_310_71 {x1 : Int32} {m m2 : sh_X} {o : Outcome} {z : (Bool × sh_X)} (e : sf_310_71 x1 m = some z) (tg : (sh_tZ o m2) z) : sh_Lk 310 71 [(0, .ref 67), (1, .int x1)] [] m o m2 9 223 := by
  unfold sf_310_71 at e
  refine sh_Lk_lift (T := m.T) (I := m.I) (J := m.J) (s := m.s) (pc2 := 82) (lv2 := [(0, .ref 67), (1, .int x1)]) (st2 := [.int x1, .ref 79, .ref 70, .int 4, .ref 67]) (I2 := m.I) (J2 := m.J) (fun hT v kk => ?_) ?_
  · refine sh_w (i := (.aload_n 0)) (len := 1) (pc2 := 72) (lv2 := [(0, .ref 67), (1, .int x1)]) (st2 := [.ref 67]) (h2 := (sh_rep m.T m.I m.J)) rfl rfl rfl ?_
    refine sh_w (i := (.iconst 4)) (len := 1) (pc2 := 73) (lv2 := [(0, .ref 67), (1, .int x1)]) (st2 := [.int 4, .ref 67]) (h2 := (sh_rep m.T m.I m.J)) rfl rfl rfl ?_
    refine sh_w (i := (.aload_n 0)) (len := 1) (pc2 := 74) (lv2 := [(0, .ref 67), (1, .int x1)]) (st2 := [.ref 67, .int 4, .ref 67]) (h2 := (sh_rep m.T m.I m.J)) rfl rfl rfl ?_
    refine sh_gR1 (len := 3) (x := .ref 70) (pc2 := 77) rfl rfl (sh_s66 hT.st) rfl rfl ?_
    refine sh_w (i := (.aload_n 0)) (len := 1) (pc2 := 78) (lv2 := [(0, .ref 67), (1, .int x1)]) (st2 := [.ref 67, .ref 70, .int 4, .ref 67]) (h2 := (sh_rep m.T m.I m.J)) rfl rfl rfl ?_
    refine sh_gR1 (len := 3) (x := .ref 79) (pc2 := 81) rfl rfl (sh_s66 hT.st) rfl rfl ?_
    refine sh_w (i := (.iload_n 1)) (len := 1) (pc2 := 82) (lv2 := [(0, .ref 67), (1, .int x1)]) (st2 := [.int x1, .ref 79, .ref 70, .int 4, .ref 67]) (h2 := (sh_rep m.T m.I m.J)) rfl rfl rfl ?_
    exact kk
  obtain ⟨c, e⟩ := sh_gd e
  refine sh_Lk_lift (T := m.T) (I := m.I) (J := m.J) (s := m.s) (pc2 := 83) (lv2 := [(0, .ref 67), (1, .int x1)]) (st2 := [.int (m.I 78 (Int32.toNatClampNeg x1)), .ref 70, .int 4, .ref 67]) (I2 := m.I) (J2 := m.J) (fun hT v kk => ?_) ?_
  · refine sh_ia1 (x := m.I 78 (Int32.toNatClampNeg x1)) (pc2 := 83) rfl (sh_s78 hT.st) (sh_okb1 c) (sh_okb2 c) rfl rfl ?_
    exact kk
  obtain ⟨c, e⟩ := sh_gd e
  refine sh_Lk_lift (T := m.T) (I := m.I) (J := m.J) (s := m.s) (pc2 := 84) (lv2 := [(0, .ref 67), (1, .int x1)]) (st2 := [.int (m.I 69 (Int32.toNatClampNeg (m.I 78 (Int32.toNatClampNeg x1)))), .int 4, .ref 67]) (I2 := m.I) (J2 := m.J) (fun hT v kk => ?_) ?_
  · refine sh_ia1 (x := m.I 69 (Int32.toNatClampNeg (m.I 78 (Int32.toNatClampNeg x1)))) (pc2 := 84) rfl (sh_s69 hT.st) (sh_okb1 c) (sh_okb2 c) rfl rfl ?_
    exact kk
  obtain ⟨r1, m11, e1, e⟩ := sh_bn_e e
  refine sh_Lk_cV (r := (some (.int (sh_b2 r1)))) (st2 := [.int (sh_b2 r1)]) (pc2 := 87) (k2 := 252) (a := 66) (as := [.ref 67, .int 4, .int (m.I 69 (Int32.toNatClampNeg (m.I 78 (Int32.toNatClampNeg x1))))]) (rest := []) rfl rfl rfl (fun hT => (sh_s66 hT.st)) rfl rfl ⟨Nat.le_of_ble_eq_true rfl, Nat.le_of_ble_eq_true rfl⟩ (sl_252 e1 ⟨rfl, rfl⟩) rfl rfl (Nat.le_of_ble_eq_true rfl) (Nat.le_of_ble_eq_true rfl) ?_
  rcases sh_ite e with ⟨c, e⟩ | ⟨c, e⟩
  · refine sh_Lk_lift (T := m11.T) (I := m11.I) (J := m11.J) (s := m11.s) (pc2 := 90) (lv2 := [(0, .ref 67), (1, .int x1)]) (st2 := []) (I2 := m11.I) (J2 := m11.J) (fun hT v kk => ?_) ?_
    · refine sh_j0 (c := .eq) (off := (7)) (pc2 := 90) false rfl (sh_Zeqf c) rfl ?_
      exact kk
    exact sh_Lk_sub (sh_sub_n) (sl_310_90 e tg)
  · refine sh_Lk_lift (T := m11.T) (I := m11.I) (J := m11.J) (s := m11.s) (pc2 := 95) (lv2 := [(0, .ref 67), (1, .int x1)]) (st2 := [.int 0]) (I2 := m11.I) (J2 := m11.J) (fun hT v kk => ?_) ?_
    · refine sh_j0 (c := .eq) (off := (7)) (pc2 := 94) true rfl (sh_Zeqt c) rfl ?_
      refine sh_w (i := (.iconst 0)) (len := 1) (pc2 := 95) (lv2 := [(0, .ref 67), (1, .int x1)]) (st2 := [.int 0]) (h2 := (sh_rep m11.T m11.I m11.J)) rfl rfl rfl ?_
      exact kk
    obtain rfl := Option.some.inj e
    obtain ⟨rfl, rfl⟩ := tg
    exact sh_Lk_ret (i := .ireturn) rfl rfl rfl (Nat.le_of_ble_eq_true rfl) (Nat.le_of_ble_eq_true rfl)
theorem sl_310 {x1 : Int32} {m m2 : sh_X} {o : Outcome} {z : (Bool × sh_X)} (e : sf_310 x1 m = some z) (tg : (sh_tZ o m2) z) : sh_Lk 310 0 [(0, .ref 67), (1, .int x1)] [] m o m2 9 223 := by
  unfold sf_310 at e
  refine sh_Lk_lift (T := m.T) (I := m.I) (J := m.J) (s := m.s) (pc2 := 5) (lv2 := [(0, .ref 67), (1, .int x1)]) (st2 := [.int 3, .int (m.I 66 43)]) (I2 := m.I) (J2 := m.J) (fun hT v kk => ?_) ?_
  · refine sh_w (i := (.aload_n 0)) (len := 1) (pc2 := 1) (lv2 := [(0, .ref 67), (1, .int x1)]) (st2 := [.ref 67]) (h2 := (sh_rep m.T m.I m.J)) rfl rfl rfl ?_
    refine sh_gI1 (len := 3) (x := m.I 66 43) (pc2 := 4) rfl rfl (sh_s66 hT.st) rfl rfl rfl ?_
    refine sh_w (i := (.iconst 3)) (len := 1) (pc2 := 5) (lv2 := [(0, .ref 67), (1, .int x1)]) (st2 := [.int 3, .int (m.I 66 43)]) (h2 := (sh_rep m.T m.I m.J)) rfl rfl rfl ?_
    exact kk
  rcases sh_ite e with ⟨c, e⟩ | ⟨c, e⟩
  · refine sh_Lk_lift (T := m.T) (I := m.I) (J := m.J) (s := m.s) (pc2 := 26) (lv2 := [(0, .ref 67), (1, .int x1)]) (st2 := [.long (m.J 66 46), .int 32, .int 2]) (I2 := sh_u2 (sh_u2 m.I 66 43 2) 66 44 32) (J2 := m.J) (fun hT v kk => ?_) ?_
    · refine sh_jc (c := .ne) (off := (52)) (pc2 := 8) false rfl (sh_Bnef c) rfl ?_
      refine sh_w (i := (.aload_n 0)) (len := 1) (pc2 := 9) (lv2 := [(0, .ref 67), (1, .int x1)]) (st2 := [.ref 67]) (h2 := (sh_rep m.T m.I m.J)) rfl rfl rfl ?_
      refine sh_w (i := (.iconst 2)) (len := 1) (pc2 := 10) (lv2 := [(0, .ref 67), (1, .int x1)]) (st2 := [.int 2, .ref 67]) (h2 := (sh_rep m.T m.I m.J)) rfl rfl rfl ?_
      refine sh_pI1 (x := 2) (pc2 := 13) rfl rfl (sh_s66 hT.st) rfl rfl rfl rfl ?_
      refine sh_w (i := (.aload_n 0)) (len := 1) (pc2 := 14) (lv2 := [(0, .ref 67), (1, .int x1)]) (st2 := [.ref 67]) (h2 := (sh_rep m.T (sh_u2 m.I 66 43 2) m.J)) rfl rfl rfl ?_
      refine sh_w (i := (.bipush 32)) (len := 2) (pc2 := 16) (lv2 := [(0, .ref 67), (1, .int x1)]) (st2 := [.int 32, .ref 67]) (h2 := (sh_rep m.T (sh_u2 m.I 66 43 2) m.J)) rfl rfl rfl ?_
      refine sh_pI1 (x := 32) (pc2 := 19) rfl rfl (sh_s66 hT.st) rfl rfl rfl rfl ?_
      refine sh_w (i := (.iconst 2)) (len := 1) (pc2 := 20) (lv2 := [(0, .ref 67), (1, .int x1)]) (st2 := [.int 2]) (h2 := (sh_rep m.T (sh_u2 (sh_u2 m.I 66 43 2) 66 44 32) m.J)) rfl rfl rfl ?_
      refine sh_w (i := (.bipush 32)) (len := 2) (pc2 := 22) (lv2 := [(0, .ref 67), (1, .int x1)]) (st2 := [.int 32, .int 2]) (h2 := (sh_rep m.T (sh_u2 (sh_u2 m.I 66 43 2) 66 44 32) m.J)) rfl rfl rfl ?_
      refine sh_w (i := (.aload_n 0)) (len := 1) (pc2 := 23) (lv2 := [(0, .ref 67), (1, .int x1)]) (st2 := [.ref 67, .int 32, .int 2]) (h2 := (sh_rep m.T (sh_u2 (sh_u2 m.I 66 43 2) 66 44 32) m.J)) rfl rfl rfl ?_
      refine sh_gJ1 (len := 3) (x := m.J 66 46) (pc2 := 26) rfl rfl (sh_s66 hT.st) rfl rfl rfl ?_
      exact kk
    refine sh_Lk_cS (r := (some (.int (sh_b2 (sf_300 2 32 (m.J 66 46)))))) (st2 := [.int (sh_b2 (sf_300 2 32 (m.J 66 46)))]) (pc2 := 29) (k2 := 300) (as := [.int 2, .int 32, .long (m.J 66 46)]) (rest := []) rfl rfl (by decide) (Nat.le_of_ble_eq_true rfl) rfl rfl ⟨Nat.le_of_ble_eq_true rfl, Nat.le_of_ble_eq_true rfl⟩ (sl_300 (m := ⟨m.T, sh_u2 (sh_u2 m.I 66 43 2) 66 44 32, m.J, m.s⟩) rfl ⟨rfl, rfl⟩) rfl rfl (Nat.le_of_ble_eq_true rfl) (Nat.le_of_ble_eq_true rfl) ?_
    rcases sh_ite e with ⟨c, e⟩ | ⟨c, e⟩
    · refine sh_Lk_lift (T := m.T) (I := sh_u2 (sh_u2 m.I 66 43 2) 66 44 32) (J := m.J) (s := m.s) (pc2 := 51) (lv2 := [(0, .ref 67), (1, .int x1)]) (st2 := []) (I2 := sh_u2 (sh_u2 m.I 66 43 2) 66 44 32) (J2 := m.J) (fun hT v kk => ?_) ?_
      · refine sh_j0 (c := .ne) (off := (22)) (pc2 := 51) true rfl (sh_Znet c) rfl ?_
        exact kk
      exact sh_Lk_sub (sh_sub_n) (sl_310_51 e tg)
    · refine sh_Lk_lift (T := m.T) (I := sh_u2 (sh_u2 m.I 66 43 2) 66 44 32) (J := m.J) (s := m.s) (pc2 := 43) (lv2 := [(0, .ref 67), (1, .int x1)]) (st2 := [.int x1, .ref 74, .ref 70, .int 5, .ref 67]) (I2 := sh_u2 (sh_u2 m.I 66 43 2) 66 44 32) (J2 := m.J) (fun hT v kk => ?_) ?_
      · refine sh_j0 (c := .ne) (off := (22)) (pc2 := 32) false rfl (sh_Znef c) rfl ?_
        refine sh_w (i := (.aload_n 0)) (len := 1) (pc2 := 33) (lv2 := [(0, .ref 67), (1, .int x1)]) (st2 := [.ref 67]) (h2 := (sh_rep m.T (sh_u2 (sh_u2 m.I 66 43 2) 66 44 32) m.J)) rfl rfl rfl ?_
        refine sh_w (i := (.iconst 5)) (len := 1) (pc2 := 34) (lv2 := [(0, .ref 67), (1, .int x1)]) (st2 := [.int 5, .ref 67]) (h2 := (sh_rep m.T (sh_u2 (sh_u2 m.I 66 43 2) 66 44 32) m.J)) rfl rfl rfl ?_
        refine sh_w (i := (.aload_n 0)) (len := 1) (pc2 := 35) (lv2 := [(0, .ref 67), (1, .int x1)]) (st2 := [.ref 67, .int 5, .ref 67]) (h2 := (sh_rep m.T (sh_u2 (sh_u2 m.I 66 43 2) 66 44 32) m.J)) rfl rfl rfl ?_
        refine sh_gR1 (len := 3) (x := .ref 70) (pc2 := 38) rfl rfl (sh_s66 hT.st) rfl rfl ?_
        refine sh_w (i := (.aload_n 0)) (len := 1) (pc2 := 39) (lv2 := [(0, .ref 67), (1, .int x1)]) (st2 := [.ref 67, .ref 70, .int 5, .ref 67]) (h2 := (sh_rep m.T (sh_u2 (sh_u2 m.I 66 43 2) 66 44 32) m.J)) rfl rfl rfl ?_
        refine sh_gR1 (len := 3) (x := .ref 74) (pc2 := 42) rfl rfl (sh_s66 hT.st) rfl rfl ?_
        refine sh_w (i := (.iload_n 1)) (len := 1) (pc2 := 43) (lv2 := [(0, .ref 67), (1, .int x1)]) (st2 := [.int x1, .ref 74, .ref 70, .int 5, .ref 67]) (h2 := (sh_rep m.T (sh_u2 (sh_u2 m.I 66 43 2) 66 44 32) m.J)) rfl rfl rfl ?_
        exact kk
      obtain ⟨c, e⟩ := sh_gd e
      refine sh_Lk_lift (T := m.T) (I := sh_u2 (sh_u2 m.I 66 43 2) 66 44 32) (J := m.J) (s := m.s) (pc2 := 44) (lv2 := [(0, .ref 67), (1, .int x1)]) (st2 := [.int (m.I 73 (Int32.toNatClampNeg x1)), .ref 70, .int 5, .ref 67]) (I2 := sh_u2 (sh_u2 m.I 66 43 2) 66 44 32) (J2 := m.J) (fun hT v kk => ?_) ?_
      · refine sh_ia1 (x := m.I 73 (Int32.toNatClampNeg x1)) (pc2 := 44) rfl (sh_s73 hT.st) (sh_okb1 c) (sh_okb2 c) rfl rfl ?_
        exact kk
      obtain ⟨c, e⟩ := sh_gd e
      refine sh_Lk_lift (T := m.T) (I := sh_u2 (sh_u2 m.I 66 43 2) 66 44 32) (J := m.J) (s := m.s) (pc2 := 45) (lv2 := [(0, .ref 67), (1, .int x1)]) (st2 := [.int (m.I 69 (Int32.toNatClampNeg (m.I 73 (Int32.toNatClampNeg x1)))), .int 5, .ref 67]) (I2 := sh_u2 (sh_u2 m.I 66 43 2) 66 44 32) (J2 := m.J) (fun hT v kk => ?_) ?_
      · refine sh_ia1 (x := m.I 69 (Int32.toNatClampNeg (m.I 73 (Int32.toNatClampNeg x1)))) (pc2 := 45) rfl (sh_s69 hT.st) (sh_okb1 c) (sh_okb2 c) rfl rfl ?_
        exact kk
      obtain ⟨r2, m12, e2, e⟩ := sh_bn_e e
      refine sh_Lk_cV (r := (some (.int (sh_b2 r2)))) (st2 := [.int (sh_b2 r2)]) (pc2 := 48) (k2 := 252) (a := 66) (as := [.ref 67, .int 5, .int (m.I 69 (Int32.toNatClampNeg (m.I 73 (Int32.toNatClampNeg x1))))]) (rest := []) rfl rfl rfl (fun hT => (sh_s66 hT.st)) rfl rfl ⟨Nat.le_of_ble_eq_true rfl, Nat.le_of_ble_eq_true rfl⟩ (sl_252 e2 ⟨rfl, rfl⟩) rfl rfl (Nat.le_of_ble_eq_true rfl) (Nat.le_of_ble_eq_true rfl) ?_
      rcases sh_ite e with ⟨c, e⟩ | ⟨c, e⟩
      · refine sh_Lk_lift (T := m12.T) (I := m12.I) (J := m12.J) (s := m12.s) (pc2 := 51) (lv2 := [(0, .ref 67), (1, .int x1)]) (st2 := []) (I2 := m12.I) (J2 := m12.J) (fun hT v kk => ?_) ?_
        · refine sh_j0 (c := .eq) (off := (7)) (pc2 := 51) false rfl (sh_Zeqf c) rfl ?_
          exact kk
        exact sh_Lk_sub (sh_sub_n) (sl_310_51 e tg)
      · refine sh_Lk_lift (T := m12.T) (I := m12.I) (J := m12.J) (s := m12.s) (pc2 := 56) (lv2 := [(0, .ref 67), (1, .int x1)]) (st2 := [.int 0]) (I2 := m12.I) (J2 := m12.J) (fun hT v kk => ?_) ?_
        · refine sh_j0 (c := .eq) (off := (7)) (pc2 := 55) true rfl (sh_Zeqt c) rfl ?_
          refine sh_w (i := (.iconst 0)) (len := 1) (pc2 := 56) (lv2 := [(0, .ref 67), (1, .int x1)]) (st2 := [.int 0]) (h2 := (sh_rep m12.T m12.I m12.J)) rfl rfl rfl ?_
          exact kk
        obtain rfl := Option.some.inj e
        obtain ⟨rfl, rfl⟩ := tg
        exact sh_Lk_ret (i := .ireturn) rfl rfl rfl (Nat.le_of_ble_eq_true rfl) (Nat.le_of_ble_eq_true rfl)
  · refine sh_Lk_lift (T := m.T) (I := m.I) (J := m.J) (s := m.s) (pc2 := 61) (lv2 := [(0, .ref 67), (1, .int x1)]) (st2 := [.int (m.I 66 43)]) (I2 := m.I) (J2 := m.J) (fun hT v kk => ?_) ?_
    · refine sh_jc (c := .ne) (off := (52)) (pc2 := 57) true rfl (sh_Bnet c) rfl ?_
      refine sh_w (i := (.aload_n 0)) (len := 1) (pc2 := 58) (lv2 := [(0, .ref 67), (1, .int x1)]) (st2 := [.ref 67]) (h2 := (sh_rep m.T m.I m.J)) rfl rfl rfl ?_
      refine sh_gI1 (len := 3) (x := m.I 66 43) (pc2 := 61) rfl rfl (sh_s66 hT.st) rfl rfl rfl ?_
      exact kk
    rcases sh_ite e with ⟨c, e⟩ | ⟨c, e⟩
    · refine sh_Lk_lift (T := m.T) (I := m.I) (J := m.J) (s := m.s) (pc2 := 71) (lv2 := [(0, .ref 67), (1, .int x1)]) (st2 := []) (I2 := m.I) (J2 := m.J) (fun hT v kk => ?_) ?_
      · refine sh_j0 (c := .eq) (off := (10)) (pc2 := 71) true rfl (sh_Beqt c) rfl ?_
        exact kk
      exact sh_Lk_sub (sh_sub_c rfl (sh_sub_c rfl (sh_sub_n))) (sl_310_71 e tg)
    · refine sh_Lk_lift (T := m.T) (I := m.I) (J := m.J) (s := m.s) (pc2 := 68) (lv2 := [(0, .ref 67), (1, .int x1)]) (st2 := [.int (m.I 66 45)]) (I2 := m.I) (J2 := m.J) (fun hT v kk => ?_) ?_
      · refine sh_j0 (c := .eq) (off := (10)) (pc2 := 64) false rfl (sh_Beqf c) rfl ?_
        refine sh_w (i := (.aload_n 0)) (len := 1) (pc2 := 65) (lv2 := [(0, .ref 67), (1, .int x1)]) (st2 := [.ref 67]) (h2 := (sh_rep m.T m.I m.J)) rfl rfl rfl ?_
        refine sh_gI1 (len := 3) (x := m.I 66 45) (pc2 := 68) rfl rfl (sh_s66 hT.st) rfl rfl rfl ?_
        exact kk
      rcases sh_ite e with ⟨c, e⟩ | ⟨c, e⟩
      · refine sh_Lk_lift (T := m.T) (I := m.I) (J := m.J) (s := m.s) (pc2 := 90) (lv2 := [(0, .ref 67), (1, .int x1)]) (st2 := []) (I2 := m.I) (J2 := m.J) (fun hT v kk => ?_) ?_
        · refine sh_j0 (c := .eq) (off := (22)) (pc2 := 90) true rfl (sh_Beqt c) rfl ?_
          exact kk
        exact sh_Lk_sub (sh_sub_n) (sl_310_90 e tg)
      · refine sh_Lk_lift (T := m.T) (I := m.I) (J := m.J) (s := m.s) (pc2 := 71) (lv2 := [(0, .ref 67), (1, .int x1)]) (st2 := []) (I2 := m.I) (J2 := m.J) (fun hT v kk => ?_) ?_
        · refine sh_j0 (c := .eq) (off := (22)) (pc2 := 71) false rfl (sh_Beqf c) rfl ?_
          exact kk
        exact sh_Lk_sub (sh_sub_c rfl (sh_sub_c rfl (sh_sub_n))) (sl_310_71 e tg)
theorem sl_309_101 {x2 : Int32} {x3 : Int32} {y1 : Int64} {m m2 : sh_X} {o : Outcome} {z : (Bool × sh_X)} (e : sf_309_101 x2 x3 y1 m = some z) (tg : (sh_tZ o m2) z) : sh_Lk 309 101 [(0, .ref 67), (2, .int x2), (3, .int x3)] [.long y1, .ref 67] m o m2 10 244 := by
  unfold sf_309_101 at e
  refine sh_Lk_lift (T := m.T) (I := m.I) (J := m.J) (s := m.s) (pc2 := 120) (lv2 := [(0, .ref 67), (2, .int x2), (3, .int x3)]) (st2 := [.int 1]) (I2 := sh_u2 (sh_u2 (sh_u2 m.I 66 43 x2) 66 44 x3) 66 45 0) (J2 := sh_u2 m.J 66 46 y1) (fun hT v kk => ?_) ?_
  · refine sh_pJ1 (x := y1) (pc2 := 104) rfl rfl (sh_s66 hT.st) rfl rfl rfl rfl ?_
    refine sh_w (i := (.aload_n 0)) (len := 1) (pc2 := 105) (lv2 := [(0, .ref 67), (2, .int x2), (3, .int x3)]) (st2 := [.ref 67]) (h2 := (sh_rep m.T m.I (sh_u2 m.J 66 46 y1))) rfl rfl rfl ?_
    refine sh_w (i := (.iload_n 2)) (len := 1) (pc2 := 106) (lv2 := [(0, .ref 67), (2, .int x2), (3, .int x3)]) (st2 := [.int x2, .ref 67]) (h2 := (sh_rep m.T m.I (sh_u2 m.J 66 46 y1))) rfl rfl rfl ?_
    refine sh_pI1 (x := x2) (pc2 := 109) rfl rfl (sh_s66 hT.st) rfl rfl rfl rfl ?_
    refine sh_w (i := (.aload_n 0)) (len := 1) (pc2 := 110) (lv2 := [(0, .ref 67), (2, .int x2), (3, .int x3)]) (st2 := [.ref 67]) (h2 := (sh_rep m.T (sh_u2 m.I 66 43 x2) (sh_u2 m.J 66 46 y1))) rfl rfl rfl ?_
    refine sh_w (i := (.iload_n 3)) (len := 1) (pc2 := 111) (lv2 := [(0, .ref 67), (2, .int x2), (3, .int x3)]) (st2 := [.int x3, .ref 67]) (h2 := (sh_rep m.T (sh_u2 m.I 66 43 x2) (sh_u2 m.J 66 46 y1))) rfl rfl rfl ?_
    refine sh_pI1 (x := x3) (pc2 := 114) rfl rfl (sh_s66 hT.st) rfl rfl rfl rfl ?_
    refine sh_w (i := (.aload_n 0)) (len := 1) (pc2 := 115) (lv2 := [(0, .ref 67), (2, .int x2), (3, .int x3)]) (st2 := [.ref 67]) (h2 := (sh_rep m.T (sh_u2 (sh_u2 m.I 66 43 x2) 66 44 x3) (sh_u2 m.J 66 46 y1))) rfl rfl rfl ?_
    refine sh_w (i := (.iconst 0)) (len := 1) (pc2 := 116) (lv2 := [(0, .ref 67), (2, .int x2), (3, .int x3)]) (st2 := [.int 0, .ref 67]) (h2 := (sh_rep m.T (sh_u2 (sh_u2 m.I 66 43 x2) 66 44 x3) (sh_u2 m.J 66 46 y1))) rfl rfl rfl ?_
    refine sh_pI1 (x := 0) (pc2 := 119) rfl rfl (sh_s66 hT.st) rfl rfl rfl rfl ?_
    refine sh_w (i := (.iconst 1)) (len := 1) (pc2 := 120) (lv2 := [(0, .ref 67), (2, .int x2), (3, .int x3)]) (st2 := [.int 1]) (h2 := (sh_rep m.T (sh_u2 (sh_u2 (sh_u2 m.I 66 43 x2) 66 44 x3) 66 45 0) (sh_u2 m.J 66 46 y1))) rfl rfl rfl ?_
    exact kk
  obtain rfl := Option.some.inj e
  obtain ⟨rfl, rfl⟩ := tg
  exact sh_Lk_ret (i := .ireturn) rfl rfl rfl (Nat.le_of_ble_eq_true rfl) (Nat.le_of_ble_eq_true rfl)
theorem sl_309_100 {x2 : Int32} {x3 : Int32} {m m2 : sh_X} {o : Outcome} {z : (Bool × sh_X)} (e : sf_309_100 x2 x3 m = some z) (tg : (sh_tZ o m2) z) : sh_Lk 309 100 [(0, .ref 67), (2, .int x2), (3, .int x3)] [.ref 67] m o m2 10 244 := by
  unfold sf_309_100 at e
  refine sh_Lk_lift (T := m.T) (I := m.I) (J := m.J) (s := m.s) (pc2 := 101) (lv2 := [(0, .ref 67), (2, .int x2), (3, .int x3)]) (st2 := [.long 0, .ref 67]) (I2 := m.I) (J2 := m.J) (fun hT v kk => ?_) ?_
  · refine sh_w (i := (.lconst 0)) (len := 1) (pc2 := 101) (lv2 := [(0, .ref 67), (2, .int x2), (3, .int x3)]) (st2 := [.long 0, .ref 67]) (h2 := (sh_rep m.T m.I m.J)) rfl rfl rfl ?_
    exact kk
  exact sh_Lk_sub (sh_sub_c rfl (sh_sub_c rfl (sh_sub_c rfl (sh_sub_n)))) (sl_309_101 e tg)
theorem sl_309_49 {x1 : Int32} {x2 : Int32} {x3 : Int32} {x4 : Int32} {x5 : Int32} {y1 : Int32} {m m2 : sh_X} {o : Outcome} {z : (Bool × sh_X)} (e : sf_309_49 x1 x2 x3 x4 x5 y1 m = some z) (tg : (sh_tZ o m2) z) : sh_Lk 309 49 [(0, .ref 67), (1, .int x1), (2, .int x2), (3, .int x3), (4, .int x4), (5, .int x5)] [.int y1, .ref 67] m o m2 10 244 := by
  unfold sf_309_49 at e
  refine sh_Lk_lift (T := m.T) (I := m.I) (J := m.J) (s := m.s) (pc2 := 54) (lv2 := [(0, .ref 67), (1, .int x1), (2, .int x2), (3, .int x3), (4, .int x4), (5, .int x5)]) (st2 := [.int x1, .ref 74, .int y1, .ref 67]) (I2 := m.I) (J2 := m.J) (fun hT v kk => ?_) ?_
  · refine sh_w (i := (.aload_n 0)) (len := 1) (pc2 := 50) (lv2 := [(0, .ref 67), (1, .int x1), (2, .int x2), (3, .int x3), (4, .int x4), (5, .int x5)]) (st2 := [.ref 67, .int y1, .ref 67]) (h2 := (sh_rep m.T m.I m.J)) rfl rfl rfl ?_
    refine sh_gR1 (len := 3) (x := .ref 74) (pc2 := 53) rfl rfl (sh_s66 hT.st) rfl rfl ?_
    refine sh_w (i := (.iload_n 1)) (len := 1) (pc2 := 54) (lv2 := [(0, .ref 67), (1, .int x1), (2, .int x2), (3, .int x3), (4, .int x4), (5, .int x5)]) (st2 := [.int x1, .ref 74, .int y1, .ref 67]) (h2 := (sh_rep m.T m.I m.J)) rfl rfl rfl ?_
    exact kk
  obtain ⟨c, e⟩ := sh_gd e
  refine sh_Lk_lift (T := m.T) (I := m.I) (J := m.J) (s := m.s) (pc2 := 55) (lv2 := [(0, .ref 67), (1, .int x1), (2, .int x2), (3, .int x3), (4, .int x4), (5, .int x5)]) (st2 := [.int (m.I 73 (Int32.toNatClampNeg x1)), .int y1, .ref 67]) (I2 := m.I) (J2 := m.J) (fun hT v kk => ?_) ?_
  · refine sh_ia1 (x := m.I 73 (Int32.toNatClampNeg x1)) (pc2 := 55) rfl (sh_s73 hT.st) (sh_okb1 c) (sh_okb2 c) rfl rfl ?_
    exact kk
  obtain ⟨r1, m11, e1, e⟩ := sh_bn_e e
  refine sh_Lk_cV (r := (some (.int (sh_b2 r1)))) (st2 := [.int (sh_b2 r1)]) (pc2 := 58) (k2 := 292) (a := 66) (as := [.ref 67, .int y1, .int (m.I 73 (Int32.toNatClampNeg x1))]) (rest := []) rfl rfl rfl (fun hT => (sh_s66 hT.st)) rfl rfl ⟨Nat.le_of_ble_eq_true rfl, Nat.le_of_ble_eq_true rfl⟩ (sl_292 e1 ⟨rfl, rfl⟩) rfl rfl (Nat.le_of_ble_eq_true rfl) (Nat.le_of_ble_eq_true rfl) ?_
  rcases sh_ite e with ⟨c, e⟩ | ⟨c, e⟩
  · refine sh_Lk_lift (T := m11.T) (I := m11.I) (J := m11.J) (s := m11.s) (pc2 := 70) (lv2 := [(0, .ref 67), (1, .int x1), (2, .int x2), (3, .int x3), (4, .int x4), (5, .int x5)]) (st2 := [.int (lg_cmp (m11.J 66 46) 0), .ref 67]) (I2 := m11.I) (J2 := m11.J) (fun hT v kk => ?_) ?_
    · refine sh_j0 (c := .ne) (off := (5)) (pc2 := 63) true rfl (sh_Znet c) rfl ?_
      refine sh_w (i := (.aload_n 0)) (len := 1) (pc2 := 64) (lv2 := [(0, .ref 67), (1, .int x1), (2, .int x2), (3, .int x3), (4, .int x4), (5, .int x5)]) (st2 := [.ref 67]) (h2 := (sh_rep m11.T m11.I m11.J)) rfl rfl rfl ?_
      refine sh_w (i := (.aload_n 0)) (len := 1) (pc2 := 65) (lv2 := [(0, .ref 67), (1, .int x1), (2, .int x2), (3, .int x3), (4, .int x4), (5, .int x5)]) (st2 := [.ref 67, .ref 67]) (h2 := (sh_rep m11.T m11.I m11.J)) rfl rfl rfl ?_
      refine sh_gJ1 (len := 3) (x := m11.J 66 46) (pc2 := 68) rfl rfl (sh_s66 hT.st) rfl rfl rfl ?_
      refine sh_w (i := (.lconst 0)) (len := 1) (pc2 := 69) (lv2 := [(0, .ref 67), (1, .int x1), (2, .int x2), (3, .int x3), (4, .int x4), (5, .int x5)]) (st2 := [.long 0, .long (m11.J 66 46), .ref 67]) (h2 := (sh_rep m11.T m11.I m11.J)) rfl rfl rfl ?_
      refine sh_w (i := .lcmp) (len := 1) (pc2 := 70) (lv2 := [(0, .ref 67), (1, .int x1), (2, .int x2), (3, .int x3), (4, .int x4), (5, .int x5)]) (st2 := [.int (lg_cmp (m11.J 66 46) 0), .ref 67]) (h2 := (sh_rep m11.T m11.I m11.J)) rfl rfl rfl ?_
      exact kk
    rcases sh_ite e with ⟨c, e⟩ | ⟨c, e⟩
    · refine sh_Lk_lift (T := m11.T) (I := m11.I) (J := m11.J) (s := m11.s) (pc2 := 100) (lv2 := [(0, .ref 67), (1, .int x1), (2, .int x2), (3, .int x3), (4, .int x4), (5, .int x5)]) (st2 := [.ref 67]) (I2 := m11.I) (J2 := m11.J) (fun hT v kk => ?_) ?_
      · refine sh_j0 (c := .lt) (off := (30)) (pc2 := 100) true rfl (sh_Cltt c) rfl ?_
        exact kk
      exact sh_Lk_sub (sh_sub_c rfl (sh_sub_c rfl (sh_sub_c rfl (sh_sub_n)))) (sl_309_100 e tg)
    · refine sh_Lk_lift (T := m11.T) (I := m11.I) (J := m11.J) (s := m11.s) (pc2 := 81) (lv2 := [(0, .ref 67), (1, .int x1), (2, .int x2), (3, .int x3), (4, .int x4), (5, .int x5)]) (st2 := [.int (lg_cmp (m11.J 66 46) (Int32.toInt64 x4)), .ref 67]) (I2 := m11.I) (J2 := m11.J) (fun hT v kk => ?_) ?_
      · refine sh_j0 (c := .lt) (off := (30)) (pc2 := 73) false rfl (sh_Cltf c) rfl ?_
        refine sh_w (i := (.aload_n 0)) (len := 1) (pc2 := 74) (lv2 := [(0, .ref 67), (1, .int x1), (2, .int x2), (3, .int x3), (4, .int x4), (5, .int x5)]) (st2 := [.ref 67, .ref 67]) (h2 := (sh_rep m11.T m11.I m11.J)) rfl rfl rfl ?_
        refine sh_gJ1 (len := 3) (x := m11.J 66 46) (pc2 := 77) rfl rfl (sh_s66 hT.st) rfl rfl rfl ?_
        refine sh_w (i := (.iload 4)) (len := 2) (pc2 := 79) (lv2 := [(0, .ref 67), (1, .int x1), (2, .int x2), (3, .int x3), (4, .int x4), (5, .int x5)]) (st2 := [.int x4, .long (m11.J 66 46), .ref 67]) (h2 := (sh_rep m11.T m11.I m11.J)) rfl rfl rfl ?_
        refine sh_w (i := .i2l) (len := 1) (pc2 := 80) (lv2 := [(0, .ref 67), (1, .int x1), (2, .int x2), (3, .int x3), (4, .int x4), (5, .int x5)]) (st2 := [.long (Int32.toInt64 x4), .long (m11.J 66 46), .ref 67]) (h2 := (sh_rep m11.T m11.I m11.J)) rfl rfl rfl ?_
        refine sh_w (i := .lcmp) (len := 1) (pc2 := 81) (lv2 := [(0, .ref 67), (1, .int x1), (2, .int x2), (3, .int x3), (4, .int x4), (5, .int x5)]) (st2 := [.int (lg_cmp (m11.J 66 46) (Int32.toInt64 x4)), .ref 67]) (h2 := (sh_rep m11.T m11.I m11.J)) rfl rfl rfl ?_
        exact kk
      rcases sh_ite e with ⟨c, e⟩ | ⟨c, e⟩
      · refine sh_Lk_lift (T := m11.T) (I := m11.I) (J := m11.J) (s := m11.s) (pc2 := 96) (lv2 := [(0, .ref 67), (1, .int x1), (2, .int x2), (3, .int x3), (4, .int x4), (5, .int x5)]) (st2 := [.int (x5 + (Int64.toInt32 (m11.J 66 46))), .ref 93, .ref 67]) (I2 := m11.I) (J2 := m11.J) (fun hT v kk => ?_) ?_
        · refine sh_j0 (c := .ge) (off := (19)) (pc2 := 84) false rfl (sh_Cgef c) rfl ?_
          refine sh_w (i := (.aload_n 0)) (len := 1) (pc2 := 85) (lv2 := [(0, .ref 67), (1, .int x1), (2, .int x2), (3, .int x3), (4, .int x4), (5, .int x5)]) (st2 := [.ref 67, .ref 67]) (h2 := (sh_rep m11.T m11.I m11.J)) rfl rfl rfl ?_
          refine sh_gR1 (len := 3) (x := .ref 93) (pc2 := 88) rfl rfl (sh_s66 hT.st) rfl rfl ?_
          refine sh_w (i := (.iload 5)) (len := 2) (pc2 := 90) (lv2 := [(0, .ref 67), (1, .int x1), (2, .int x2), (3, .int x3), (4, .int x4), (5, .int x5)]) (st2 := [.int x5, .ref 93, .ref 67]) (h2 := (sh_rep m11.T m11.I m11.J)) rfl rfl rfl ?_
          refine sh_w (i := (.aload_n 0)) (len := 1) (pc2 := 91) (lv2 := [(0, .ref 67), (1, .int x1), (2, .int x2), (3, .int x3), (4, .int x4), (5, .int x5)]) (st2 := [.ref 67, .int x5, .ref 93, .ref 67]) (h2 := (sh_rep m11.T m11.I m11.J)) rfl rfl rfl ?_
          refine sh_gJ1 (len := 3) (x := m11.J 66 46) (pc2 := 94) rfl rfl (sh_s66 hT.st) rfl rfl rfl ?_
          refine sh_w (i := .l2i) (len := 1) (pc2 := 95) (lv2 := [(0, .ref 67), (1, .int x1), (2, .int x2), (3, .int x3), (4, .int x4), (5, .int x5)]) (st2 := [.int (Int64.toInt32 (m11.J 66 46)), .int x5, .ref 93, .ref 67]) (h2 := (sh_rep m11.T m11.I m11.J)) rfl rfl rfl ?_
          refine sh_w (i := .iadd) (len := 1) (pc2 := 96) (lv2 := [(0, .ref 67), (1, .int x1), (2, .int x2), (3, .int x3), (4, .int x4), (5, .int x5)]) (st2 := [.int (x5 + (Int64.toInt32 (m11.J 66 46))), .ref 93, .ref 67]) (h2 := (sh_rep m11.T m11.I m11.J)) rfl rfl rfl ?_
          exact kk
        obtain ⟨c, e⟩ := sh_gd e
        refine sh_Lk_lift (T := m11.T) (I := m11.I) (J := m11.J) (s := m11.s) (pc2 := 101) (lv2 := [(0, .ref 67), (1, .int x1), (2, .int x2), (3, .int x3), (4, .int x4), (5, .int x5)]) (st2 := [.long (m11.J 92 (Int32.toNatClampNeg (x5 + (Int64.toInt32 (m11.J 66 46))))), .ref 67]) (I2 := m11.I) (J2 := m11.J) (fun hT v kk => ?_) ?_
        · refine sh_la1 (x := m11.J 92 (Int32.toNatClampNeg (x5 + (Int64.toInt32 (m11.J 66 46))))) (pc2 := 97) rfl (sh_s92 hT.st) (sh_okb1 c) (sh_okb2 c) rfl rfl ?_
          refine sh_w (i := (.goto 4)) (len := 3) (pc2 := 101) (lv2 := [(0, .ref 67), (1, .int x1), (2, .int x2), (3, .int x3), (4, .int x4), (5, .int x5)]) (st2 := [.long (m11.J 92 (Int32.toNatClampNeg (x5 + (Int64.toInt32 (m11.J 66 46))))), .ref 67]) (h2 := (sh_rep m11.T m11.I m11.J)) rfl rfl rfl ?_
          exact kk
        exact sh_Lk_sub (sh_sub_c rfl (sh_sub_c rfl (sh_sub_c rfl (sh_sub_n)))) (sl_309_101 e tg)
      · refine sh_Lk_lift (T := m11.T) (I := m11.I) (J := m11.J) (s := m11.s) (pc2 := 100) (lv2 := [(0, .ref 67), (1, .int x1), (2, .int x2), (3, .int x3), (4, .int x4), (5, .int x5)]) (st2 := [.ref 67]) (I2 := m11.I) (J2 := m11.J) (fun hT v kk => ?_) ?_
        · refine sh_j0 (c := .ge) (off := (19)) (pc2 := 100) true rfl (sh_Cget c) rfl ?_
          exact kk
        exact sh_Lk_sub (sh_sub_c rfl (sh_sub_c rfl (sh_sub_c rfl (sh_sub_n)))) (sl_309_100 e tg)
  · refine sh_Lk_lift (T := m11.T) (I := m11.I) (J := m11.J) (s := m11.s) (pc2 := 62) (lv2 := [(0, .ref 67), (1, .int x1), (2, .int x2), (3, .int x3), (4, .int x4), (5, .int x5)]) (st2 := [.int 0]) (I2 := m11.I) (J2 := m11.J) (fun hT v kk => ?_) ?_
    · refine sh_j0 (c := .ne) (off := (5)) (pc2 := 61) false rfl (sh_Znef c) rfl ?_
      refine sh_w (i := (.iconst 0)) (len := 1) (pc2 := 62) (lv2 := [(0, .ref 67), (1, .int x1), (2, .int x2), (3, .int x3), (4, .int x4), (5, .int x5)]) (st2 := [.int 0]) (h2 := (sh_rep m11.T m11.I m11.J)) rfl rfl rfl ?_
      exact kk
    obtain rfl := Option.some.inj e
    obtain ⟨rfl, rfl⟩ := tg
    exact sh_Lk_ret (i := .ireturn) rfl rfl rfl (Nat.le_of_ble_eq_true rfl) (Nat.le_of_ble_eq_true rfl)
theorem sl_309_13 {x1 : Int32} {x2 : Int32} {x3 : Int32} {x4 : Int32} {x5 : Int32} {y0 : Bool} {m m2 : sh_X} {o : Outcome} {z : (Bool × sh_X)} (e : sf_309_13 x1 x2 x3 x4 x5 y0 m = some z) (tg : (sh_tZ o m2) z) : sh_Lk 309 13 [(0, .ref 67), (1, .int x1), (2, .int x2), (3, .int x3), (4, .int x4), (5, .int x5)] [.int (sh_b2 y0)] m o m2 10 244 := by
  unfold sf_309_13 at e
  refine sh_Lk_lift (T := m.T) (I := m.I) (J := m.J) (s := m.s) (pc2 := 21) (lv2 := [(6, .int (sh_b2 y0)), (0, .ref 67), (1, .int x1), (2, .int x2), (3, .int x3), (4, .int x4), (5, .int x5)]) (st2 := [.int x1, .ref 76, .ref 67]) (I2 := m.I) (J2 := m.J) (fun hT v kk => ?_) ?_
  · refine sh_w (i := (.istore 6)) (len := 2) (pc2 := 15) (lv2 := [(6, .int (sh_b2 y0)), (0, .ref 67), (1, .int x1), (2, .int x2), (3, .int x3), (4, .int x4), (5, .int x5)]) (st2 := []) (h2 := (sh_rep m.T m.I m.J)) rfl rfl rfl ?_
    refine sh_w (i := (.aload_n 0)) (len := 1) (pc2 := 16) (lv2 := [(6, .int (sh_b2 y0)), (0, .ref 67), (1, .int x1), (2, .int x2), (3, .int x3), (4, .int x4), (5, .int x5)]) (st2 := [.ref 67]) (h2 := (sh_rep m.T m.I m.J)) rfl rfl rfl ?_
    refine sh_w (i := (.aload_n 0)) (len := 1) (pc2 := 17) (lv2 := [(6, .int (sh_b2 y0)), (0, .ref 67), (1, .int x1), (2, .int x2), (3, .int x3), (4, .int x4), (5, .int x5)]) (st2 := [.ref 67, .ref 67]) (h2 := (sh_rep m.T m.I m.J)) rfl rfl rfl ?_
    refine sh_gR1 (len := 3) (x := .ref 76) (pc2 := 20) rfl rfl (sh_s66 hT.st) rfl rfl ?_
    refine sh_w (i := (.iload_n 1)) (len := 1) (pc2 := 21) (lv2 := [(6, .int (sh_b2 y0)), (0, .ref 67), (1, .int x1), (2, .int x2), (3, .int x3), (4, .int x4), (5, .int x5)]) (st2 := [.int x1, .ref 76, .ref 67]) (h2 := (sh_rep m.T m.I m.J)) rfl rfl rfl ?_
    exact kk
  obtain ⟨c, e⟩ := sh_gd e
  refine sh_Lk_lift (T := m.T) (I := m.I) (J := m.J) (s := m.s) (pc2 := 22) (lv2 := [(6, .int (sh_b2 y0)), (0, .ref 67), (1, .int x1), (2, .int x2), (3, .int x3), (4, .int x4), (5, .int x5)]) (st2 := [.int (m.I 75 (Int32.toNatClampNeg x1)), .ref 67]) (I2 := m.I) (J2 := m.J) (fun hT v kk => ?_) ?_
  · refine sh_ia1 (x := m.I 75 (Int32.toNatClampNeg x1)) (pc2 := 22) rfl (sh_s75 hT.st) (sh_okb1 c) (sh_okb2 c) rfl rfl ?_
    exact kk
  obtain ⟨r1, m11, e1, e⟩ := sh_bn_e e
  refine sh_Lk_cV (r := (some (.int (sh_b2 r1)))) (st2 := [.int (sh_b2 r1)]) (pc2 := 25) (k2 := 310) (a := 66) (as := [.ref 67, .int (m.I 75 (Int32.toNatClampNeg x1))]) (rest := []) rfl rfl rfl (fun hT => (sh_s66 hT.st)) rfl rfl ⟨Nat.le_of_ble_eq_true rfl, Nat.le_of_ble_eq_true rfl⟩ (sl_310 e1 ⟨rfl, rfl⟩) rfl rfl (Nat.le_of_ble_eq_true rfl) (Nat.le_of_ble_eq_true rfl) ?_
  rcases sh_ite e with ⟨c, e⟩ | ⟨c, e⟩
  · refine sh_Lk_lift (T := m11.T) (I := m11.I) (J := m11.J) (s := m11.s) (pc2 := 33) (lv2 := [(6, .int (sh_b2 y0)), (0, .ref 67), (1, .int x1), (2, .int x2), (3, .int x3), (4, .int x4), (5, .int x5)]) (st2 := [.int (sh_b2 y0), .ref 67]) (I2 := m11.I) (J2 := m11.J) (fun hT v kk => ?_) ?_
    · refine sh_j0 (c := .ne) (off := (5)) (pc2 := 30) true rfl (sh_Znet c) rfl ?_
      refine sh_w (i := (.aload_n 0)) (len := 1) (pc2 := 31) (lv2 := [(6, .int (sh_b2 y0)), (0, .ref 67), (1, .int x1), (2, .int x2), (3, .int x3), (4, .int x4), (5, .int x5)]) (st2 := [.ref 67]) (h2 := (sh_rep m11.T m11.I m11.J)) rfl rfl rfl ?_
      refine sh_w (i := (.iload 6)) (len := 2) (pc2 := 33) (lv2 := [(6, .int (sh_b2 y0)), (0, .ref 67), (1, .int x1), (2, .int x2), (3, .int x3), (4, .int x4), (5, .int x5)]) (st2 := [.int (sh_b2 y0), .ref 67]) (h2 := (sh_rep m11.T m11.I m11.J)) rfl rfl rfl ?_
      exact kk
    rcases sh_ite e with ⟨c, e⟩ | ⟨c, e⟩
    · refine sh_Lk_lift (T := m11.T) (I := m11.I) (J := m11.J) (s := m11.s) (pc2 := 49) (lv2 := [(6, .int (sh_b2 y0)), (0, .ref 67), (1, .int x1), (2, .int x2), (3, .int x3), (4, .int x4), (5, .int x5)]) (st2 := [.int x3, .ref 67]) (I2 := m11.I) (J2 := m11.J) (fun hT v kk => ?_) ?_
      · refine sh_j0 (c := .eq) (off := (7)) (pc2 := 36) false rfl (sh_Zeqf c) rfl ?_
        refine sh_w (i := (.iload_n 3)) (len := 1) (pc2 := 37) (lv2 := [(6, .int (sh_b2 y0)), (0, .ref 67), (1, .int x1), (2, .int x2), (3, .int x3), (4, .int x4), (5, .int x5)]) (st2 := [.int x3, .ref 67]) (h2 := (sh_rep m11.T m11.I m11.J)) rfl rfl rfl ?_
        refine sh_w (i := (.goto 12)) (len := 3) (pc2 := 49) (lv2 := [(6, .int (sh_b2 y0)), (0, .ref 67), (1, .int x1), (2, .int x2), (3, .int x3), (4, .int x4), (5, .int x5)]) (st2 := [.int x3, .ref 67]) (h2 := (sh_rep m11.T m11.I m11.J)) rfl rfl rfl ?_
        exact kk
      exact sh_Lk_sub (sh_sub_c rfl (sh_sub_c rfl (sh_sub_c rfl (sh_sub_c rfl (sh_sub_c rfl (sh_sub_c rfl (sh_sub_n))))))) (sl_309_49 e tg)
    · refine sh_Lk_lift (T := m11.T) (I := m11.I) (J := m11.J) (s := m11.s) (pc2 := 49) (lv2 := [(6, .int (sh_b2 y0)), (0, .ref 67), (1, .int x1), (2, .int x2), (3, .int x3), (4, .int x4), (5, .int x5)]) (st2 := [.int (x4 * (x3 + (m11.I 66 44))), .ref 67]) (I2 := m11.I) (J2 := m11.J) (fun hT v kk => ?_) ?_
      · refine sh_j0 (c := .eq) (off := (7)) (pc2 := 40) true rfl (sh_Zeqt c) rfl ?_
        refine sh_w (i := (.iload 4)) (len := 2) (pc2 := 42) (lv2 := [(6, .int (sh_b2 y0)), (0, .ref 67), (1, .int x1), (2, .int x2), (3, .int x3), (4, .int x4), (5, .int x5)]) (st2 := [.int x4, .ref 67]) (h2 := (sh_rep m11.T m11.I m11.J)) rfl rfl rfl ?_
        refine sh_w (i := (.iload_n 3)) (len := 1) (pc2 := 43) (lv2 := [(6, .int (sh_b2 y0)), (0, .ref 67), (1, .int x1), (2, .int x2), (3, .int x3), (4, .int x4), (5, .int x5)]) (st2 := [.int x3, .int x4, .ref 67]) (h2 := (sh_rep m11.T m11.I m11.J)) rfl rfl rfl ?_
        refine sh_w (i := (.aload_n 0)) (len := 1) (pc2 := 44) (lv2 := [(6, .int (sh_b2 y0)), (0, .ref 67), (1, .int x1), (2, .int x2), (3, .int x3), (4, .int x4), (5, .int x5)]) (st2 := [.ref 67, .int x3, .int x4, .ref 67]) (h2 := (sh_rep m11.T m11.I m11.J)) rfl rfl rfl ?_
        refine sh_gI1 (len := 3) (x := m11.I 66 44) (pc2 := 47) rfl rfl (sh_s66 hT.st) rfl rfl rfl ?_
        refine sh_w (i := .iadd) (len := 1) (pc2 := 48) (lv2 := [(6, .int (sh_b2 y0)), (0, .ref 67), (1, .int x1), (2, .int x2), (3, .int x3), (4, .int x4), (5, .int x5)]) (st2 := [.int (x3 + (m11.I 66 44)), .int x4, .ref 67]) (h2 := (sh_rep m11.T m11.I m11.J)) rfl rfl rfl ?_
        refine sh_w (i := .imul) (len := 1) (pc2 := 49) (lv2 := [(6, .int (sh_b2 y0)), (0, .ref 67), (1, .int x1), (2, .int x2), (3, .int x3), (4, .int x4), (5, .int x5)]) (st2 := [.int (x4 * (x3 + (m11.I 66 44))), .ref 67]) (h2 := (sh_rep m11.T m11.I m11.J)) rfl rfl rfl ?_
        exact kk
      exact sh_Lk_sub (sh_sub_c rfl (sh_sub_c rfl (sh_sub_c rfl (sh_sub_c rfl (sh_sub_c rfl (sh_sub_c rfl (sh_sub_n))))))) (sl_309_49 e tg)
  · refine sh_Lk_lift (T := m11.T) (I := m11.I) (J := m11.J) (s := m11.s) (pc2 := 29) (lv2 := [(6, .int (sh_b2 y0)), (0, .ref 67), (1, .int x1), (2, .int x2), (3, .int x3), (4, .int x4), (5, .int x5)]) (st2 := [.int 0]) (I2 := m11.I) (J2 := m11.J) (fun hT v kk => ?_) ?_
    · refine sh_j0 (c := .ne) (off := (5)) (pc2 := 28) false rfl (sh_Znef c) rfl ?_
      refine sh_w (i := (.iconst 0)) (len := 1) (pc2 := 29) (lv2 := [(6, .int (sh_b2 y0)), (0, .ref 67), (1, .int x1), (2, .int x2), (3, .int x3), (4, .int x4), (5, .int x5)]) (st2 := [.int 0]) (h2 := (sh_rep m11.T m11.I m11.J)) rfl rfl rfl ?_
      exact kk
    obtain rfl := Option.some.inj e
    obtain ⟨rfl, rfl⟩ := tg
    exact sh_Lk_ret (i := .ireturn) rfl rfl rfl (Nat.le_of_ble_eq_true rfl) (Nat.le_of_ble_eq_true rfl)
theorem sl_309 {x1 : Int32} {x2 : Int32} {x3 : Int32} {x4 : Int32} {x5 : Int32} {m m2 : sh_X} {o : Outcome} {z : (Bool × sh_X)} (e : sf_309 x1 x2 x3 x4 x5 m = some z) (tg : (sh_tZ o m2) z) : sh_Lk 309 0 [(0, .ref 67), (1, .int x1), (2, .int x2), (3, .int x3), (4, .int x4), (5, .int x5)] [] m o m2 10 244 := by
  unfold sf_309 at e
  refine sh_Lk_lift (T := m.T) (I := m.I) (J := m.J) (s := m.s) (pc2 := 5) (lv2 := [(0, .ref 67), (1, .int x1), (2, .int x2), (3, .int x3), (4, .int x4), (5, .int x5)]) (st2 := [.int 3, .int (m.I 66 43)]) (I2 := m.I) (J2 := m.J) (fun hT v kk => ?_) ?_
  · refine sh_w (i := (.aload_n 0)) (len := 1) (pc2 := 1) (lv2 := [(0, .ref 67), (1, .int x1), (2, .int x2), (3, .int x3), (4, .int x4), (5, .int x5)]) (st2 := [.ref 67]) (h2 := (sh_rep m.T m.I m.J)) rfl rfl rfl ?_
    refine sh_gI1 (len := 3) (x := m.I 66 43) (pc2 := 4) rfl rfl (sh_s66 hT.st) rfl rfl rfl ?_
    refine sh_w (i := (.iconst 3)) (len := 1) (pc2 := 5) (lv2 := [(0, .ref 67), (1, .int x1), (2, .int x2), (3, .int x3), (4, .int x4), (5, .int x5)]) (st2 := [.int 3, .int (m.I 66 43)]) (h2 := (sh_rep m.T m.I m.J)) rfl rfl rfl ?_
    exact kk
  rcases sh_ite e with ⟨c, e⟩ | ⟨c, e⟩
  · refine sh_Lk_lift (T := m.T) (I := m.I) (J := m.J) (s := m.s) (pc2 := 13) (lv2 := [(0, .ref 67), (1, .int x1), (2, .int x2), (3, .int x3), (4, .int x4), (5, .int x5)]) (st2 := [.int 1]) (I2 := m.I) (J2 := m.J) (fun hT v kk => ?_) ?_
    · refine sh_jc (c := .ne) (off := (7)) (pc2 := 8) false rfl (sh_Bnef c) rfl ?_
      refine sh_w (i := (.iconst 1)) (len := 1) (pc2 := 9) (lv2 := [(0, .ref 67), (1, .int x1), (2, .int x2), (3, .int x3), (4, .int x4), (5, .int x5)]) (st2 := [.int 1]) (h2 := (sh_rep m.T m.I m.J)) rfl rfl rfl ?_
      refine sh_w (i := (.goto 4)) (len := 3) (pc2 := 13) (lv2 := [(0, .ref 67), (1, .int x1), (2, .int x2), (3, .int x3), (4, .int x4), (5, .int x5)]) (st2 := [.int 1]) (h2 := (sh_rep m.T m.I m.J)) rfl rfl rfl ?_
      exact kk
    exact sh_Lk_sub (sh_sub_c rfl (sh_sub_c rfl (sh_sub_c rfl (sh_sub_c rfl (sh_sub_c rfl (sh_sub_c rfl (sh_sub_n))))))) (sl_309_13 e tg)
  · refine sh_Lk_lift (T := m.T) (I := m.I) (J := m.J) (s := m.s) (pc2 := 13) (lv2 := [(0, .ref 67), (1, .int x1), (2, .int x2), (3, .int x3), (4, .int x4), (5, .int x5)]) (st2 := [.int 0]) (I2 := m.I) (J2 := m.J) (fun hT v kk => ?_) ?_
    · refine sh_jc (c := .ne) (off := (7)) (pc2 := 12) true rfl (sh_Bnet c) rfl ?_
      refine sh_w (i := (.iconst 0)) (len := 1) (pc2 := 13) (lv2 := [(0, .ref 67), (1, .int x1), (2, .int x2), (3, .int x3), (4, .int x4), (5, .int x5)]) (st2 := [.int 0]) (h2 := (sh_rep m.T m.I m.J)) rfl rfl rfl ?_
      exact kk
    exact sh_Lk_sub (sh_sub_c rfl (sh_sub_c rfl (sh_sub_c rfl (sh_sub_c rfl (sh_sub_c rfl (sh_sub_c rfl (sh_sub_n))))))) (sl_309_13 e tg)
theorem sl_302_71 {x1 : Int32} {m m2 : sh_X} {o : Outcome} {z : (Bool × sh_X)} (e : sf_302_71 x1 m = some z) (tg : (sh_tZ o m2) z) : sh_Lk 302 71 [(0, .ref 67), (1, .int x1)] [] m o m2 14 363 := by
  unfold sf_302_71 at e
  refine sh_Lk_lift (T := m.T) (I := m.I) (J := m.J) (s := m.s) (pc2 := 82) (lv2 := [(0, .ref 67), (1, .int x1)]) (st2 := [.int x1, .ref 74, .ref 70, .int 4, .ref 67]) (I2 := m.I) (J2 := m.J) (fun hT v kk => ?_) ?_
  · refine sh_w (i := (.aload_n 0)) (len := 1) (pc2 := 72) (lv2 := [(0, .ref 67), (1, .int x1)]) (st2 := [.ref 67]) (h2 := (sh_rep m.T m.I m.J)) rfl rfl rfl ?_
    refine sh_w (i := (.iconst 4)) (len := 1) (pc2 := 73) (lv2 := [(0, .ref 67), (1, .int x1)]) (st2 := [.int 4, .ref 67]) (h2 := (sh_rep m.T m.I m.J)) rfl rfl rfl ?_
    refine sh_w (i := (.aload_n 0)) (len := 1) (pc2 := 74) (lv2 := [(0, .ref 67), (1, .int x1)]) (st2 := [.ref 67, .int 4, .ref 67]) (h2 := (sh_rep m.T m.I m.J)) rfl rfl rfl ?_
    refine sh_gR1 (len := 3) (x := .ref 70) (pc2 := 77) rfl rfl (sh_s66 hT.st) rfl rfl ?_
    refine sh_w (i := (.aload_n 0)) (len := 1) (pc2 := 78) (lv2 := [(0, .ref 67), (1, .int x1)]) (st2 := [.ref 67, .ref 70, .int 4, .ref 67]) (h2 := (sh_rep m.T m.I m.J)) rfl rfl rfl ?_
    refine sh_gR1 (len := 3) (x := .ref 74) (pc2 := 81) rfl rfl (sh_s66 hT.st) rfl rfl ?_
    refine sh_w (i := (.iload_n 1)) (len := 1) (pc2 := 82) (lv2 := [(0, .ref 67), (1, .int x1)]) (st2 := [.int x1, .ref 74, .ref 70, .int 4, .ref 67]) (h2 := (sh_rep m.T m.I m.J)) rfl rfl rfl ?_
    exact kk
  obtain ⟨c, e⟩ := sh_gd e
  refine sh_Lk_lift (T := m.T) (I := m.I) (J := m.J) (s := m.s) (pc2 := 83) (lv2 := [(0, .ref 67), (1, .int x1)]) (st2 := [.int (m.I 73 (Int32.toNatClampNeg x1)), .ref 70, .int 4, .ref 67]) (I2 := m.I) (J2 := m.J) (fun hT v kk => ?_) ?_
  · refine sh_ia1 (x := m.I 73 (Int32.toNatClampNeg x1)) (pc2 := 83) rfl (sh_s73 hT.st) (sh_okb1 c) (sh_okb2 c) rfl rfl ?_
    exact kk
  obtain ⟨c, e⟩ := sh_gd e
  refine sh_Lk_lift (T := m.T) (I := m.I) (J := m.J) (s := m.s) (pc2 := 84) (lv2 := [(0, .ref 67), (1, .int x1)]) (st2 := [.int (m.I 69 (Int32.toNatClampNeg (m.I 73 (Int32.toNatClampNeg x1)))), .int 4, .ref 67]) (I2 := m.I) (J2 := m.J) (fun hT v kk => ?_) ?_
  · refine sh_ia1 (x := m.I 69 (Int32.toNatClampNeg (m.I 73 (Int32.toNatClampNeg x1)))) (pc2 := 84) rfl (sh_s69 hT.st) (sh_okb1 c) (sh_okb2 c) rfl rfl ?_
    exact kk
  obtain ⟨r1, m11, e1, e⟩ := sh_bn_e e
  refine sh_Lk_cV (r := (some (.int (sh_b2 r1)))) (st2 := [.int (sh_b2 r1)]) (pc2 := 87) (k2 := 252) (a := 66) (as := [.ref 67, .int 4, .int (m.I 69 (Int32.toNatClampNeg (m.I 73 (Int32.toNatClampNeg x1))))]) (rest := []) rfl rfl rfl (fun hT => (sh_s66 hT.st)) rfl rfl ⟨Nat.le_of_ble_eq_true rfl, Nat.le_of_ble_eq_true rfl⟩ (sl_252 e1 ⟨rfl, rfl⟩) rfl rfl (Nat.le_of_ble_eq_true rfl) (Nat.le_of_ble_eq_true rfl) ?_
  obtain rfl := Option.some.inj e
  obtain ⟨rfl, rfl⟩ := tg
  exact sh_Lk_ret (i := .ireturn) rfl rfl (sh_rb rfl _) (Nat.le_of_ble_eq_true rfl) (Nat.le_of_ble_eq_true rfl)
theorem sl_302_88 {x1 : Int32} {x2 : Int32} {m m2 : sh_X} {o : Outcome} {z : (Bool × sh_X)} (e : sf_302_88 x1 x2 m = some z) (tg : (sh_tZ o m2) z) : sh_Lk 302 88 [(0, .ref 67), (1, .int x1), (2, .int x2)] [] m o m2 14 363 := by
  unfold sf_302_88 at e
  refine sh_Lk_lift (T := m.T) (I := m.I) (J := m.J) (s := m.s) (pc2 := 94) (lv2 := [(0, .ref 67), (1, .int x1), (2, .int x2)]) (st2 := [.int 2, .int x2, .ref 107]) (I2 := m.I) (J2 := m.J) (fun hT v kk => ?_) ?_
  · refine sh_w (i := (.aload_n 0)) (len := 1) (pc2 := 89) (lv2 := [(0, .ref 67), (1, .int x1), (2, .int x2)]) (st2 := [.ref 67]) (h2 := (sh_rep m.T m.I m.J)) rfl rfl rfl ?_
    refine sh_gR1 (len := 3) (x := .ref 107) (pc2 := 92) rfl rfl (sh_s66 hT.st) rfl rfl ?_
    refine sh_w (i := (.iload_n 2)) (len := 1) (pc2 := 93) (lv2 := [(0, .ref 67), (1, .int x1), (2, .int x2)]) (st2 := [.int x2, .ref 107]) (h2 := (sh_rep m.T m.I m.J)) rfl rfl rfl ?_
    refine sh_w (i := (.iconst 2)) (len := 1) (pc2 := 94) (lv2 := [(0, .ref 67), (1, .int x1), (2, .int x2)]) (st2 := [.int 2, .int x2, .ref 107]) (h2 := (sh_rep m.T m.I m.J)) rfl rfl rfl ?_
    exact kk
  obtain ⟨c, e⟩ := sh_gd e
  refine sh_Lk_lift (T := m.T) (I := m.I) (J := m.J) (s := m.s) (pc2 := 104) (lv2 := [(0, .ref 67), (1, .int x1), (2, .int x2)]) (st2 := [.int (m.I 66 43), .int x2, .ref 108]) (I2 := sh_u2 m.I 106 (Int32.toNatClampNeg x2) 2) (J2 := m.J) (fun hT v kk => ?_) ?_
  · refine sh_is1 (x := 2) (i := x2) (pc2 := 95) rfl (sh_s106 hT.st) (sh_okb1 c) (sh_okb2 c) rfl ?_
    refine sh_w (i := (.aload_n 0)) (len := 1) (pc2 := 96) (lv2 := [(0, .ref 67), (1, .int x1), (2, .int x2)]) (st2 := [.ref 67]) (h2 := (sh_rep m.T (sh_u2 m.I 106 (Int32.toNatClampNeg x2) 2) m.J)) rfl rfl rfl ?_
    refine sh_gR1 (len := 3) (x := .ref 108) (pc2 := 99) rfl rfl (sh_s66 hT.st) rfl rfl ?_
    refine sh_w (i := (.iload_n 2)) (len := 1) (pc2 := 100) (lv2 := [(0, .ref 67), (1, .int x1), (2, .int x2)]) (st2 := [.int x2, .ref 108]) (h2 := (sh_rep m.T (sh_u2 m.I 106 (Int32.toNatClampNeg x2) 2) m.J)) rfl rfl rfl ?_
    refine sh_w (i := (.aload_n 0)) (len := 1) (pc2 := 101) (lv2 := [(0, .ref 67), (1, .int x1), (2, .int x2)]) (st2 := [.ref 67, .int x2, .ref 108]) (h2 := (sh_rep m.T (sh_u2 m.I 106 (Int32.toNatClampNeg x2) 2) m.J)) rfl rfl rfl ?_
    refine sh_gI1 (len := 3) (x := m.I 66 43) (pc2 := 104) rfl rfl (sh_s66 hT.st) rfl rfl rfl ?_
    exact kk
  obtain ⟨c, e⟩ := sh_gd e
  refine sh_Lk_lift (T := m.T) (I := sh_u2 m.I 106 (Int32.toNatClampNeg x2) 2) (J := m.J) (s := m.s) (pc2 := 114) (lv2 := [(0, .ref 67), (1, .int x1), (2, .int x2)]) (st2 := [.int (m.I 66 44), .int x2, .ref 109]) (I2 := sh_u2 (sh_u2 m.I 106 (Int32.toNatClampNeg x2) 2) 107 (Int32.toNatClampNeg x2) (m.I 66 43)) (J2 := m.J) (fun hT v kk => ?_) ?_
  · refine sh_is1 (x := m.I 66 43) (i := x2) (pc2 := 105) rfl (sh_s107 hT.st) (sh_okb1 c) (sh_okb2 c) rfl ?_
    refine sh_w (i := (.aload_n 0)) (len := 1) (pc2 := 106) (lv2 := [(0, .ref 67), (1, .int x1), (2, .int x2)]) (st2 := [.ref 67]) (h2 := (sh_rep m.T (sh_u2 (sh_u2 m.I 106 (Int32.toNatClampNeg x2) 2) 107 (Int32.toNatClampNeg x2) (m.I 66 43)) m.J)) rfl rfl rfl ?_
    refine sh_gR1 (len := 3) (x := .ref 109) (pc2 := 109) rfl rfl (sh_s66 hT.st) rfl rfl ?_
    refine sh_w (i := (.iload_n 2)) (len := 1) (pc2 := 110) (lv2 := [(0, .ref 67), (1, .int x1), (2, .int x2)]) (st2 := [.int x2, .ref 109]) (h2 := (sh_rep m.T (sh_u2 (sh_u2 m.I 106 (Int32.toNatClampNeg x2) 2) 107 (Int32.toNatClampNeg x2) (m.I 66 43)) m.J)) rfl rfl rfl ?_
    refine sh_w (i := (.aload_n 0)) (len := 1) (pc2 := 111) (lv2 := [(0, .ref 67), (1, .int x1), (2, .int x2)]) (st2 := [.ref 67, .int x2, .ref 109]) (h2 := (sh_rep m.T (sh_u2 (sh_u2 m.I 106 (Int32.toNatClampNeg x2) 2) 107 (Int32.toNatClampNeg x2) (m.I 66 43)) m.J)) rfl rfl rfl ?_
    refine sh_gI1 (len := 3) (x := m.I 66 44) (pc2 := 114) rfl rfl (sh_s66 hT.st) rfl rfl rfl ?_
    exact kk
  obtain ⟨c, e⟩ := sh_gd e
  refine sh_Lk_lift (T := m.T) (I := sh_u2 (sh_u2 m.I 106 (Int32.toNatClampNeg x2) 2) 107 (Int32.toNatClampNeg x2) (m.I 66 43)) (J := m.J) (s := m.s) (pc2 := 124) (lv2 := [(0, .ref 67), (1, .int x1), (2, .int x2)]) (st2 := [.int (m.I 66 45), .int x2, .ref 110]) (I2 := sh_u2 (sh_u2 (sh_u2 m.I 106 (Int32.toNatClampNeg x2) 2) 107 (Int32.toNatClampNeg x2) (m.I 66 43)) 108 (Int32.toNatClampNeg x2) (m.I 66 44)) (J2 := m.J) (fun hT v kk => ?_) ?_
  · refine sh_is1 (x := m.I 66 44) (i := x2) (pc2 := 115) rfl (sh_s108 hT.st) (sh_okb1 c) (sh_okb2 c) rfl ?_
    refine sh_w (i := (.aload_n 0)) (len := 1) (pc2 := 116) (lv2 := [(0, .ref 67), (1, .int x1), (2, .int x2)]) (st2 := [.ref 67]) (h2 := (sh_rep m.T (sh_u2 (sh_u2 (sh_u2 m.I 106 (Int32.toNatClampNeg x2) 2) 107 (Int32.toNatClampNeg x2) (m.I 66 43)) 108 (Int32.toNatClampNeg x2) (m.I 66 44)) m.J)) rfl rfl rfl ?_
    refine sh_gR1 (len := 3) (x := .ref 110) (pc2 := 119) rfl rfl (sh_s66 hT.st) rfl rfl ?_
    refine sh_w (i := (.iload_n 2)) (len := 1) (pc2 := 120) (lv2 := [(0, .ref 67), (1, .int x1), (2, .int x2)]) (st2 := [.int x2, .ref 110]) (h2 := (sh_rep m.T (sh_u2 (sh_u2 (sh_u2 m.I 106 (Int32.toNatClampNeg x2) 2) 107 (Int32.toNatClampNeg x2) (m.I 66 43)) 108 (Int32.toNatClampNeg x2) (m.I 66 44)) m.J)) rfl rfl rfl ?_
    refine sh_w (i := (.aload_n 0)) (len := 1) (pc2 := 121) (lv2 := [(0, .ref 67), (1, .int x1), (2, .int x2)]) (st2 := [.ref 67, .int x2, .ref 110]) (h2 := (sh_rep m.T (sh_u2 (sh_u2 (sh_u2 m.I 106 (Int32.toNatClampNeg x2) 2) 107 (Int32.toNatClampNeg x2) (m.I 66 43)) 108 (Int32.toNatClampNeg x2) (m.I 66 44)) m.J)) rfl rfl rfl ?_
    refine sh_gI1 (len := 3) (x := m.I 66 45) (pc2 := 124) rfl rfl (sh_s66 hT.st) rfl rfl rfl ?_
    exact kk
  obtain ⟨c, e⟩ := sh_gd e
  refine sh_Lk_lift (T := m.T) (I := sh_u2 (sh_u2 (sh_u2 m.I 106 (Int32.toNatClampNeg x2) 2) 107 (Int32.toNatClampNeg x2) (m.I 66 43)) 108 (Int32.toNatClampNeg x2) (m.I 66 44)) (J := m.J) (s := m.s) (pc2 := 134) (lv2 := [(0, .ref 67), (1, .int x1), (2, .int x2)]) (st2 := [.long (m.J 66 46), .int x2, .ref 112]) (I2 := sh_u2 (sh_u2 (sh_u2 (sh_u2 m.I 106 (Int32.toNatClampNeg x2) 2) 107 (Int32.toNatClampNeg x2) (m.I 66 43)) 108 (Int32.toNatClampNeg x2) (m.I 66 44)) 109 (Int32.toNatClampNeg x2) (m.I 66 45)) (J2 := m.J) (fun hT v kk => ?_) ?_
  · refine sh_is1 (x := m.I 66 45) (i := x2) (pc2 := 125) rfl (sh_s109 hT.st) (sh_okb1 c) (sh_okb2 c) rfl ?_
    refine sh_w (i := (.aload_n 0)) (len := 1) (pc2 := 126) (lv2 := [(0, .ref 67), (1, .int x1), (2, .int x2)]) (st2 := [.ref 67]) (h2 := (sh_rep m.T (sh_u2 (sh_u2 (sh_u2 (sh_u2 m.I 106 (Int32.toNatClampNeg x2) 2) 107 (Int32.toNatClampNeg x2) (m.I 66 43)) 108 (Int32.toNatClampNeg x2) (m.I 66 44)) 109 (Int32.toNatClampNeg x2) (m.I 66 45)) m.J)) rfl rfl rfl ?_
    refine sh_gR1 (len := 3) (x := .ref 112) (pc2 := 129) rfl rfl (sh_s66 hT.st) rfl rfl ?_
    refine sh_w (i := (.iload_n 2)) (len := 1) (pc2 := 130) (lv2 := [(0, .ref 67), (1, .int x1), (2, .int x2)]) (st2 := [.int x2, .ref 112]) (h2 := (sh_rep m.T (sh_u2 (sh_u2 (sh_u2 (sh_u2 m.I 106 (Int32.toNatClampNeg x2) 2) 107 (Int32.toNatClampNeg x2) (m.I 66 43)) 108 (Int32.toNatClampNeg x2) (m.I 66 44)) 109 (Int32.toNatClampNeg x2) (m.I 66 45)) m.J)) rfl rfl rfl ?_
    refine sh_w (i := (.aload_n 0)) (len := 1) (pc2 := 131) (lv2 := [(0, .ref 67), (1, .int x1), (2, .int x2)]) (st2 := [.ref 67, .int x2, .ref 112]) (h2 := (sh_rep m.T (sh_u2 (sh_u2 (sh_u2 (sh_u2 m.I 106 (Int32.toNatClampNeg x2) 2) 107 (Int32.toNatClampNeg x2) (m.I 66 43)) 108 (Int32.toNatClampNeg x2) (m.I 66 44)) 109 (Int32.toNatClampNeg x2) (m.I 66 45)) m.J)) rfl rfl rfl ?_
    refine sh_gJ1 (len := 3) (x := m.J 66 46) (pc2 := 134) rfl rfl (sh_s66 hT.st) rfl rfl rfl ?_
    exact kk
  obtain ⟨c, e⟩ := sh_gd e
  refine sh_Lk_lift (T := m.T) (I := sh_u2 (sh_u2 (sh_u2 (sh_u2 m.I 106 (Int32.toNatClampNeg x2) 2) 107 (Int32.toNatClampNeg x2) (m.I 66 43)) 108 (Int32.toNatClampNeg x2) (m.I 66 44)) 109 (Int32.toNatClampNeg x2) (m.I 66 45)) (J := m.J) (s := m.s) (pc2 := 141) (lv2 := [(0, .ref 67), (1, .int x1), (2, .int x2)]) (st2 := [.int x1, .ref 76, .ref 67]) (I2 := sh_u2 (sh_u2 (sh_u2 (sh_u2 m.I 106 (Int32.toNatClampNeg x2) 2) 107 (Int32.toNatClampNeg x2) (m.I 66 43)) 108 (Int32.toNatClampNeg x2) (m.I 66 44)) 109 (Int32.toNatClampNeg x2) (m.I 66 45)) (J2 := sh_u2 m.J 111 (Int32.toNatClampNeg x2) (m.J 66 46)) (fun hT v kk => ?_) ?_
  · refine sh_ls1 (x := m.J 66 46) (i := x2) (pc2 := 135) rfl (sh_s111 hT.st) (sh_okb1 c) (sh_okb2 c) rfl ?_
    refine sh_w (i := (.aload_n 0)) (len := 1) (pc2 := 136) (lv2 := [(0, .ref 67), (1, .int x1), (2, .int x2)]) (st2 := [.ref 67]) (h2 := (sh_rep m.T (sh_u2 (sh_u2 (sh_u2 (sh_u2 m.I 106 (Int32.toNatClampNeg x2) 2) 107 (Int32.toNatClampNeg x2) (m.I 66 43)) 108 (Int32.toNatClampNeg x2) (m.I 66 44)) 109 (Int32.toNatClampNeg x2) (m.I 66 45)) (sh_u2 m.J 111 (Int32.toNatClampNeg x2) (m.J 66 46)))) rfl rfl rfl ?_
    refine sh_w (i := (.aload_n 0)) (len := 1) (pc2 := 137) (lv2 := [(0, .ref 67), (1, .int x1), (2, .int x2)]) (st2 := [.ref 67, .ref 67]) (h2 := (sh_rep m.T (sh_u2 (sh_u2 (sh_u2 (sh_u2 m.I 106 (Int32.toNatClampNeg x2) 2) 107 (Int32.toNatClampNeg x2) (m.I 66 43)) 108 (Int32.toNatClampNeg x2) (m.I 66 44)) 109 (Int32.toNatClampNeg x2) (m.I 66 45)) (sh_u2 m.J 111 (Int32.toNatClampNeg x2) (m.J 66 46)))) rfl rfl rfl ?_
    refine sh_gR1 (len := 3) (x := .ref 76) (pc2 := 140) rfl rfl (sh_s66 hT.st) rfl rfl ?_
    refine sh_w (i := (.iload_n 1)) (len := 1) (pc2 := 141) (lv2 := [(0, .ref 67), (1, .int x1), (2, .int x2)]) (st2 := [.int x1, .ref 76, .ref 67]) (h2 := (sh_rep m.T (sh_u2 (sh_u2 (sh_u2 (sh_u2 m.I 106 (Int32.toNatClampNeg x2) 2) 107 (Int32.toNatClampNeg x2) (m.I 66 43)) 108 (Int32.toNatClampNeg x2) (m.I 66 44)) 109 (Int32.toNatClampNeg x2) (m.I 66 45)) (sh_u2 m.J 111 (Int32.toNatClampNeg x2) (m.J 66 46)))) rfl rfl rfl ?_
    exact kk
  obtain ⟨c, e⟩ := sh_gd e
  refine sh_Lk_lift (T := m.T) (I := sh_u2 (sh_u2 (sh_u2 (sh_u2 m.I 106 (Int32.toNatClampNeg x2) 2) 107 (Int32.toNatClampNeg x2) (m.I 66 43)) 108 (Int32.toNatClampNeg x2) (m.I 66 44)) 109 (Int32.toNatClampNeg x2) (m.I 66 45)) (J := sh_u2 m.J 111 (Int32.toNatClampNeg x2) (m.J 66 46)) (s := m.s) (pc2 := 142) (lv2 := [(0, .ref 67), (1, .int x1), (2, .int x2)]) (st2 := [.int (m.I 75 (Int32.toNatClampNeg x1)), .ref 67]) (I2 := sh_u2 (sh_u2 (sh_u2 (sh_u2 m.I 106 (Int32.toNatClampNeg x2) 2) 107 (Int32.toNatClampNeg x2) (m.I 66 43)) 108 (Int32.toNatClampNeg x2) (m.I 66 44)) 109 (Int32.toNatClampNeg x2) (m.I 66 45)) (J2 := sh_u2 m.J 111 (Int32.toNatClampNeg x2) (m.J 66 46)) (fun hT v kk => ?_) ?_
  · refine sh_ia1 (x := m.I 75 (Int32.toNatClampNeg x1)) (pc2 := 142) rfl (sh_s75 hT.st) (sh_okb1 c) (sh_okb2 c) rfl rfl ?_
    exact kk
  obtain ⟨r1, m11, e1, e⟩ := sh_bn_e e
  refine sh_Lk_cV (r := none) (st2 := []) (pc2 := 145) (k2 := 295) (a := 66) (as := [.ref 67, .int (m.I 75 (Int32.toNatClampNeg x1))]) (rest := []) rfl rfl rfl (fun hT => (sh_s66 hT.st)) rfl rfl ⟨Nat.le_of_ble_eq_true rfl, Nat.le_of_ble_eq_true rfl⟩ (sl_295 e1 ⟨rfl, rfl⟩) rfl rfl (Nat.le_of_ble_eq_true rfl) (Nat.le_of_ble_eq_true rfl) ?_
  refine sh_Lk_lift (T := m11.T) (I := m11.I) (J := m11.J) (s := m11.s) (pc2 := 146) (lv2 := [(0, .ref 67), (1, .int x1), (2, .int x2)]) (st2 := [.int 1]) (I2 := m11.I) (J2 := m11.J) (fun hT v kk => ?_) ?_
  · refine sh_w (i := (.iconst 1)) (len := 1) (pc2 := 146) (lv2 := [(0, .ref 67), (1, .int x1), (2, .int x2)]) (st2 := [.int 1]) (h2 := (sh_rep m11.T m11.I m11.J)) rfl rfl rfl ?_
    exact kk
  obtain rfl := Option.some.inj e
  obtain ⟨rfl, rfl⟩ := tg
  exact sh_Lk_ret (i := .ireturn) rfl rfl rfl (Nat.le_of_ble_eq_true rfl) (Nat.le_of_ble_eq_true rfl)
theorem sl_302 {x1 : Int32} {m m2 : sh_X} {o : Outcome} {z : (Bool × sh_X)} (e : sf_302 x1 m = some z) (tg : (sh_tZ o m2) z) : sh_Lk 302 0 [(0, .ref 67), (1, .int x1)] [] m o m2 14 363 := by
  unfold sf_302 at e
  refine sh_Lk_lift (T := m.T) (I := m.I) (J := m.J) (s := m.s) (pc2 := 12) (lv2 := [(2, .int ((m.I 66 73) - 1)), (0, .ref 67), (1, .int x1)]) (st2 := [.int ((m.I 66 73) - 1), .ref 107]) (I2 := m.I) (J2 := m.J) (fun hT v kk => ?_) ?_
  · refine sh_w (i := (.aload_n 0)) (len := 1) (pc2 := 1) (lv2 := [(0, .ref 67), (1, .int x1)]) (st2 := [.ref 67]) (h2 := (sh_rep m.T m.I m.J)) rfl rfl rfl ?_
    refine sh_gI1 (len := 3) (x := m.I 66 73) (pc2 := 4) rfl rfl (sh_s66 hT.st) rfl rfl rfl ?_
    refine sh_w (i := (.iconst 1)) (len := 1) (pc2 := 5) (lv2 := [(0, .ref 67), (1, .int x1)]) (st2 := [.int 1, .int (m.I 66 73)]) (h2 := (sh_rep m.T m.I m.J)) rfl rfl rfl ?_
    refine sh_w (i := .isub) (len := 1) (pc2 := 6) (lv2 := [(0, .ref 67), (1, .int x1)]) (st2 := [.int ((m.I 66 73) - 1)]) (h2 := (sh_rep m.T m.I m.J)) rfl rfl rfl ?_
    refine sh_w (i := (.istore_n 2)) (len := 1) (pc2 := 7) (lv2 := [(2, .int ((m.I 66 73) - 1)), (0, .ref 67), (1, .int x1)]) (st2 := []) (h2 := (sh_rep m.T m.I m.J)) rfl rfl rfl ?_
    refine sh_w (i := (.aload_n 0)) (len := 1) (pc2 := 8) (lv2 := [(2, .int ((m.I 66 73) - 1)), (0, .ref 67), (1, .int x1)]) (st2 := [.ref 67]) (h2 := (sh_rep m.T m.I m.J)) rfl rfl rfl ?_
    refine sh_gR1 (len := 3) (x := .ref 107) (pc2 := 11) rfl rfl (sh_s66 hT.st) rfl rfl ?_
    refine sh_w (i := (.iload_n 2)) (len := 1) (pc2 := 12) (lv2 := [(2, .int ((m.I 66 73) - 1)), (0, .ref 67), (1, .int x1)]) (st2 := [.int ((m.I 66 73) - 1), .ref 107]) (h2 := (sh_rep m.T m.I m.J)) rfl rfl rfl ?_
    exact kk
  obtain ⟨c, e⟩ := sh_gd e
  refine sh_Lk_lift (T := m.T) (I := m.I) (J := m.J) (s := m.s) (pc2 := 13) (lv2 := [(2, .int ((m.I 66 73) - 1)), (0, .ref 67), (1, .int x1)]) (st2 := [.int (m.I 106 (Int32.toNatClampNeg ((m.I 66 73) - 1)))]) (I2 := m.I) (J2 := m.J) (fun hT v kk => ?_) ?_
  · refine sh_ia1 (x := m.I 106 (Int32.toNatClampNeg ((m.I 66 73) - 1))) (pc2 := 13) rfl (sh_s106 hT.st) (sh_okb1 c) (sh_okb2 c) rfl rfl ?_
    exact kk
  rcases sh_ite e with ⟨c, e⟩ | ⟨c, e⟩
  · refine sh_Lk_lift (T := m.T) (I := m.I) (J := m.J) (s := m.s) (pc2 := 22) (lv2 := [(2, .int ((m.I 66 73) - 1)), (0, .ref 67), (1, .int x1)]) (st2 := [.int 1, .int ((m.I 66 73) - 1), .ref 107]) (I2 := m.I) (J2 := m.J) (fun hT v kk => ?_) ?_
    · refine sh_j0 (c := .ne) (off := (22)) (pc2 := 16) false rfl (sh_Bnef c) rfl ?_
      refine sh_w (i := (.aload_n 0)) (len := 1) (pc2 := 17) (lv2 := [(2, .int ((m.I 66 73) - 1)), (0, .ref 67), (1, .int x1)]) (st2 := [.ref 67]) (h2 := (sh_rep m.T m.I m.J)) rfl rfl rfl ?_
      refine sh_gR1 (len := 3) (x := .ref 107) (pc2 := 20) rfl rfl (sh_s66 hT.st) rfl rfl ?_
      refine sh_w (i := (.iload_n 2)) (len := 1) (pc2 := 21) (lv2 := [(2, .int ((m.I 66 73) - 1)), (0, .ref 67), (1, .int x1)]) (st2 := [.int ((m.I 66 73) - 1), .ref 107]) (h2 := (sh_rep m.T m.I m.J)) rfl rfl rfl ?_
      refine sh_w (i := (.iconst 1)) (len := 1) (pc2 := 22) (lv2 := [(2, .int ((m.I 66 73) - 1)), (0, .ref 67), (1, .int x1)]) (st2 := [.int 1, .int ((m.I 66 73) - 1), .ref 107]) (h2 := (sh_rep m.T m.I m.J)) rfl rfl rfl ?_
      exact kk
    obtain ⟨c, e⟩ := sh_gd e
    refine sh_Lk_lift (T := m.T) (I := m.I) (J := m.J) (s := m.s) (pc2 := 29) (lv2 := [(2, .int ((m.I 66 73) - 1)), (0, .ref 67), (1, .int x1)]) (st2 := [.int x1, .ref 75, .ref 67]) (I2 := sh_u2 m.I 106 (Int32.toNatClampNeg ((m.I 66 73) - 1)) 1) (J2 := m.J) (fun hT v kk => ?_) ?_
    · refine sh_is1 (x := 1) (i := (m.I 66 73) - 1) (pc2 := 23) rfl (sh_s106 hT.st) (sh_okb1 c) (sh_okb2 c) rfl ?_
      refine sh_w (i := (.aload_n 0)) (len := 1) (pc2 := 24) (lv2 := [(2, .int ((m.I 66 73) - 1)), (0, .ref 67), (1, .int x1)]) (st2 := [.ref 67]) (h2 := (sh_rep m.T (sh_u2 m.I 106 (Int32.toNatClampNeg ((m.I 66 73) - 1)) 1) m.J)) rfl rfl rfl ?_
      refine sh_w (i := (.aload_n 0)) (len := 1) (pc2 := 25) (lv2 := [(2, .int ((m.I 66 73) - 1)), (0, .ref 67), (1, .int x1)]) (st2 := [.ref 67, .ref 67]) (h2 := (sh_rep m.T (sh_u2 m.I 106 (Int32.toNatClampNeg ((m.I 66 73) - 1)) 1) m.J)) rfl rfl rfl ?_
      refine sh_gR1 (len := 3) (x := .ref 75) (pc2 := 28) rfl rfl (sh_s66 hT.st) rfl rfl ?_
      refine sh_w (i := (.iload_n 1)) (len := 1) (pc2 := 29) (lv2 := [(2, .int ((m.I 66 73) - 1)), (0, .ref 67), (1, .int x1)]) (st2 := [.int x1, .ref 75, .ref 67]) (h2 := (sh_rep m.T (sh_u2 m.I 106 (Int32.toNatClampNeg ((m.I 66 73) - 1)) 1) m.J)) rfl rfl rfl ?_
      exact kk
    obtain ⟨c, e⟩ := sh_gd e
    refine sh_Lk_lift (T := m.T) (I := sh_u2 m.I 106 (Int32.toNatClampNeg ((m.I 66 73) - 1)) 1) (J := m.J) (s := m.s) (pc2 := 30) (lv2 := [(2, .int ((m.I 66 73) - 1)), (0, .ref 67), (1, .int x1)]) (st2 := [.int (m.I 74 (Int32.toNatClampNeg x1)), .ref 67]) (I2 := sh_u2 m.I 106 (Int32.toNatClampNeg ((m.I 66 73) - 1)) 1) (J2 := m.J) (fun hT v kk => ?_) ?_
    · refine sh_ia1 (x := m.I 74 (Int32.toNatClampNeg x1)) (pc2 := 30) rfl (sh_s74 hT.st) (sh_okb1 c) (sh_okb2 c) rfl rfl ?_
      exact kk
    obtain ⟨r1, m11, e1, e⟩ := sh_bn_e e
    refine sh_Lk_cV (r := none) (st2 := []) (pc2 := 33) (k2 := 295) (a := 66) (as := [.ref 67, .int (m.I 74 (Int32.toNatClampNeg x1))]) (rest := []) rfl rfl rfl (fun hT => (sh_s66 hT.st)) rfl rfl ⟨Nat.le_of_ble_eq_true rfl, Nat.le_of_ble_eq_true rfl⟩ (sl_295 e1 ⟨rfl, rfl⟩) rfl rfl (Nat.le_of_ble_eq_true rfl) (Nat.le_of_ble_eq_true rfl) ?_
    refine sh_Lk_lift (T := m11.T) (I := m11.I) (J := m11.J) (s := m11.s) (pc2 := 34) (lv2 := [(2, .int ((m.I 66 73) - 1)), (0, .ref 67), (1, .int x1)]) (st2 := [.int 1]) (I2 := m11.I) (J2 := m11.J) (fun hT v kk => ?_) ?_
    · refine sh_w (i := (.iconst 1)) (len := 1) (pc2 := 34) (lv2 := [(2, .int ((m.I 66 73) - 1)), (0, .ref 67), (1, .int x1)]) (st2 := [.int 1]) (h2 := (sh_rep m11.T m11.I m11.J)) rfl rfl rfl ?_
      exact kk
    obtain rfl := Option.some.inj e
    obtain ⟨rfl, rfl⟩ := tg
    exact sh_Lk_ret (i := .ireturn) rfl rfl rfl (Nat.le_of_ble_eq_true rfl) (Nat.le_of_ble_eq_true rfl)
  · refine sh_Lk_lift (T := m.T) (I := m.I) (J := m.J) (s := m.s) (pc2 := 40) (lv2 := [(2, .int ((m.I 66 73) - 1)), (0, .ref 67), (1, .int x1)]) (st2 := [.int ((m.I 66 73) - 1), .ref 107]) (I2 := m.I) (J2 := m.J) (fun hT v kk => ?_) ?_
    · refine sh_j0 (c := .ne) (off := (22)) (pc2 := 35) true rfl (sh_Bnet c) rfl ?_
      refine sh_w (i := (.aload_n 0)) (len := 1) (pc2 := 36) (lv2 := [(2, .int ((m.I 66 73) - 1)), (0, .ref 67), (1, .int x1)]) (st2 := [.ref 67]) (h2 := (sh_rep m.T m.I m.J)) rfl rfl rfl ?_
      refine sh_gR1 (len := 3) (x := .ref 107) (pc2 := 39) rfl rfl (sh_s66 hT.st) rfl rfl ?_
      refine sh_w (i := (.iload_n 2)) (len := 1) (pc2 := 40) (lv2 := [(2, .int ((m.I 66 73) - 1)), (0, .ref 67), (1, .int x1)]) (st2 := [.int ((m.I 66 73) - 1), .ref 107]) (h2 := (sh_rep m.T m.I m.J)) rfl rfl rfl ?_
      exact kk
    obtain ⟨c, e⟩ := sh_gd e
    refine sh_Lk_lift (T := m.T) (I := m.I) (J := m.J) (s := m.s) (pc2 := 42) (lv2 := [(2, .int ((m.I 66 73) - 1)), (0, .ref 67), (1, .int x1)]) (st2 := [.int 1, .int (m.I 106 (Int32.toNatClampNeg ((m.I 66 73) - 1)))]) (I2 := m.I) (J2 := m.J) (fun hT v kk => ?_) ?_
    · refine sh_ia1 (x := m.I 106 (Int32.toNatClampNeg ((m.I 66 73) - 1))) (pc2 := 41) rfl (sh_s106 hT.st) (sh_okb1 c) (sh_okb2 c) rfl rfl ?_
      refine sh_w (i := (.iconst 1)) (len := 1) (pc2 := 42) (lv2 := [(2, .int ((m.I 66 73) - 1)), (0, .ref 67), (1, .int x1)]) (st2 := [.int 1, .int (m.I 106 (Int32.toNatClampNeg ((m.I 66 73) - 1)))]) (h2 := (sh_rep m.T m.I m.J)) rfl rfl rfl ?_
      exact kk
    rcases sh_ite e with ⟨c, e⟩ | ⟨c, e⟩
    · refine sh_Lk_lift (T := m.T) (I := m.I) (J := m.J) (s := m.s) (pc2 := 50) (lv2 := [(2, .int ((m.I 66 73) - 1)), (0, .ref 67), (1, .int x1)]) (st2 := [.int x1, .ref 73]) (I2 := m.I) (J2 := m.J) (fun hT v kk => ?_) ?_
      · refine sh_jc (c := .ne) (off := (105)) (pc2 := 45) false rfl (sh_Bnef c) rfl ?_
        refine sh_w (i := (.aload_n 0)) (len := 1) (pc2 := 46) (lv2 := [(2, .int ((m.I 66 73) - 1)), (0, .ref 67), (1, .int x1)]) (st2 := [.ref 67]) (h2 := (sh_rep m.T m.I m.J)) rfl rfl rfl ?_
        refine sh_gR1 (len := 3) (x := .ref 73) (pc2 := 49) rfl rfl (sh_s66 hT.st) rfl rfl ?_
        refine sh_w (i := (.iload_n 1)) (len := 1) (pc2 := 50) (lv2 := [(2, .int ((m.I 66 73) - 1)), (0, .ref 67), (1, .int x1)]) (st2 := [.int x1, .ref 73]) (h2 := (sh_rep m.T m.I m.J)) rfl rfl rfl ?_
        exact kk
      obtain ⟨c, e⟩ := sh_gd e
      refine sh_Lk_lift (T := m.T) (I := m.I) (J := m.J) (s := m.s) (pc2 := 53) (lv2 := [(2, .int ((m.I 66 73) - 1)), (0, .ref 67), (1, .int x1)]) (st2 := [.int 8, .int (m.I 72 (Int32.toNatClampNeg x1))]) (I2 := m.I) (J2 := m.J) (fun hT v kk => ?_) ?_
      · refine sh_ia1 (x := m.I 72 (Int32.toNatClampNeg x1)) (pc2 := 51) rfl (sh_s72 hT.st) (sh_okb1 c) (sh_okb2 c) rfl rfl ?_
        refine sh_w (i := (.bipush 8)) (len := 2) (pc2 := 53) (lv2 := [(2, .int ((m.I 66 73) - 1)), (0, .ref 67), (1, .int x1)]) (st2 := [.int 8, .int (m.I 72 (Int32.toNatClampNeg x1))]) (h2 := (sh_rep m.T m.I m.J)) rfl rfl rfl ?_
        exact kk
      rcases sh_ite e with ⟨c, e⟩ | ⟨c, e⟩
      · refine sh_Lk_lift (T := m.T) (I := m.I) (J := m.J) (s := m.s) (pc2 := 61) (lv2 := [(2, .int ((m.I 66 73) - 1)), (0, .ref 67), (1, .int x1)]) (st2 := [.int 3, .int (m.I 66 43)]) (I2 := m.I) (J2 := m.J) (fun hT v kk => ?_) ?_
        · refine sh_jc (c := .ne) (off := (35)) (pc2 := 56) false rfl (sh_Bnef c) rfl ?_
          refine sh_w (i := (.aload_n 0)) (len := 1) (pc2 := 57) (lv2 := [(2, .int ((m.I 66 73) - 1)), (0, .ref 67), (1, .int x1)]) (st2 := [.ref 67]) (h2 := (sh_rep m.T m.I m.J)) rfl rfl rfl ?_
          refine sh_gI1 (len := 3) (x := m.I 66 43) (pc2 := 60) rfl rfl (sh_s66 hT.st) rfl rfl rfl ?_
          refine sh_w (i := (.iconst 3)) (len := 1) (pc2 := 61) (lv2 := [(2, .int ((m.I 66 73) - 1)), (0, .ref 67), (1, .int x1)]) (st2 := [.int 3, .int (m.I 66 43)]) (h2 := (sh_rep m.T m.I m.J)) rfl rfl rfl ?_
          exact kk
        rcases sh_ite e with ⟨c, e⟩ | ⟨c, e⟩
        · refine sh_Lk_lift (T := m.T) (I := m.I) (J := m.J) (s := m.s) (pc2 := 71) (lv2 := [(2, .int ((m.I 66 73) - 1)), (0, .ref 67), (1, .int x1)]) (st2 := []) (I2 := m.I) (J2 := m.J) (fun hT v kk => ?_) ?_
          · refine sh_jc (c := .eq) (off := (10)) (pc2 := 71) true rfl (sh_Beqt c) rfl ?_
            exact kk
          exact sh_Lk_sub (sh_sub_c rfl (sh_sub_c rfl (sh_sub_n))) (sl_302_71 e tg)
        · refine sh_Lk_lift (T := m.T) (I := m.I) (J := m.J) (s := m.s) (pc2 := 68) (lv2 := [(2, .int ((m.I 66 73) - 1)), (0, .ref 67), (1, .int x1)]) (st2 := [.int (m.I 66 45)]) (I2 := m.I) (J2 := m.J) (fun hT v kk => ?_) ?_
          · refine sh_jc (c := .eq) (off := (10)) (pc2 := 64) false rfl (sh_Beqf c) rfl ?_
            refine sh_w (i := (.aload_n 0)) (len := 1) (pc2 := 65) (lv2 := [(2, .int ((m.I 66 73) - 1)), (0, .ref 67), (1, .int x1)]) (st2 := [.ref 67]) (h2 := (sh_rep m.T m.I m.J)) rfl rfl rfl ?_
            refine sh_gI1 (len := 3) (x := m.I 66 45) (pc2 := 68) rfl rfl (sh_s66 hT.st) rfl rfl rfl ?_
            exact kk
          rcases sh_ite e with ⟨c, e⟩ | ⟨c, e⟩
          · refine sh_Lk_lift (T := m.T) (I := m.I) (J := m.J) (s := m.s) (pc2 := 71) (lv2 := [(2, .int ((m.I 66 73) - 1)), (0, .ref 67), (1, .int x1)]) (st2 := []) (I2 := m.I) (J2 := m.J) (fun hT v kk => ?_) ?_
            · refine sh_j0 (c := .ne) (off := (20)) (pc2 := 71) false rfl (sh_Bnef c) rfl ?_
              exact kk
            exact sh_Lk_sub (sh_sub_c rfl (sh_sub_c rfl (sh_sub_n))) (sl_302_71 e tg)
          · refine sh_Lk_lift (T := m.T) (I := m.I) (J := m.J) (s := m.s) (pc2 := 88) (lv2 := [(2, .int ((m.I 66 73) - 1)), (0, .ref 67), (1, .int x1)]) (st2 := []) (I2 := m.I) (J2 := m.J) (fun hT v kk => ?_) ?_
            · refine sh_j0 (c := .ne) (off := (20)) (pc2 := 88) true rfl (sh_Bnet c) rfl ?_
              exact kk
            exact sh_Lk_sub (sh_sub_c rfl (sh_sub_c rfl (sh_sub_c rfl (sh_sub_n)))) (sl_302_88 e tg)
      · refine sh_Lk_lift (T := m.T) (I := m.I) (J := m.J) (s := m.s) (pc2 := 88) (lv2 := [(2, .int ((m.I 66 73) - 1)), (0, .ref 67), (1, .int x1)]) (st2 := []) (I2 := m.I) (J2 := m.J) (fun hT v kk => ?_) ?_
        · refine sh_jc (c := .ne) (off := (35)) (pc2 := 88) true rfl (sh_Bnet c) rfl ?_
          exact kk
        exact sh_Lk_sub (sh_sub_c rfl (sh_sub_c rfl (sh_sub_c rfl (sh_sub_n)))) (sl_302_88 e tg)
    · refine sh_Lk_lift (T := m.T) (I := m.I) (J := m.J) (s := m.s) (pc2 := 162) (lv2 := [(2, .int ((m.I 66 73) - 1)), (0, .ref 67), (1, .int x1)]) (st2 := [.int x1, .ref 73]) (I2 := sh_u2 m.I 66 73 ((m.I 66 73) - 1)) (J2 := m.J) (fun hT v kk => ?_) ?_
      · refine sh_jc (c := .ne) (off := (105)) (pc2 := 147) true rfl (sh_Bnet c) rfl ?_
        refine sh_w (i := (.aload_n 0)) (len := 1) (pc2 := 148) (lv2 := [(2, .int ((m.I 66 73) - 1)), (0, .ref 67), (1, .int x1)]) (st2 := [.ref 67]) (h2 := (sh_rep m.T m.I m.J)) rfl rfl rfl ?_
        refine sh_w (i := .dup) (len := 1) (pc2 := 149) (lv2 := [(2, .int ((m.I 66 73) - 1)), (0, .ref 67), (1, .int x1)]) (st2 := [.ref 67, .ref 67]) (h2 := (sh_rep m.T m.I m.J)) rfl rfl rfl ?_
        refine sh_gI1 (len := 3) (x := m.I 66 73) (pc2 := 152) rfl rfl (sh_s66 hT.st) rfl rfl rfl ?_
        refine sh_w (i := (.iconst 1)) (len := 1) (pc2 := 153) (lv2 := [(2, .int ((m.I 66 73) - 1)), (0, .ref 67), (1, .int x1)]) (st2 := [.int 1, .int (m.I 66 73), .ref 67]) (h2 := (sh_rep m.T m.I m.J)) rfl rfl rfl ?_
        refine sh_w (i := .isub) (len := 1) (pc2 := 154) (lv2 := [(2, .int ((m.I 66 73) - 1)), (0, .ref 67), (1, .int x1)]) (st2 := [.int ((m.I 66 73) - 1), .ref 67]) (h2 := (sh_rep m.T m.I m.J)) rfl rfl rfl ?_
        refine sh_pI1 (x := (m.I 66 73) - 1) (pc2 := 157) rfl rfl (sh_s66 hT.st) rfl rfl rfl rfl ?_
        refine sh_w (i := (.aload_n 0)) (len := 1) (pc2 := 158) (lv2 := [(2, .int ((m.I 66 73) - 1)), (0, .ref 67), (1, .int x1)]) (st2 := [.ref 67]) (h2 := (sh_rep m.T (sh_u2 m.I 66 73 ((m.I 66 73) - 1)) m.J)) rfl rfl rfl ?_
        refine sh_gR1 (len := 3) (x := .ref 73) (pc2 := 161) rfl rfl (sh_s66 hT.st) rfl rfl ?_
        refine sh_w (i := (.iload_n 1)) (len := 1) (pc2 := 162) (lv2 := [(2, .int ((m.I 66 73) - 1)), (0, .ref 67), (1, .int x1)]) (st2 := [.int x1, .ref 73]) (h2 := (sh_rep m.T (sh_u2 m.I 66 73 ((m.I 66 73) - 1)) m.J)) rfl rfl rfl ?_
        exact kk
      obtain ⟨c, e⟩ := sh_gd e
      refine sh_Lk_lift (T := m.T) (I := sh_u2 m.I 66 73 ((m.I 66 73) - 1)) (J := m.J) (s := m.s) (pc2 := 165) (lv2 := [(2, .int ((m.I 66 73) - 1)), (0, .ref 67), (1, .int x1)]) (st2 := [.int 10, .int (m.I 72 (Int32.toNatClampNeg x1))]) (I2 := sh_u2 m.I 66 73 ((m.I 66 73) - 1)) (J2 := m.J) (fun hT v kk => ?_) ?_
      · refine sh_ia1 (x := m.I 72 (Int32.toNatClampNeg x1)) (pc2 := 163) rfl (sh_s72 hT.st) (sh_okb1 c) (sh_okb2 c) rfl rfl ?_
        refine sh_w (i := (.bipush 10)) (len := 2) (pc2 := 165) (lv2 := [(2, .int ((m.I 66 73) - 1)), (0, .ref 67), (1, .int x1)]) (st2 := [.int 10, .int (m.I 72 (Int32.toNatClampNeg x1))]) (h2 := (sh_rep m.T (sh_u2 m.I 66 73 ((m.I 66 73) - 1)) m.J)) rfl rfl rfl ?_
        exact kk
      rcases sh_ite e with ⟨c, e⟩ | ⟨c, e⟩
      · refine sh_Lk_lift (T := m.T) (I := sh_u2 m.I 66 73 ((m.I 66 73) - 1)) (J := m.J) (s := m.s) (pc2 := 175) (lv2 := [(2, .int ((m.I 66 73) - 1)), (0, .ref 67), (1, .int x1)]) (st2 := [.int ((m.I 66 73) - 1), .ref 108, .int x1, .ref 67]) (I2 := sh_u2 m.I 66 73 ((m.I 66 73) - 1)) (J2 := m.J) (fun hT v kk => ?_) ?_
        · refine sh_jc (c := .ne) (off := (35)) (pc2 := 168) false rfl (sh_Bnef c) rfl ?_
          refine sh_w (i := (.aload_n 0)) (len := 1) (pc2 := 169) (lv2 := [(2, .int ((m.I 66 73) - 1)), (0, .ref 67), (1, .int x1)]) (st2 := [.ref 67]) (h2 := (sh_rep m.T (sh_u2 m.I 66 73 ((m.I 66 73) - 1)) m.J)) rfl rfl rfl ?_
          refine sh_w (i := (.iload_n 1)) (len := 1) (pc2 := 170) (lv2 := [(2, .int ((m.I 66 73) - 1)), (0, .ref 67), (1, .int x1)]) (st2 := [.int x1, .ref 67]) (h2 := (sh_rep m.T (sh_u2 m.I 66 73 ((m.I 66 73) - 1)) m.J)) rfl rfl rfl ?_
          refine sh_w (i := (.aload_n 0)) (len := 1) (pc2 := 171) (lv2 := [(2, .int ((m.I 66 73) - 1)), (0, .ref 67), (1, .int x1)]) (st2 := [.ref 67, .int x1, .ref 67]) (h2 := (sh_rep m.T (sh_u2 m.I 66 73 ((m.I 66 73) - 1)) m.J)) rfl rfl rfl ?_
          refine sh_gR1 (len := 3) (x := .ref 108) (pc2 := 174) rfl rfl (sh_s66 hT.st) rfl rfl ?_
          refine sh_w (i := (.iload_n 2)) (len := 1) (pc2 := 175) (lv2 := [(2, .int ((m.I 66 73) - 1)), (0, .ref 67), (1, .int x1)]) (st2 := [.int ((m.I 66 73) - 1), .ref 108, .int x1, .ref 67]) (h2 := (sh_rep m.T (sh_u2 m.I 66 73 ((m.I 66 73) - 1)) m.J)) rfl rfl rfl ?_
          exact kk
        obtain ⟨c, e⟩ := sh_gd e
        refine sh_Lk_lift (T := m.T) (I := sh_u2 m.I 66 73 ((m.I 66 73) - 1)) (J := m.J) (s := m.s) (pc2 := 181) (lv2 := [(2, .int ((m.I 66 73) - 1)), (0, .ref 67), (1, .int x1)]) (st2 := [.int ((m.I 66 73) - 1), .ref 109, .int (m.I 107 (Int32.toNatClampNeg ((m.I 66 73) - 1))), .int x1, .ref 67]) (I2 := sh_u2 m.I 66 73 ((m.I 66 73) - 1)) (J2 := m.J) (fun hT v kk => ?_) ?_
        · refine sh_ia1 (x := m.I 107 (Int32.toNatClampNeg ((m.I 66 73) - 1))) (pc2 := 176) rfl (sh_s107 hT.st) (sh_okb1 c) (sh_okb2 c) rfl rfl ?_
          refine sh_w (i := (.aload_n 0)) (len := 1) (pc2 := 177) (lv2 := [(2, .int ((m.I 66 73) - 1)), (0, .ref 67), (1, .int x1)]) (st2 := [.ref 67, .int (m.I 107 (Int32.toNatClampNeg ((m.I 66 73) - 1))), .int x1, .ref 67]) (h2 := (sh_rep m.T (sh_u2 m.I 66 73 ((m.I 66 73) - 1)) m.J)) rfl rfl rfl ?_
          refine sh_gR1 (len := 3) (x := .ref 109) (pc2 := 180) rfl rfl (sh_s66 hT.st) rfl rfl ?_
          refine sh_w (i := (.iload_n 2)) (len := 1) (pc2 := 181) (lv2 := [(2, .int ((m.I 66 73) - 1)), (0, .ref 67), (1, .int x1)]) (st2 := [.int ((m.I 66 73) - 1), .ref 109, .int (m.I 107 (Int32.toNatClampNeg ((m.I 66 73) - 1))), .int x1, .ref 67]) (h2 := (sh_rep m.T (sh_u2 m.I 66 73 ((m.I 66 73) - 1)) m.J)) rfl rfl rfl ?_
          exact kk
        obtain ⟨c, e⟩ := sh_gd e
        refine sh_Lk_lift (T := m.T) (I := sh_u2 m.I 66 73 ((m.I 66 73) - 1)) (J := m.J) (s := m.s) (pc2 := 187) (lv2 := [(2, .int ((m.I 66 73) - 1)), (0, .ref 67), (1, .int x1)]) (st2 := [.int ((m.I 66 73) - 1), .ref 110, .int (m.I 108 (Int32.toNatClampNeg ((m.I 66 73) - 1))), .int (m.I 107 (Int32.toNatClampNeg ((m.I 66 73) - 1))), .int x1, .ref 67]) (I2 := sh_u2 m.I 66 73 ((m.I 66 73) - 1)) (J2 := m.J) (fun hT v kk => ?_) ?_
        · refine sh_ia1 (x := m.I 108 (Int32.toNatClampNeg ((m.I 66 73) - 1))) (pc2 := 182) rfl (sh_s108 hT.st) (sh_okb1 c) (sh_okb2 c) rfl rfl ?_
          refine sh_w (i := (.aload_n 0)) (len := 1) (pc2 := 183) (lv2 := [(2, .int ((m.I 66 73) - 1)), (0, .ref 67), (1, .int x1)]) (st2 := [.ref 67, .int (m.I 108 (Int32.toNatClampNeg ((m.I 66 73) - 1))), .int (m.I 107 (Int32.toNatClampNeg ((m.I 66 73) - 1))), .int x1, .ref 67]) (h2 := (sh_rep m.T (sh_u2 m.I 66 73 ((m.I 66 73) - 1)) m.J)) rfl rfl rfl ?_
          refine sh_gR1 (len := 3) (x := .ref 110) (pc2 := 186) rfl rfl (sh_s66 hT.st) rfl rfl ?_
          refine sh_w (i := (.iload_n 2)) (len := 1) (pc2 := 187) (lv2 := [(2, .int ((m.I 66 73) - 1)), (0, .ref 67), (1, .int x1)]) (st2 := [.int ((m.I 66 73) - 1), .ref 110, .int (m.I 108 (Int32.toNatClampNeg ((m.I 66 73) - 1))), .int (m.I 107 (Int32.toNatClampNeg ((m.I 66 73) - 1))), .int x1, .ref 67]) (h2 := (sh_rep m.T (sh_u2 m.I 66 73 ((m.I 66 73) - 1)) m.J)) rfl rfl rfl ?_
          exact kk
        obtain ⟨c, e⟩ := sh_gd e
        refine sh_Lk_lift (T := m.T) (I := sh_u2 m.I 66 73 ((m.I 66 73) - 1)) (J := m.J) (s := m.s) (pc2 := 193) (lv2 := [(2, .int ((m.I 66 73) - 1)), (0, .ref 67), (1, .int x1)]) (st2 := [.int ((m.I 66 73) - 1), .ref 112, .int (m.I 109 (Int32.toNatClampNeg ((m.I 66 73) - 1))), .int (m.I 108 (Int32.toNatClampNeg ((m.I 66 73) - 1))), .int (m.I 107 (Int32.toNatClampNeg ((m.I 66 73) - 1))), .int x1, .ref 67]) (I2 := sh_u2 m.I 66 73 ((m.I 66 73) - 1)) (J2 := m.J) (fun hT v kk => ?_) ?_
        · refine sh_ia1 (x := m.I 109 (Int32.toNatClampNeg ((m.I 66 73) - 1))) (pc2 := 188) rfl (sh_s109 hT.st) (sh_okb1 c) (sh_okb2 c) rfl rfl ?_
          refine sh_w (i := (.aload_n 0)) (len := 1) (pc2 := 189) (lv2 := [(2, .int ((m.I 66 73) - 1)), (0, .ref 67), (1, .int x1)]) (st2 := [.ref 67, .int (m.I 109 (Int32.toNatClampNeg ((m.I 66 73) - 1))), .int (m.I 108 (Int32.toNatClampNeg ((m.I 66 73) - 1))), .int (m.I 107 (Int32.toNatClampNeg ((m.I 66 73) - 1))), .int x1, .ref 67]) (h2 := (sh_rep m.T (sh_u2 m.I 66 73 ((m.I 66 73) - 1)) m.J)) rfl rfl rfl ?_
          refine sh_gR1 (len := 3) (x := .ref 112) (pc2 := 192) rfl rfl (sh_s66 hT.st) rfl rfl ?_
          refine sh_w (i := (.iload_n 2)) (len := 1) (pc2 := 193) (lv2 := [(2, .int ((m.I 66 73) - 1)), (0, .ref 67), (1, .int x1)]) (st2 := [.int ((m.I 66 73) - 1), .ref 112, .int (m.I 109 (Int32.toNatClampNeg ((m.I 66 73) - 1))), .int (m.I 108 (Int32.toNatClampNeg ((m.I 66 73) - 1))), .int (m.I 107 (Int32.toNatClampNeg ((m.I 66 73) - 1))), .int x1, .ref 67]) (h2 := (sh_rep m.T (sh_u2 m.I 66 73 ((m.I 66 73) - 1)) m.J)) rfl rfl rfl ?_
          exact kk
        obtain ⟨c, e⟩ := sh_gd e
        refine sh_Lk_lift (T := m.T) (I := sh_u2 m.I 66 73 ((m.I 66 73) - 1)) (J := m.J) (s := m.s) (pc2 := 194) (lv2 := [(2, .int ((m.I 66 73) - 1)), (0, .ref 67), (1, .int x1)]) (st2 := [.long (m.J 111 (Int32.toNatClampNeg ((m.I 66 73) - 1))), .int (m.I 109 (Int32.toNatClampNeg ((m.I 66 73) - 1))), .int (m.I 108 (Int32.toNatClampNeg ((m.I 66 73) - 1))), .int (m.I 107 (Int32.toNatClampNeg ((m.I 66 73) - 1))), .int x1, .ref 67]) (I2 := sh_u2 m.I 66 73 ((m.I 66 73) - 1)) (J2 := m.J) (fun hT v kk => ?_) ?_
        · refine sh_la1 (x := m.J 111 (Int32.toNatClampNeg ((m.I 66 73) - 1))) (pc2 := 194) rfl (sh_s111 hT.st) (sh_okb1 c) (sh_okb2 c) rfl rfl ?_
          exact kk
        obtain ⟨r2, m12, e2, e⟩ := sh_bn_e e
        refine sh_Lk_cV (r := (some (.int (sh_b2 r2)))) (st2 := [.int (sh_b2 r2)]) (pc2 := 197) (k2 := 303) (a := 66) (as := [.ref 67, .int x1, .int (m.I 107 (Int32.toNatClampNeg ((m.I 66 73) - 1))), .int (m.I 108 (Int32.toNatClampNeg ((m.I 66 73) - 1))), .int (m.I 109 (Int32.toNatClampNeg ((m.I 66 73) - 1))), .long (m.J 111 (Int32.toNatClampNeg ((m.I 66 73) - 1)))]) (rest := []) rfl rfl rfl (fun hT => (sh_s66 hT.st)) rfl rfl ⟨Nat.le_of_ble_eq_true rfl, Nat.le_of_ble_eq_true rfl⟩ (sl_303 e2 ⟨rfl, rfl⟩) rfl rfl (Nat.le_of_ble_eq_true rfl) (Nat.le_of_ble_eq_true rfl) ?_
        refine sh_Lk_lift (T := m12.T) (I := m12.I) (J := m12.J) (s := m12.s) (pc2 := 230) (lv2 := [(2, .int ((m.I 66 73) - 1)), (0, .ref 67), (1, .int x1)]) (st2 := [.int (sh_b2 r2)]) (I2 := m12.I) (J2 := m12.J) (fun hT v kk => ?_) ?_
        · refine sh_w (i := (.goto 33)) (len := 3) (pc2 := 230) (lv2 := [(2, .int ((m.I 66 73) - 1)), (0, .ref 67), (1, .int x1)]) (st2 := [.int (sh_b2 r2)]) (h2 := (sh_rep m12.T m12.I m12.J)) rfl rfl rfl ?_
          exact kk
        obtain rfl := Option.some.inj e
        obtain ⟨rfl, rfl⟩ := tg
        exact sh_Lk_ret (i := .ireturn) rfl rfl (sh_rb rfl _) (Nat.le_of_ble_eq_true rfl) (Nat.le_of_ble_eq_true rfl)
      · refine sh_Lk_lift (T := m.T) (I := sh_u2 m.I 66 73 ((m.I 66 73) - 1)) (J := m.J) (s := m.s) (pc2 := 207) (lv2 := [(2, .int ((m.I 66 73) - 1)), (0, .ref 67), (1, .int x1)]) (st2 := [.int ((m.I 66 73) - 1), .ref 108, .int x1, .ref 67]) (I2 := sh_u2 m.I 66 73 ((m.I 66 73) - 1)) (J2 := m.J) (fun hT v kk => ?_) ?_
        · refine sh_jc (c := .ne) (off := (35)) (pc2 := 200) true rfl (sh_Bnet c) rfl ?_
          refine sh_w (i := (.aload_n 0)) (len := 1) (pc2 := 201) (lv2 := [(2, .int ((m.I 66 73) - 1)), (0, .ref 67), (1, .int x1)]) (st2 := [.ref 67]) (h2 := (sh_rep m.T (sh_u2 m.I 66 73 ((m.I 66 73) - 1)) m.J)) rfl rfl rfl ?_
          refine sh_w (i := (.iload_n 1)) (len := 1) (pc2 := 202) (lv2 := [(2, .int ((m.I 66 73) - 1)), (0, .ref 67), (1, .int x1)]) (st2 := [.int x1, .ref 67]) (h2 := (sh_rep m.T (sh_u2 m.I 66 73 ((m.I 66 73) - 1)) m.J)) rfl rfl rfl ?_
          refine sh_w (i := (.aload_n 0)) (len := 1) (pc2 := 203) (lv2 := [(2, .int ((m.I 66 73) - 1)), (0, .ref 67), (1, .int x1)]) (st2 := [.ref 67, .int x1, .ref 67]) (h2 := (sh_rep m.T (sh_u2 m.I 66 73 ((m.I 66 73) - 1)) m.J)) rfl rfl rfl ?_
          refine sh_gR1 (len := 3) (x := .ref 108) (pc2 := 206) rfl rfl (sh_s66 hT.st) rfl rfl ?_
          refine sh_w (i := (.iload_n 2)) (len := 1) (pc2 := 207) (lv2 := [(2, .int ((m.I 66 73) - 1)), (0, .ref 67), (1, .int x1)]) (st2 := [.int ((m.I 66 73) - 1), .ref 108, .int x1, .ref 67]) (h2 := (sh_rep m.T (sh_u2 m.I 66 73 ((m.I 66 73) - 1)) m.J)) rfl rfl rfl ?_
          exact kk
        obtain ⟨c, e⟩ := sh_gd e
        refine sh_Lk_lift (T := m.T) (I := sh_u2 m.I 66 73 ((m.I 66 73) - 1)) (J := m.J) (s := m.s) (pc2 := 213) (lv2 := [(2, .int ((m.I 66 73) - 1)), (0, .ref 67), (1, .int x1)]) (st2 := [.int ((m.I 66 73) - 1), .ref 109, .int (m.I 107 (Int32.toNatClampNeg ((m.I 66 73) - 1))), .int x1, .ref 67]) (I2 := sh_u2 m.I 66 73 ((m.I 66 73) - 1)) (J2 := m.J) (fun hT v kk => ?_) ?_
        · refine sh_ia1 (x := m.I 107 (Int32.toNatClampNeg ((m.I 66 73) - 1))) (pc2 := 208) rfl (sh_s107 hT.st) (sh_okb1 c) (sh_okb2 c) rfl rfl ?_
          refine sh_w (i := (.aload_n 0)) (len := 1) (pc2 := 209) (lv2 := [(2, .int ((m.I 66 73) - 1)), (0, .ref 67), (1, .int x1)]) (st2 := [.ref 67, .int (m.I 107 (Int32.toNatClampNeg ((m.I 66 73) - 1))), .int x1, .ref 67]) (h2 := (sh_rep m.T (sh_u2 m.I 66 73 ((m.I 66 73) - 1)) m.J)) rfl rfl rfl ?_
          refine sh_gR1 (len := 3) (x := .ref 109) (pc2 := 212) rfl rfl (sh_s66 hT.st) rfl rfl ?_
          refine sh_w (i := (.iload_n 2)) (len := 1) (pc2 := 213) (lv2 := [(2, .int ((m.I 66 73) - 1)), (0, .ref 67), (1, .int x1)]) (st2 := [.int ((m.I 66 73) - 1), .ref 109, .int (m.I 107 (Int32.toNatClampNeg ((m.I 66 73) - 1))), .int x1, .ref 67]) (h2 := (sh_rep m.T (sh_u2 m.I 66 73 ((m.I 66 73) - 1)) m.J)) rfl rfl rfl ?_
          exact kk
        obtain ⟨c, e⟩ := sh_gd e
        refine sh_Lk_lift (T := m.T) (I := sh_u2 m.I 66 73 ((m.I 66 73) - 1)) (J := m.J) (s := m.s) (pc2 := 219) (lv2 := [(2, .int ((m.I 66 73) - 1)), (0, .ref 67), (1, .int x1)]) (st2 := [.int ((m.I 66 73) - 1), .ref 110, .int (m.I 108 (Int32.toNatClampNeg ((m.I 66 73) - 1))), .int (m.I 107 (Int32.toNatClampNeg ((m.I 66 73) - 1))), .int x1, .ref 67]) (I2 := sh_u2 m.I 66 73 ((m.I 66 73) - 1)) (J2 := m.J) (fun hT v kk => ?_) ?_
        · refine sh_ia1 (x := m.I 108 (Int32.toNatClampNeg ((m.I 66 73) - 1))) (pc2 := 214) rfl (sh_s108 hT.st) (sh_okb1 c) (sh_okb2 c) rfl rfl ?_
          refine sh_w (i := (.aload_n 0)) (len := 1) (pc2 := 215) (lv2 := [(2, .int ((m.I 66 73) - 1)), (0, .ref 67), (1, .int x1)]) (st2 := [.ref 67, .int (m.I 108 (Int32.toNatClampNeg ((m.I 66 73) - 1))), .int (m.I 107 (Int32.toNatClampNeg ((m.I 66 73) - 1))), .int x1, .ref 67]) (h2 := (sh_rep m.T (sh_u2 m.I 66 73 ((m.I 66 73) - 1)) m.J)) rfl rfl rfl ?_
          refine sh_gR1 (len := 3) (x := .ref 110) (pc2 := 218) rfl rfl (sh_s66 hT.st) rfl rfl ?_
          refine sh_w (i := (.iload_n 2)) (len := 1) (pc2 := 219) (lv2 := [(2, .int ((m.I 66 73) - 1)), (0, .ref 67), (1, .int x1)]) (st2 := [.int ((m.I 66 73) - 1), .ref 110, .int (m.I 108 (Int32.toNatClampNeg ((m.I 66 73) - 1))), .int (m.I 107 (Int32.toNatClampNeg ((m.I 66 73) - 1))), .int x1, .ref 67]) (h2 := (sh_rep m.T (sh_u2 m.I 66 73 ((m.I 66 73) - 1)) m.J)) rfl rfl rfl ?_
          exact kk
        obtain ⟨c, e⟩ := sh_gd e
        refine sh_Lk_lift (T := m.T) (I := sh_u2 m.I 66 73 ((m.I 66 73) - 1)) (J := m.J) (s := m.s) (pc2 := 225) (lv2 := [(2, .int ((m.I 66 73) - 1)), (0, .ref 67), (1, .int x1)]) (st2 := [.int ((m.I 66 73) - 1), .ref 112, .int (m.I 109 (Int32.toNatClampNeg ((m.I 66 73) - 1))), .int (m.I 108 (Int32.toNatClampNeg ((m.I 66 73) - 1))), .int (m.I 107 (Int32.toNatClampNeg ((m.I 66 73) - 1))), .int x1, .ref 67]) (I2 := sh_u2 m.I 66 73 ((m.I 66 73) - 1)) (J2 := m.J) (fun hT v kk => ?_) ?_
        · refine sh_ia1 (x := m.I 109 (Int32.toNatClampNeg ((m.I 66 73) - 1))) (pc2 := 220) rfl (sh_s109 hT.st) (sh_okb1 c) (sh_okb2 c) rfl rfl ?_
          refine sh_w (i := (.aload_n 0)) (len := 1) (pc2 := 221) (lv2 := [(2, .int ((m.I 66 73) - 1)), (0, .ref 67), (1, .int x1)]) (st2 := [.ref 67, .int (m.I 109 (Int32.toNatClampNeg ((m.I 66 73) - 1))), .int (m.I 108 (Int32.toNatClampNeg ((m.I 66 73) - 1))), .int (m.I 107 (Int32.toNatClampNeg ((m.I 66 73) - 1))), .int x1, .ref 67]) (h2 := (sh_rep m.T (sh_u2 m.I 66 73 ((m.I 66 73) - 1)) m.J)) rfl rfl rfl ?_
          refine sh_gR1 (len := 3) (x := .ref 112) (pc2 := 224) rfl rfl (sh_s66 hT.st) rfl rfl ?_
          refine sh_w (i := (.iload_n 2)) (len := 1) (pc2 := 225) (lv2 := [(2, .int ((m.I 66 73) - 1)), (0, .ref 67), (1, .int x1)]) (st2 := [.int ((m.I 66 73) - 1), .ref 112, .int (m.I 109 (Int32.toNatClampNeg ((m.I 66 73) - 1))), .int (m.I 108 (Int32.toNatClampNeg ((m.I 66 73) - 1))), .int (m.I 107 (Int32.toNatClampNeg ((m.I 66 73) - 1))), .int x1, .ref 67]) (h2 := (sh_rep m.T (sh_u2 m.I 66 73 ((m.I 66 73) - 1)) m.J)) rfl rfl rfl ?_
          exact kk
        obtain ⟨c, e⟩ := sh_gd e
        refine sh_Lk_lift (T := m.T) (I := sh_u2 m.I 66 73 ((m.I 66 73) - 1)) (J := m.J) (s := m.s) (pc2 := 227) (lv2 := [(2, .int ((m.I 66 73) - 1)), (0, .ref 67), (1, .int x1)]) (st2 := [.int (Int64.toInt32 (m.J 111 (Int32.toNatClampNeg ((m.I 66 73) - 1)))), .int (m.I 109 (Int32.toNatClampNeg ((m.I 66 73) - 1))), .int (m.I 108 (Int32.toNatClampNeg ((m.I 66 73) - 1))), .int (m.I 107 (Int32.toNatClampNeg ((m.I 66 73) - 1))), .int x1, .ref 67]) (I2 := sh_u2 m.I 66 73 ((m.I 66 73) - 1)) (J2 := m.J) (fun hT v kk => ?_) ?_
        · refine sh_la1 (x := m.J 111 (Int32.toNatClampNeg ((m.I 66 73) - 1))) (pc2 := 226) rfl (sh_s111 hT.st) (sh_okb1 c) (sh_okb2 c) rfl rfl ?_
          refine sh_w (i := .l2i) (len := 1) (pc2 := 227) (lv2 := [(2, .int ((m.I 66 73) - 1)), (0, .ref 67), (1, .int x1)]) (st2 := [.int (Int64.toInt32 (m.J 111 (Int32.toNatClampNeg ((m.I 66 73) - 1)))), .int (m.I 109 (Int32.toNatClampNeg ((m.I 66 73) - 1))), .int (m.I 108 (Int32.toNatClampNeg ((m.I 66 73) - 1))), .int (m.I 107 (Int32.toNatClampNeg ((m.I 66 73) - 1))), .int x1, .ref 67]) (h2 := (sh_rep m.T (sh_u2 m.I 66 73 ((m.I 66 73) - 1)) m.J)) rfl rfl rfl ?_
          exact kk
        obtain ⟨r3, m13, e3, e⟩ := sh_bn_e e
        refine sh_Lk_cV (r := (some (.int (sh_b2 r3)))) (st2 := [.int (sh_b2 r3)]) (pc2 := 230) (k2 := 309) (a := 66) (as := [.ref 67, .int x1, .int (m.I 107 (Int32.toNatClampNeg ((m.I 66 73) - 1))), .int (m.I 108 (Int32.toNatClampNeg ((m.I 66 73) - 1))), .int (m.I 109 (Int32.toNatClampNeg ((m.I 66 73) - 1))), .int (Int64.toInt32 (m.J 111 (Int32.toNatClampNeg ((m.I 66 73) - 1))))]) (rest := []) rfl rfl rfl (fun hT => (sh_s66 hT.st)) rfl rfl ⟨Nat.le_of_ble_eq_true rfl, Nat.le_of_ble_eq_true rfl⟩ (sl_309 e3 ⟨rfl, rfl⟩) rfl rfl (Nat.le_of_ble_eq_true rfl) (Nat.le_of_ble_eq_true rfl) ?_
        obtain rfl := Option.some.inj e
        obtain ⟨rfl, rfl⟩ := tg
        exact sh_Lk_ret (i := .ireturn) rfl rfl (sh_rb rfl _) (Nat.le_of_ble_eq_true rfl) (Nat.le_of_ble_eq_true rfl)
theorem sl_312_30 {x1 : Int32} {x2 : Int32} {x3 : Int32} {x4 : Int32} {m m2 : sh_X} {o : Outcome} {z : ((Int32 × Int32 × sh_X) ⊕ (Bool × sh_X))} (e : sf_312_30 x1 x2 x3 x4 m = some z) (tg : (sh_el (fun q => sh_Lk 312 10 [(0, .ref 67), (1, .int x1), (2, .int x2), (3, .int q.1), (4, .int q.2.1)] [] q.2.2 o m2 11 268) (sh_tZ o m2)) z) : sh_Lk 312 30 [(0, .ref 67), (1, .int x1), (2, .int x2), (3, .int x3), (4, .int x4)] [] m o m2 11 268 := by
  unfold sf_312_30 at e
  refine sh_Lk_lift (T := m.T) (I := m.I) (J := m.J) (s := m.s) (pc2 := 10) (lv2 := [(4, .int (x4 + (-1))), (0, .ref 67), (1, .int x1), (2, .int x2), (3, .int x3)]) (st2 := []) (I2 := m.I) (J2 := m.J) (fun hT v kk => ?_) ?_
  · refine sh_w (i := (.iinc 4 (-1))) (len := 3) (pc2 := 33) (lv2 := [(4, .int (x4 + (-1))), (0, .ref 67), (1, .int x1), (2, .int x2), (3, .int x3)]) (st2 := []) (h2 := (sh_rep m.T m.I m.J)) rfl rfl rfl ?_
    refine sh_w (i := (.goto (-23))) (len := 3) (pc2 := 10) (lv2 := [(4, .int (x4 + (-1))), (0, .ref 67), (1, .int x1), (2, .int x2), (3, .int x3)]) (st2 := []) (h2 := (sh_rep m.T m.I m.J)) rfl rfl rfl ?_
    exact kk
  obtain rfl := Option.some.inj e
  exact sh_Lk_sub (sh_sub_c rfl (sh_sub_c rfl (sh_sub_c rfl (sh_sub_c rfl (sh_sub_c rfl (sh_sub_n)))))) tg
theorem sl_312_162 {x1 : Int32} {x2 : Int32} {x4 : Int32} {x5 : Int32} {x6 : Int32} {x7 : Int32} {m m2 : sh_X} {o : Outcome} {z : ((Int32 × sh_X) ⊕ (Bool × sh_X))} (e : sf_312_162 x1 x2 x4 x5 x6 x7 m = some z) (tg : (sh_el (fun q => sh_Lk 312 88 [(0, .ref 67), (1, .int x1), (2, .int x2), (4, .int x4), (5, .int x5), (6, .int x6), (7, .int q.1)] [] q.2 o m2 11 268) (sh_tZ o m2)) z) : sh_Lk 312 162 [(0, .ref 67), (1, .int x1), (2, .int x2), (4, .int x4), (5, .int x5), (6, .int x6), (7, .int x7)] [] m o m2 11 268 := by
  unfold sf_312_162 at e
  refine sh_Lk_lift (T := m.T) (I := m.I) (J := m.J) (s := m.s) (pc2 := 88) (lv2 := [(7, .int (x7 + 1)), (0, .ref 67), (1, .int x1), (2, .int x2), (4, .int x4), (5, .int x5), (6, .int x6)]) (st2 := []) (I2 := m.I) (J2 := m.J) (fun hT v kk => ?_) ?_
  · refine sh_w (i := (.iinc 7 1)) (len := 3) (pc2 := 165) (lv2 := [(7, .int (x7 + 1)), (0, .ref 67), (1, .int x1), (2, .int x2), (4, .int x4), (5, .int x5), (6, .int x6)]) (st2 := []) (h2 := (sh_rep m.T m.I m.J)) rfl rfl rfl ?_
    refine sh_w (i := (.goto (-77))) (len := 3) (pc2 := 88) (lv2 := [(7, .int (x7 + 1)), (0, .ref 67), (1, .int x1), (2, .int x2), (4, .int x4), (5, .int x5), (6, .int x6)]) (st2 := []) (h2 := (sh_rep m.T m.I m.J)) rfl rfl rfl ?_
    exact kk
  obtain rfl := Option.some.inj e
  exact sh_Lk_sub (sh_sub_c rfl (sh_sub_c rfl (sh_sub_c rfl (sh_sub_c rfl (sh_sub_c rfl (sh_sub_c rfl (sh_sub_c rfl (sh_sub_n)))))))) tg
theorem sl_312_214 {x1 : Int32} {m m2 : sh_X} {o : Outcome} {z : (Bool × sh_X)} (e : sf_312_214 x1 m = some z) (tg : (sh_tZ o m2) z) : sh_Lk 312 214 [(0, .ref 67), (1, .int x1)] [] m o m2 11 268 := by
  unfold sf_312_214 at e
  refine sh_Lk_lift (T := m.T) (I := m.I) (J := m.J) (s := m.s) (pc2 := 225) (lv2 := [(0, .ref 67), (1, .int x1)]) (st2 := [.int x1, .ref 74, .ref 70, .int 4, .ref 67]) (I2 := m.I) (J2 := m.J) (fun hT v kk => ?_) ?_
  · refine sh_w (i := (.aload_n 0)) (len := 1) (pc2 := 215) (lv2 := [(0, .ref 67), (1, .int x1)]) (st2 := [.ref 67]) (h2 := (sh_rep m.T m.I m.J)) rfl rfl rfl ?_
    refine sh_w (i := (.iconst 4)) (len := 1) (pc2 := 216) (lv2 := [(0, .ref 67), (1, .int x1)]) (st2 := [.int 4, .ref 67]) (h2 := (sh_rep m.T m.I m.J)) rfl rfl rfl ?_
    refine sh_w (i := (.aload_n 0)) (len := 1) (pc2 := 217) (lv2 := [(0, .ref 67), (1, .int x1)]) (st2 := [.ref 67, .int 4, .ref 67]) (h2 := (sh_rep m.T m.I m.J)) rfl rfl rfl ?_
    refine sh_gR1 (len := 3) (x := .ref 70) (pc2 := 220) rfl rfl (sh_s66 hT.st) rfl rfl ?_
    refine sh_w (i := (.aload_n 0)) (len := 1) (pc2 := 221) (lv2 := [(0, .ref 67), (1, .int x1)]) (st2 := [.ref 67, .ref 70, .int 4, .ref 67]) (h2 := (sh_rep m.T m.I m.J)) rfl rfl rfl ?_
    refine sh_gR1 (len := 3) (x := .ref 74) (pc2 := 224) rfl rfl (sh_s66 hT.st) rfl rfl ?_
    refine sh_w (i := (.iload_n 1)) (len := 1) (pc2 := 225) (lv2 := [(0, .ref 67), (1, .int x1)]) (st2 := [.int x1, .ref 74, .ref 70, .int 4, .ref 67]) (h2 := (sh_rep m.T m.I m.J)) rfl rfl rfl ?_
    exact kk
  obtain ⟨c, e⟩ := sh_gd e
  refine sh_Lk_lift (T := m.T) (I := m.I) (J := m.J) (s := m.s) (pc2 := 226) (lv2 := [(0, .ref 67), (1, .int x1)]) (st2 := [.int (m.I 73 (Int32.toNatClampNeg x1)), .ref 70, .int 4, .ref 67]) (I2 := m.I) (J2 := m.J) (fun hT v kk => ?_) ?_
  · refine sh_ia1 (x := m.I 73 (Int32.toNatClampNeg x1)) (pc2 := 226) rfl (sh_s73 hT.st) (sh_okb1 c) (sh_okb2 c) rfl rfl ?_
    exact kk
  obtain ⟨c, e⟩ := sh_gd e
  refine sh_Lk_lift (T := m.T) (I := m.I) (J := m.J) (s := m.s) (pc2 := 227) (lv2 := [(0, .ref 67), (1, .int x1)]) (st2 := [.int (m.I 69 (Int32.toNatClampNeg (m.I 73 (Int32.toNatClampNeg x1)))), .int 4, .ref 67]) (I2 := m.I) (J2 := m.J) (fun hT v kk => ?_) ?_
  · refine sh_ia1 (x := m.I 69 (Int32.toNatClampNeg (m.I 73 (Int32.toNatClampNeg x1)))) (pc2 := 227) rfl (sh_s69 hT.st) (sh_okb1 c) (sh_okb2 c) rfl rfl ?_
    exact kk
  obtain ⟨r1, m11, e1, e⟩ := sh_bn_e e
  refine sh_Lk_cV (r := (some (.int (sh_b2 r1)))) (st2 := [.int (sh_b2 r1)]) (pc2 := 230) (k2 := 252) (a := 66) (as := [.ref 67, .int 4, .int (m.I 69 (Int32.toNatClampNeg (m.I 73 (Int32.toNatClampNeg x1))))]) (rest := []) rfl rfl rfl (fun hT => (sh_s66 hT.st)) rfl rfl ⟨Nat.le_of_ble_eq_true rfl, Nat.le_of_ble_eq_true rfl⟩ (sl_252 e1 ⟨rfl, rfl⟩) rfl rfl (Nat.le_of_ble_eq_true rfl) (Nat.le_of_ble_eq_true rfl) ?_
  obtain rfl := Option.some.inj e
  obtain ⟨rfl, rfl⟩ := tg
  exact sh_Lk_ret (i := .ireturn) rfl rfl (sh_rb rfl _) (Nat.le_of_ble_eq_true rfl) (Nat.le_of_ble_eq_true rfl)
theorem sl_312_299s {x1 : Int32} {x2 : Int32} {x5 : Int32} {x7 : Int32} {x8 : Int32} {m m2 : sh_X} {o : Outcome} {z : ((Int32 × sh_X) ⊕ (Bool × sh_X))} (e : sf_312_299s x1 x2 x5 x7 x8 m = some z) (tg : (sh_el (fun q => sh_Lk 312 299 [(0, .ref 67), (1, .int x1), (2, .int x2), (5, .int x5), (7, .int x7), (8, .int q.1)] [] q.2 o m2 11 268) (sh_tZ o m2)) z) : sh_Lk 312 299 [(0, .ref 67), (1, .int x1), (2, .int x2), (5, .int x5), (7, .int x7), (8, .int x8)] [] m o m2 11 268 := by
  unfold sf_312_299s at e
  refine sh_Lk_lift (T := m.T) (I := m.I) (J := m.J) (s := m.s) (pc2 := 303) (lv2 := [(0, .ref 67), (1, .int x1), (2, .int x2), (5, .int x5), (7, .int x7), (8, .int x8)]) (st2 := [.int x7, .int x8]) (I2 := m.I) (J2 := m.J) (fun hT v kk => ?_) ?_
  · refine sh_w (i := (.iload 8)) (len := 2) (pc2 := 301) (lv2 := [(0, .ref 67), (1, .int x1), (2, .int x2), (5, .int x5), (7, .int x7), (8, .int x8)]) (st2 := [.int x8]) (h2 := (sh_rep m.T m.I m.J)) rfl rfl rfl ?_
    refine sh_w (i := (.iload 7)) (len := 2) (pc2 := 303) (lv2 := [(0, .ref 67), (1, .int x1), (2, .int x2), (5, .int x5), (7, .int x7), (8, .int x8)]) (st2 := [.int x7, .int x8]) (h2 := (sh_rep m.T m.I m.J)) rfl rfl rfl ?_
    exact kk
  rcases sh_ite e with ⟨c, e⟩ | ⟨c, e⟩
  · refine sh_Lk_lift (T := m.T) (I := m.I) (J := m.J) (s := m.s) (pc2 := 325) (lv2 := [(0, .ref 67), (1, .int x1), (2, .int x2), (5, .int x5), (7, .int x7), (8, .int x8)]) (st2 := [.int (x2 + x8), .ref 116, .int ((m.I 66 41) + x8), .ref 93]) (I2 := m.I) (J2 := m.J) (fun hT v kk => ?_) ?_
    · refine sh_jc (c := .ge) (off := (30)) (pc2 := 306) false rfl (sh_Bgef c) rfl ?_
      refine sh_w (i := (.aload_n 0)) (len := 1) (pc2 := 307) (lv2 := [(0, .ref 67), (1, .int x1), (2, .int x2), (5, .int x5), (7, .int x7), (8, .int x8)]) (st2 := [.ref 67]) (h2 := (sh_rep m.T m.I m.J)) rfl rfl rfl ?_
      refine sh_gR1 (len := 3) (x := .ref 93) (pc2 := 310) rfl rfl (sh_s66 hT.st) rfl rfl ?_
      refine sh_w (i := (.aload_n 0)) (len := 1) (pc2 := 311) (lv2 := [(0, .ref 67), (1, .int x1), (2, .int x2), (5, .int x5), (7, .int x7), (8, .int x8)]) (st2 := [.ref 67, .ref 93]) (h2 := (sh_rep m.T m.I m.J)) rfl rfl rfl ?_
      refine sh_gI1 (len := 3) (x := m.I 66 41) (pc2 := 314) rfl rfl (sh_s66 hT.st) rfl rfl rfl ?_
      refine sh_w (i := (.iload 8)) (len := 2) (pc2 := 316) (lv2 := [(0, .ref 67), (1, .int x1), (2, .int x2), (5, .int x5), (7, .int x7), (8, .int x8)]) (st2 := [.int x8, .int (m.I 66 41), .ref 93]) (h2 := (sh_rep m.T m.I m.J)) rfl rfl rfl ?_
      refine sh_w (i := .iadd) (len := 1) (pc2 := 317) (lv2 := [(0, .ref 67), (1, .int x1), (2, .int x2), (5, .int x5), (7, .int x7), (8, .int x8)]) (st2 := [.int ((m.I 66 41) + x8), .ref 93]) (h2 := (sh_rep m.T m.I m.J)) rfl rfl rfl ?_
      refine sh_w (i := (.aload_n 0)) (len := 1) (pc2 := 318) (lv2 := [(0, .ref 67), (1, .int x1), (2, .int x2), (5, .int x5), (7, .int x7), (8, .int x8)]) (st2 := [.ref 67, .int ((m.I 66 41) + x8), .ref 93]) (h2 := (sh_rep m.T m.I m.J)) rfl rfl rfl ?_
      refine sh_gR1 (len := 3) (x := .ref 116) (pc2 := 321) rfl rfl (sh_s66 hT.st) rfl rfl ?_
      refine sh_w (i := (.iload_n 2)) (len := 1) (pc2 := 322) (lv2 := [(0, .ref 67), (1, .int x1), (2, .int x2), (5, .int x5), (7, .int x7), (8, .int x8)]) (st2 := [.int x2, .ref 116, .int ((m.I 66 41) + x8), .ref 93]) (h2 := (sh_rep m.T m.I m.J)) rfl rfl rfl ?_
      refine sh_w (i := (.iload 8)) (len := 2) (pc2 := 324) (lv2 := [(0, .ref 67), (1, .int x1), (2, .int x2), (5, .int x5), (7, .int x7), (8, .int x8)]) (st2 := [.int x8, .int x2, .ref 116, .int ((m.I 66 41) + x8), .ref 93]) (h2 := (sh_rep m.T m.I m.J)) rfl rfl rfl ?_
      refine sh_w (i := .iadd) (len := 1) (pc2 := 325) (lv2 := [(0, .ref 67), (1, .int x1), (2, .int x2), (5, .int x5), (7, .int x7), (8, .int x8)]) (st2 := [.int (x2 + x8), .ref 116, .int ((m.I 66 41) + x8), .ref 93]) (h2 := (sh_rep m.T m.I m.J)) rfl rfl rfl ?_
      exact kk
    obtain ⟨c, e⟩ := sh_gd e
    refine sh_Lk_lift (T := m.T) (I := m.I) (J := m.J) (s := m.s) (pc2 := 326) (lv2 := [(0, .ref 67), (1, .int x1), (2, .int x2), (5, .int x5), (7, .int x7), (8, .int x8)]) (st2 := [.long (m.J 115 (Int32.toNatClampNeg (x2 + x8))), .int ((m.I 66 41) + x8), .ref 93]) (I2 := m.I) (J2 := m.J) (fun hT v kk => ?_) ?_
    · refine sh_la1 (x := m.J 115 (Int32.toNatClampNeg (x2 + x8))) (pc2 := 326) rfl (sh_s115 hT.st) (sh_okb1 c) (sh_okb2 c) rfl rfl ?_
      exact kk
    obtain ⟨c, e⟩ := sh_gd e
    refine sh_Lk_lift (T := m.T) (I := m.I) (J := m.J) (s := m.s) (pc2 := 299) (lv2 := [(8, .int (x8 + 1)), (0, .ref 67), (1, .int x1), (2, .int x2), (5, .int x5), (7, .int x7)]) (st2 := []) (I2 := m.I) (J2 := sh_u2 m.J 92 (Int32.toNatClampNeg ((m.I 66 41) + x8)) (m.J 115 (Int32.toNatClampNeg (x2 + x8)))) (fun hT v kk => ?_) ?_
    · refine sh_ls1 (x := m.J 115 (Int32.toNatClampNeg (x2 + x8))) (i := (m.I 66 41) + x8) (pc2 := 327) rfl (sh_s92 hT.st) (sh_okb1 c) (sh_okb2 c) rfl ?_
      refine sh_w (i := (.iinc 8 1)) (len := 3) (pc2 := 330) (lv2 := [(8, .int (x8 + 1)), (0, .ref 67), (1, .int x1), (2, .int x2), (5, .int x5), (7, .int x7)]) (st2 := []) (h2 := (sh_rep m.T m.I (sh_u2 m.J 92 (Int32.toNatClampNeg ((m.I 66 41) + x8)) (m.J 115 (Int32.toNatClampNeg (x2 + x8)))))) rfl rfl rfl ?_
      refine sh_w (i := (.goto (-31))) (len := 3) (pc2 := 299) (lv2 := [(8, .int (x8 + 1)), (0, .ref 67), (1, .int x1), (2, .int x2), (5, .int x5), (7, .int x7)]) (st2 := []) (h2 := (sh_rep m.T m.I (sh_u2 m.J 92 (Int32.toNatClampNeg ((m.I 66 41) + x8)) (m.J 115 (Int32.toNatClampNeg (x2 + x8)))))) rfl rfl rfl ?_
      exact kk
    obtain rfl := Option.some.inj e
    exact sh_Lk_sub (sh_sub_c rfl (sh_sub_c rfl (sh_sub_c rfl (sh_sub_c rfl (sh_sub_c rfl (sh_sub_c rfl (sh_sub_n))))))) tg
  · refine sh_Lk_lift (T := m.T) (I := m.I) (J := m.J) (s := m.s) (pc2 := 360) (lv2 := [(0, .ref 67), (1, .int x1), (2, .int x2), (5, .int x5), (7, .int x7), (8, .int x8)]) (st2 := [.int x1, .ref 74, .int (x7 * x5), .ref 67]) (I2 := sh_u2 (sh_u2 m.I 66 41 ((m.I 66 41) + x7)) 66 79 x2) (J2 := m.J) (fun hT v kk => ?_) ?_
    · refine sh_jc (c := .ge) (off := (30)) (pc2 := 333) true rfl (sh_Bget c) rfl ?_
      refine sh_w (i := (.aload_n 0)) (len := 1) (pc2 := 334) (lv2 := [(0, .ref 67), (1, .int x1), (2, .int x2), (5, .int x5), (7, .int x7), (8, .int x8)]) (st2 := [.ref 67]) (h2 := (sh_rep m.T m.I m.J)) rfl rfl rfl ?_
      refine sh_w (i := .dup) (len := 1) (pc2 := 335) (lv2 := [(0, .ref 67), (1, .int x1), (2, .int x2), (5, .int x5), (7, .int x7), (8, .int x8)]) (st2 := [.ref 67, .ref 67]) (h2 := (sh_rep m.T m.I m.J)) rfl rfl rfl ?_
      refine sh_gI1 (len := 3) (x := m.I 66 41) (pc2 := 338) rfl rfl (sh_s66 hT.st) rfl rfl rfl ?_
      refine sh_w (i := (.iload 7)) (len := 2) (pc2 := 340) (lv2 := [(0, .ref 67), (1, .int x1), (2, .int x2), (5, .int x5), (7, .int x7), (8, .int x8)]) (st2 := [.int x7, .int (m.I 66 41), .ref 67]) (h2 := (sh_rep m.T m.I m.J)) rfl rfl rfl ?_
      refine sh_w (i := .iadd) (len := 1) (pc2 := 341) (lv2 := [(0, .ref 67), (1, .int x1), (2, .int x2), (5, .int x5), (7, .int x7), (8, .int x8)]) (st2 := [.int ((m.I 66 41) + x7), .ref 67]) (h2 := (sh_rep m.T m.I m.J)) rfl rfl rfl ?_
      refine sh_pI1 (x := (m.I 66 41) + x7) (pc2 := 344) rfl rfl (sh_s66 hT.st) rfl rfl rfl rfl ?_
      refine sh_w (i := (.aload_n 0)) (len := 1) (pc2 := 345) (lv2 := [(0, .ref 67), (1, .int x1), (2, .int x2), (5, .int x5), (7, .int x7), (8, .int x8)]) (st2 := [.ref 67]) (h2 := (sh_rep m.T (sh_u2 m.I 66 41 ((m.I 66 41) + x7)) m.J)) rfl rfl rfl ?_
      refine sh_w (i := (.iload_n 2)) (len := 1) (pc2 := 346) (lv2 := [(0, .ref 67), (1, .int x1), (2, .int x2), (5, .int x5), (7, .int x7), (8, .int x8)]) (st2 := [.int x2, .ref 67]) (h2 := (sh_rep m.T (sh_u2 m.I 66 41 ((m.I 66 41) + x7)) m.J)) rfl rfl rfl ?_
      refine sh_pI1 (x := x2) (pc2 := 349) rfl rfl (sh_s66 hT.st) rfl rfl rfl rfl ?_
      refine sh_w (i := (.aload_n 0)) (len := 1) (pc2 := 350) (lv2 := [(0, .ref 67), (1, .int x1), (2, .int x2), (5, .int x5), (7, .int x7), (8, .int x8)]) (st2 := [.ref 67]) (h2 := (sh_rep m.T (sh_u2 (sh_u2 m.I 66 41 ((m.I 66 41) + x7)) 66 79 x2) m.J)) rfl rfl rfl ?_
      refine sh_w (i := (.iload 7)) (len := 2) (pc2 := 352) (lv2 := [(0, .ref 67), (1, .int x1), (2, .int x2), (5, .int x5), (7, .int x7), (8, .int x8)]) (st2 := [.int x7, .ref 67]) (h2 := (sh_rep m.T (sh_u2 (sh_u2 m.I 66 41 ((m.I 66 41) + x7)) 66 79 x2) m.J)) rfl rfl rfl ?_
      refine sh_w (i := (.iload 5)) (len := 2) (pc2 := 354) (lv2 := [(0, .ref 67), (1, .int x1), (2, .int x2), (5, .int x5), (7, .int x7), (8, .int x8)]) (st2 := [.int x5, .int x7, .ref 67]) (h2 := (sh_rep m.T (sh_u2 (sh_u2 m.I 66 41 ((m.I 66 41) + x7)) 66 79 x2) m.J)) rfl rfl rfl ?_
      refine sh_w (i := .imul) (len := 1) (pc2 := 355) (lv2 := [(0, .ref 67), (1, .int x1), (2, .int x2), (5, .int x5), (7, .int x7), (8, .int x8)]) (st2 := [.int (x7 * x5), .ref 67]) (h2 := (sh_rep m.T (sh_u2 (sh_u2 m.I 66 41 ((m.I 66 41) + x7)) 66 79 x2) m.J)) rfl rfl rfl ?_
      refine sh_w (i := (.aload_n 0)) (len := 1) (pc2 := 356) (lv2 := [(0, .ref 67), (1, .int x1), (2, .int x2), (5, .int x5), (7, .int x7), (8, .int x8)]) (st2 := [.ref 67, .int (x7 * x5), .ref 67]) (h2 := (sh_rep m.T (sh_u2 (sh_u2 m.I 66 41 ((m.I 66 41) + x7)) 66 79 x2) m.J)) rfl rfl rfl ?_
      refine sh_gR1 (len := 3) (x := .ref 74) (pc2 := 359) rfl rfl (sh_s66 hT.st) rfl rfl ?_
      refine sh_w (i := (.iload_n 1)) (len := 1) (pc2 := 360) (lv2 := [(0, .ref 67), (1, .int x1), (2, .int x2), (5, .int x5), (7, .int x7), (8, .int x8)]) (st2 := [.int x1, .ref 74, .int (x7 * x5), .ref 67]) (h2 := (sh_rep m.T (sh_u2 (sh_u2 m.I 66 41 ((m.I 66 41) + x7)) 66 79 x2) m.J)) rfl rfl rfl ?_
      exact kk
    obtain ⟨c, e⟩ := sh_gd e
    refine sh_Lk_lift (T := m.T) (I := sh_u2 (sh_u2 m.I 66 41 ((m.I 66 41) + x7)) 66 79 x2) (J := m.J) (s := m.s) (pc2 := 361) (lv2 := [(0, .ref 67), (1, .int x1), (2, .int x2), (5, .int x5), (7, .int x7), (8, .int x8)]) (st2 := [.int (m.I 73 (Int32.toNatClampNeg x1)), .int (x7 * x5), .ref 67]) (I2 := sh_u2 (sh_u2 m.I 66 41 ((m.I 66 41) + x7)) 66 79 x2) (J2 := m.J) (fun hT v kk => ?_) ?_
    · refine sh_ia1 (x := m.I 73 (Int32.toNatClampNeg x1)) (pc2 := 361) rfl (sh_s73 hT.st) (sh_okb1 c) (sh_okb2 c) rfl rfl ?_
      exact kk
    obtain ⟨r1, m11, e1, e⟩ := sh_bn_e e
    refine sh_Lk_cV (r := (some (.int (sh_b2 r1)))) (st2 := [.int (sh_b2 r1)]) (pc2 := 364) (k2 := 292) (a := 66) (as := [.ref 67, .int (x7 * x5), .int (m.I 73 (Int32.toNatClampNeg x1))]) (rest := []) rfl rfl rfl (fun hT => (sh_s66 hT.st)) rfl rfl ⟨Nat.le_of_ble_eq_true rfl, Nat.le_of_ble_eq_true rfl⟩ (sl_292 e1 ⟨rfl, rfl⟩) rfl rfl (Nat.le_of_ble_eq_true rfl) (Nat.le_of_ble_eq_true rfl) ?_
    obtain rfl := Option.some.inj e
    obtain ⟨rfl, rfl⟩ := tg
    exact sh_Lk_ret (i := .ireturn) rfl rfl (sh_rb rfl _) (Nat.le_of_ble_eq_true rfl) (Nat.le_of_ble_eq_true rfl)
theorem sl_312_299 {x1 : Int32} {x2 : Int32} {x5 : Int32} {x7 : Int32} {x8 : Int32} {m m2 : sh_X} {o : Outcome} {z : (Bool × sh_X)} (e : sf_312_299 x1 x2 x5 x7 x8 m = some z) (tg : (sh_tZ o m2) z) : sh_Lk 312 299 [(0, .ref 67), (1, .int x1), (2, .int x2), (5, .int x5), (7, .int x7), (8, .int x8)] [] m o m2 11 268 := by
  unfold sf_312_299 at e
  exact sh_while_lk (P := fun q => sh_Lk 312 299 [(0, .ref 67), (1, .int x1), (2, .int x2), (5, .int x5), (7, .int x7), (8, .int q.1)] [] q.2 o m2 11 268) (Q := (sh_tZ o m2)) (fun q z e tg => sl_312_299s (x1 := x1) (x2 := x2) (x5 := x5) (x7 := x7) (x8 := q.1) (m := q.2) e tg) (s := (x8, m)) e tg
theorem sl_312_171s {x1 : Int32} {x2 : Int32} {x4 : Int32} {x5 : Int32} {x7 : Int32} {m m2 : sh_X} {o : Outcome} {z : ((Int32 × sh_X) ⊕ (Bool × sh_X))} (e : sf_312_171s x1 x2 x4 x5 x7 m = some z) (tg : (sh_el (fun q => sh_Lk 312 171 [(0, .ref 67), (1, .int x1), (2, .int x2), (4, .int x4), (5, .int x5), (7, .int q.1)] [] q.2 o m2 11 268) (sh_tZ o m2)) z) : sh_Lk 312 171 [(0, .ref 67), (1, .int x1), (2, .int x2), (4, .int x4), (5, .int x5), (7, .int x7)] [] m o m2 11 268 := by
  unfold sf_312_171s at e
  refine sh_Lk_lift (T := m.T) (I := m.I) (J := m.J) (s := m.s) (pc2 := 177) (lv2 := [(0, .ref 67), (1, .int x1), (2, .int x2), (4, .int x4), (5, .int x5), (7, .int x7)]) (st2 := [.int (m.I 66 79), .int x7]) (I2 := m.I) (J2 := m.J) (fun hT v kk => ?_) ?_
  · refine sh_w (i := (.iload 7)) (len := 2) (pc2 := 173) (lv2 := [(0, .ref 67), (1, .int x1), (2, .int x2), (4, .int x4), (5, .int x5), (7, .int x7)]) (st2 := [.int x7]) (h2 := (sh_rep m.T m.I m.J)) rfl rfl rfl ?_
    refine sh_w (i := (.aload_n 0)) (len := 1) (pc2 := 174) (lv2 := [(0, .ref 67), (1, .int x1), (2, .int x2), (4, .int x4), (5, .int x5), (7, .int x7)]) (st2 := [.ref 67, .int x7]) (h2 := (sh_rep m.T m.I m.J)) rfl rfl rfl ?_
    refine sh_gI1 (len := 3) (x := m.I 66 79) (pc2 := 177) rfl rfl (sh_s66 hT.st) rfl rfl rfl ?_
    exact kk
  rcases sh_ite e with ⟨c, e⟩ | ⟨c, e⟩
  · refine sh_Lk_lift (T := m.T) (I := m.I) (J := m.J) (s := m.s) (pc2 := 186) (lv2 := [(0, .ref 67), (1, .int x1), (2, .int x2), (4, .int x4), (5, .int x5), (7, .int x7)]) (st2 := [.int x7, .ref 115]) (I2 := m.I) (J2 := m.J) (fun hT v kk => ?_) ?_
    · refine sh_jc (c := .ge) (off := (60)) (pc2 := 180) false rfl (sh_Bgef c) rfl ?_
      refine sh_w (i := (.aload_n 0)) (len := 1) (pc2 := 181) (lv2 := [(0, .ref 67), (1, .int x1), (2, .int x2), (4, .int x4), (5, .int x5), (7, .int x7)]) (st2 := [.ref 67]) (h2 := (sh_rep m.T m.I m.J)) rfl rfl rfl ?_
      refine sh_gR1 (len := 3) (x := .ref 115) (pc2 := 184) rfl rfl (sh_s66 hT.st) rfl rfl ?_
      refine sh_w (i := (.iload 7)) (len := 2) (pc2 := 186) (lv2 := [(0, .ref 67), (1, .int x1), (2, .int x2), (4, .int x4), (5, .int x5), (7, .int x7)]) (st2 := [.int x7, .ref 115]) (h2 := (sh_rep m.T m.I m.J)) rfl rfl rfl ?_
      exact kk
    obtain ⟨c, e⟩ := sh_gd e
    refine sh_Lk_lift (T := m.T) (I := m.I) (J := m.J) (s := m.s) (pc2 := 187) (lv2 := [(0, .ref 67), (1, .int x1), (2, .int x2), (4, .int x4), (5, .int x5), (7, .int x7)]) (st2 := [.int (m.I 114 (Int32.toNatClampNeg x7))]) (I2 := m.I) (J2 := m.J) (fun hT v kk => ?_) ?_
    · refine sh_ia1 (x := m.I 114 (Int32.toNatClampNeg x7)) (pc2 := 187) rfl (sh_s114 hT.st) (sh_okb1 c) (sh_okb2 c) rfl rfl ?_
      exact kk
    rcases sh_ite e with ⟨c, e⟩ | ⟨c, e⟩
    · refine sh_Lk_lift (T := m.T) (I := m.I) (J := m.J) (s := m.s) (pc2 := 214) (lv2 := [(0, .ref 67), (1, .int x1), (2, .int x2), (4, .int x4), (5, .int x5), (7, .int x7)]) (st2 := []) (I2 := m.I) (J2 := m.J) (fun hT v kk => ?_) ?_
      · refine sh_j0 (c := .gt) (off := (27)) (pc2 := 214) true rfl (sh_Bgtt c) rfl ?_
        exact kk
      obtain ⟨_, eu, rfl⟩ := sh_up_e e
      exact sh_Lk_sub (sh_sub_c rfl (sh_sub_c rfl (sh_sub_n))) (sl_312_214 eu tg)
    · refine sh_Lk_lift (T := m.T) (I := m.I) (J := m.J) (s := m.s) (pc2 := 196) (lv2 := [(0, .ref 67), (1, .int x1), (2, .int x2), (4, .int x4), (5, .int x5), (7, .int x7)]) (st2 := [.int x7, .ref 113]) (I2 := m.I) (J2 := m.J) (fun hT v kk => ?_) ?_
      · refine sh_j0 (c := .gt) (off := (27)) (pc2 := 190) false rfl (sh_Bgtf c) rfl ?_
        refine sh_w (i := (.aload_n 0)) (len := 1) (pc2 := 191) (lv2 := [(0, .ref 67), (1, .int x1), (2, .int x2), (4, .int x4), (5, .int x5), (7, .int x7)]) (st2 := [.ref 67]) (h2 := (sh_rep m.T m.I m.J)) rfl rfl rfl ?_
        refine sh_gR1 (len := 3) (x := .ref 113) (pc2 := 194) rfl rfl (sh_s66 hT.st) rfl rfl ?_
        refine sh_w (i := (.iload 7)) (len := 2) (pc2 := 196) (lv2 := [(0, .ref 67), (1, .int x1), (2, .int x2), (4, .int x4), (5, .int x5), (7, .int x7)]) (st2 := [.int x7, .ref 113]) (h2 := (sh_rep m.T m.I m.J)) rfl rfl rfl ?_
        exact kk
      obtain ⟨c, e⟩ := sh_gd e
      refine sh_Lk_lift (T := m.T) (I := m.I) (J := m.J) (s := m.s) (pc2 := 199) (lv2 := [(0, .ref 67), (1, .int x1), (2, .int x2), (4, .int x4), (5, .int x5), (7, .int x7)]) (st2 := [.int x4, .int (m.I 112 (Int32.toNatClampNeg x7))]) (I2 := m.I) (J2 := m.J) (fun hT v kk => ?_) ?_
      · refine sh_ia1 (x := m.I 112 (Int32.toNatClampNeg x7)) (pc2 := 197) rfl (sh_s112 hT.st) (sh_okb1 c) (sh_okb2 c) rfl rfl ?_
        refine sh_w (i := (.iload 4)) (len := 2) (pc2 := 199) (lv2 := [(0, .ref 67), (1, .int x1), (2, .int x2), (4, .int x4), (5, .int x5), (7, .int x7)]) (st2 := [.int x4, .int (m.I 112 (Int32.toNatClampNeg x7))]) (h2 := (sh_rep m.T m.I m.J)) rfl rfl rfl ?_
        exact kk
      rcases sh_ite e with ⟨c, e⟩ | ⟨c, e⟩
      · refine sh_Lk_lift (T := m.T) (I := m.I) (J := m.J) (s := m.s) (pc2 := 208) (lv2 := [(0, .ref 67), (1, .int x1), (2, .int x2), (4, .int x4), (5, .int x5), (7, .int x7)]) (st2 := [.int x7, .ref 114]) (I2 := m.I) (J2 := m.J) (fun hT v kk => ?_) ?_
        · refine sh_jc (c := .ne) (off := (15)) (pc2 := 202) false rfl (sh_Bnef c) rfl ?_
          refine sh_w (i := (.aload_n 0)) (len := 1) (pc2 := 203) (lv2 := [(0, .ref 67), (1, .int x1), (2, .int x2), (4, .int x4), (5, .int x5), (7, .int x7)]) (st2 := [.ref 67]) (h2 := (sh_rep m.T m.I m.J)) rfl rfl rfl ?_
          refine sh_gR1 (len := 3) (x := .ref 114) (pc2 := 206) rfl rfl (sh_s66 hT.st) rfl rfl ?_
          refine sh_w (i := (.iload 7)) (len := 2) (pc2 := 208) (lv2 := [(0, .ref 67), (1, .int x1), (2, .int x2), (4, .int x4), (5, .int x5), (7, .int x7)]) (st2 := [.int x7, .ref 114]) (h2 := (sh_rep m.T m.I m.J)) rfl rfl rfl ?_
          exact kk
        obtain ⟨c, e⟩ := sh_gd e
        refine sh_Lk_lift (T := m.T) (I := m.I) (J := m.J) (s := m.s) (pc2 := 211) (lv2 := [(0, .ref 67), (1, .int x1), (2, .int x2), (4, .int x4), (5, .int x5), (7, .int x7)]) (st2 := [.int x5, .int (m.I 113 (Int32.toNatClampNeg x7))]) (I2 := m.I) (J2 := m.J) (fun hT v kk => ?_) ?_
        · refine sh_ia1 (x := m.I 113 (Int32.toNatClampNeg x7)) (pc2 := 209) rfl (sh_s113 hT.st) (sh_okb1 c) (sh_okb2 c) rfl rfl ?_
          refine sh_w (i := (.iload 5)) (len := 2) (pc2 := 211) (lv2 := [(0, .ref 67), (1, .int x1), (2, .int x2), (4, .int x4), (5, .int x5), (7, .int x7)]) (st2 := [.int x5, .int (m.I 113 (Int32.toNatClampNeg x7))]) (h2 := (sh_rep m.T m.I m.J)) rfl rfl rfl ?_
          exact kk
        rcases sh_ite e with ⟨c, e⟩ | ⟨c, e⟩
        · refine sh_Lk_lift (T := m.T) (I := m.I) (J := m.J) (s := m.s) (pc2 := 171) (lv2 := [(7, .int (x7 + 1)), (0, .ref 67), (1, .int x1), (2, .int x2), (4, .int x4), (5, .int x5)]) (st2 := []) (I2 := m.I) (J2 := m.J) (fun hT v kk => ?_) ?_
          · refine sh_jc (c := .eq) (off := (20)) (pc2 := 231) true rfl (sh_Beqt c) rfl ?_
            refine sh_w (i := (.iinc 7 1)) (len := 3) (pc2 := 234) (lv2 := [(7, .int (x7 + 1)), (0, .ref 67), (1, .int x1), (2, .int x2), (4, .int x4), (5, .int x5)]) (st2 := []) (h2 := (sh_rep m.T m.I m.J)) rfl rfl rfl ?_
            refine sh_w (i := (.goto (-63))) (len := 3) (pc2 := 171) (lv2 := [(7, .int (x7 + 1)), (0, .ref 67), (1, .int x1), (2, .int x2), (4, .int x4), (5, .int x5)]) (st2 := []) (h2 := (sh_rep m.T m.I m.J)) rfl rfl rfl ?_
            exact kk
          obtain rfl := Option.some.inj e
          exact sh_Lk_sub (sh_sub_c rfl (sh_sub_c rfl (sh_sub_c rfl (sh_sub_c rfl (sh_sub_c rfl (sh_sub_c rfl (sh_sub_n))))))) tg
        · refine sh_Lk_lift (T := m.T) (I := m.I) (J := m.J) (s := m.s) (pc2 := 214) (lv2 := [(0, .ref 67), (1, .int x1), (2, .int x2), (4, .int x4), (5, .int x5), (7, .int x7)]) (st2 := []) (I2 := m.I) (J2 := m.J) (fun hT v kk => ?_) ?_
          · refine sh_jc (c := .eq) (off := (20)) (pc2 := 214) false rfl (sh_Beqf c) rfl ?_
            exact kk
          obtain ⟨_, eu, rfl⟩ := sh_up_e e
          exact sh_Lk_sub (sh_sub_c rfl (sh_sub_c rfl (sh_sub_n))) (sl_312_214 eu tg)
      · refine sh_Lk_lift (T := m.T) (I := m.I) (J := m.J) (s := m.s) (pc2 := 214) (lv2 := [(0, .ref 67), (1, .int x1), (2, .int x2), (4, .int x4), (5, .int x5), (7, .int x7)]) (st2 := []) (I2 := m.I) (J2 := m.J) (fun hT v kk => ?_) ?_
        · refine sh_jc (c := .ne) (off := (15)) (pc2 := 214) true rfl (sh_Bnet c) rfl ?_
          exact kk
        obtain ⟨_, eu, rfl⟩ := sh_up_e e
        exact sh_Lk_sub (sh_sub_c rfl (sh_sub_c rfl (sh_sub_n))) (sl_312_214 eu tg)
  · refine sh_Lk_lift (T := m.T) (I := m.I) (J := m.J) (s := m.s) (pc2 := 249) (lv2 := [(7, .int ((m.I 66 79) - x2)), (0, .ref 67), (1, .int x1), (2, .int x2), (4, .int x4), (5, .int x5)]) (st2 := [.int 32, .int ((m.I 66 79) - x2)]) (I2 := m.I) (J2 := m.J) (fun hT v kk => ?_) ?_
    · refine sh_jc (c := .ge) (off := (60)) (pc2 := 237) true rfl (sh_Bget c) rfl ?_
      refine sh_w (i := (.aload_n 0)) (len := 1) (pc2 := 238) (lv2 := [(0, .ref 67), (1, .int x1), (2, .int x2), (4, .int x4), (5, .int x5), (7, .int x7)]) (st2 := [.ref 67]) (h2 := (sh_rep m.T m.I m.J)) rfl rfl rfl ?_
      refine sh_gI1 (len := 3) (x := m.I 66 79) (pc2 := 241) rfl rfl (sh_s66 hT.st) rfl rfl rfl ?_
      refine sh_w (i := (.iload_n 2)) (len := 1) (pc2 := 242) (lv2 := [(0, .ref 67), (1, .int x1), (2, .int x2), (4, .int x4), (5, .int x5), (7, .int x7)]) (st2 := [.int x2, .int (m.I 66 79)]) (h2 := (sh_rep m.T m.I m.J)) rfl rfl rfl ?_
      refine sh_w (i := .isub) (len := 1) (pc2 := 243) (lv2 := [(0, .ref 67), (1, .int x1), (2, .int x2), (4, .int x4), (5, .int x5), (7, .int x7)]) (st2 := [.int ((m.I 66 79) - x2)]) (h2 := (sh_rep m.T m.I m.J)) rfl rfl rfl ?_
      refine sh_w (i := (.istore 7)) (len := 2) (pc2 := 245) (lv2 := [(7, .int ((m.I 66 79) - x2)), (0, .ref 67), (1, .int x1), (2, .int x2), (4, .int x4), (5, .int x5)]) (st2 := []) (h2 := (sh_rep m.T m.I m.J)) rfl rfl rfl ?_
      refine sh_w (i := (.iload 7)) (len := 2) (pc2 := 247) (lv2 := [(7, .int ((m.I 66 79) - x2)), (0, .ref 67), (1, .int x1), (2, .int x2), (4, .int x4), (5, .int x5)]) (st2 := [.int ((m.I 66 79) - x2)]) (h2 := (sh_rep m.T m.I m.J)) rfl rfl rfl ?_
      refine sh_w (i := (.bipush 32)) (len := 2) (pc2 := 249) (lv2 := [(7, .int ((m.I 66 79) - x2)), (0, .ref 67), (1, .int x1), (2, .int x2), (4, .int x4), (5, .int x5)]) (st2 := [.int 32, .int ((m.I 66 79) - x2)]) (h2 := (sh_rep m.T m.I m.J)) rfl rfl rfl ?_
      exact kk
    rcases sh_ite e with ⟨c, e⟩ | ⟨c, e⟩
    · refine sh_Lk_lift (T := m.T) (I := m.I) (J := m.J) (s := m.s) (pc2 := 263) (lv2 := [(7, .int ((m.I 66 79) - x2)), (0, .ref 67), (1, .int x1), (2, .int x2), (4, .int x4), (5, .int x5)]) (st2 := [.int x1, .ref 74, .ref 70, .int 4, .ref 67]) (I2 := m.I) (J2 := m.J) (fun hT v kk => ?_) ?_
      · refine sh_jc (c := .le) (off := (20)) (pc2 := 252) false rfl (sh_Blef c) rfl ?_
        refine sh_w (i := (.aload_n 0)) (len := 1) (pc2 := 253) (lv2 := [(7, .int ((m.I 66 79) - x2)), (0, .ref 67), (1, .int x1), (2, .int x2), (4, .int x4), (5, .int x5)]) (st2 := [.ref 67]) (h2 := (sh_rep m.T m.I m.J)) rfl rfl rfl ?_
        refine sh_w (i := (.iconst 4)) (len := 1) (pc2 := 254) (lv2 := [(7, .int ((m.I 66 79) - x2)), (0, .ref 67), (1, .int x1), (2, .int x2), (4, .int x4), (5, .int x5)]) (st2 := [.int 4, .ref 67]) (h2 := (sh_rep m.T m.I m.J)) rfl rfl rfl ?_
        refine sh_w (i := (.aload_n 0)) (len := 1) (pc2 := 255) (lv2 := [(7, .int ((m.I 66 79) - x2)), (0, .ref 67), (1, .int x1), (2, .int x2), (4, .int x4), (5, .int x5)]) (st2 := [.ref 67, .int 4, .ref 67]) (h2 := (sh_rep m.T m.I m.J)) rfl rfl rfl ?_
        refine sh_gR1 (len := 3) (x := .ref 70) (pc2 := 258) rfl rfl (sh_s66 hT.st) rfl rfl ?_
        refine sh_w (i := (.aload_n 0)) (len := 1) (pc2 := 259) (lv2 := [(7, .int ((m.I 66 79) - x2)), (0, .ref 67), (1, .int x1), (2, .int x2), (4, .int x4), (5, .int x5)]) (st2 := [.ref 67, .ref 70, .int 4, .ref 67]) (h2 := (sh_rep m.T m.I m.J)) rfl rfl rfl ?_
        refine sh_gR1 (len := 3) (x := .ref 74) (pc2 := 262) rfl rfl (sh_s66 hT.st) rfl rfl ?_
        refine sh_w (i := (.iload_n 1)) (len := 1) (pc2 := 263) (lv2 := [(7, .int ((m.I 66 79) - x2)), (0, .ref 67), (1, .int x1), (2, .int x2), (4, .int x4), (5, .int x5)]) (st2 := [.int x1, .ref 74, .ref 70, .int 4, .ref 67]) (h2 := (sh_rep m.T m.I m.J)) rfl rfl rfl ?_
        exact kk
      obtain ⟨c, e⟩ := sh_gd e
      refine sh_Lk_lift (T := m.T) (I := m.I) (J := m.J) (s := m.s) (pc2 := 264) (lv2 := [(7, .int ((m.I 66 79) - x2)), (0, .ref 67), (1, .int x1), (2, .int x2), (4, .int x4), (5, .int x5)]) (st2 := [.int (m.I 73 (Int32.toNatClampNeg x1)), .ref 70, .int 4, .ref 67]) (I2 := m.I) (J2 := m.J) (fun hT v kk => ?_) ?_
      · refine sh_ia1 (x := m.I 73 (Int32.toNatClampNeg x1)) (pc2 := 264) rfl (sh_s73 hT.st) (sh_okb1 c) (sh_okb2 c) rfl rfl ?_
        exact kk
      obtain ⟨c, e⟩ := sh_gd e
      refine sh_Lk_lift (T := m.T) (I := m.I) (J := m.J) (s := m.s) (pc2 := 265) (lv2 := [(7, .int ((m.I 66 79) - x2)), (0, .ref 67), (1, .int x1), (2, .int x2), (4, .int x4), (5, .int x5)]) (st2 := [.int (m.I 69 (Int32.toNatClampNeg (m.I 73 (Int32.toNatClampNeg x1)))), .int 4, .ref 67]) (I2 := m.I) (J2 := m.J) (fun hT v kk => ?_) ?_
      · refine sh_ia1 (x := m.I 69 (Int32.toNatClampNeg (m.I 73 (Int32.toNatClampNeg x1)))) (pc2 := 265) rfl (sh_s69 hT.st) (sh_okb1 c) (sh_okb2 c) rfl rfl ?_
        exact kk
      obtain ⟨r1, m11, e1, e⟩ := sh_bn_e e
      refine sh_Lk_cV (r := (some (.int (sh_b2 r1)))) (st2 := [.int (sh_b2 r1)]) (pc2 := 268) (k2 := 252) (a := 66) (as := [.ref 67, .int 4, .int (m.I 69 (Int32.toNatClampNeg (m.I 73 (Int32.toNatClampNeg x1))))]) (rest := []) rfl rfl rfl (fun hT => (sh_s66 hT.st)) rfl rfl ⟨Nat.le_of_ble_eq_true rfl, Nat.le_of_ble_eq_true rfl⟩ (sl_252 e1 ⟨rfl, rfl⟩) rfl rfl (Nat.le_of_ble_eq_true rfl) (Nat.le_of_ble_eq_true rfl) ?_
      obtain rfl := Option.some.inj e
      obtain ⟨rfl, rfl⟩ := tg
      exact sh_Lk_ret (i := .ireturn) rfl rfl (sh_rb rfl _) (Nat.le_of_ble_eq_true rfl) (Nat.le_of_ble_eq_true rfl)
    · refine sh_Lk_lift (T := m.T) (I := m.I) (J := m.J) (s := m.s) (pc2 := 299) (lv2 := [(8, .int 0), (7, .int ((m.I 66 79) - x2)), (0, .ref 67), (1, .int x1), (2, .int x2), (4, .int x4), (5, .int x5)]) (st2 := []) (I2 := sh_u2 (sh_u2 (sh_u2 m.I 66 43 x4) 66 44 x5) 66 45 ((m.I 66 79) - x2)) (J2 := sh_u2 m.J 66 46 (Int32.toInt64 (m.I 66 41))) (fun hT v kk => ?_) ?_
      · refine sh_jc (c := .le) (off := (20)) (pc2 := 269) true rfl (sh_Blet c) rfl ?_
        refine sh_w (i := (.aload_n 0)) (len := 1) (pc2 := 270) (lv2 := [(7, .int ((m.I 66 79) - x2)), (0, .ref 67), (1, .int x1), (2, .int x2), (4, .int x4), (5, .int x5)]) (st2 := [.ref 67]) (h2 := (sh_rep m.T m.I m.J)) rfl rfl rfl ?_
        refine sh_w (i := (.iload 4)) (len := 2) (pc2 := 272) (lv2 := [(7, .int ((m.I 66 79) - x2)), (0, .ref 67), (1, .int x1), (2, .int x2), (4, .int x4), (5, .int x5)]) (st2 := [.int x4, .ref 67]) (h2 := (sh_rep m.T m.I m.J)) rfl rfl rfl ?_
        refine sh_pI1 (x := x4) (pc2 := 275) rfl rfl (sh_s66 hT.st) rfl rfl rfl rfl ?_
        refine sh_w (i := (.aload_n 0)) (len := 1) (pc2 := 276) (lv2 := [(7, .int ((m.I 66 79) - x2)), (0, .ref 67), (1, .int x1), (2, .int x2), (4, .int x4), (5, .int x5)]) (st2 := [.ref 67]) (h2 := (sh_rep m.T (sh_u2 m.I 66 43 x4) m.J)) rfl rfl rfl ?_
        refine sh_w (i := (.iload 5)) (len := 2) (pc2 := 278) (lv2 := [(7, .int ((m.I 66 79) - x2)), (0, .ref 67), (1, .int x1), (2, .int x2), (4, .int x4), (5, .int x5)]) (st2 := [.int x5, .ref 67]) (h2 := (sh_rep m.T (sh_u2 m.I 66 43 x4) m.J)) rfl rfl rfl ?_
        refine sh_pI1 (x := x5) (pc2 := 281) rfl rfl (sh_s66 hT.st) rfl rfl rfl rfl ?_
        refine sh_w (i := (.aload_n 0)) (len := 1) (pc2 := 282) (lv2 := [(7, .int ((m.I 66 79) - x2)), (0, .ref 67), (1, .int x1), (2, .int x2), (4, .int x4), (5, .int x5)]) (st2 := [.ref 67]) (h2 := (sh_rep m.T (sh_u2 (sh_u2 m.I 66 43 x4) 66 44 x5) m.J)) rfl rfl rfl ?_
        refine sh_w (i := (.iload 7)) (len := 2) (pc2 := 284) (lv2 := [(7, .int ((m.I 66 79) - x2)), (0, .ref 67), (1, .int x1), (2, .int x2), (4, .int x4), (5, .int x5)]) (st2 := [.int ((m.I 66 79) - x2), .ref 67]) (h2 := (sh_rep m.T (sh_u2 (sh_u2 m.I 66 43 x4) 66 44 x5) m.J)) rfl rfl rfl ?_
        refine sh_pI1 (x := (m.I 66 79) - x2) (pc2 := 287) rfl rfl (sh_s66 hT.st) rfl rfl rfl rfl ?_
        refine sh_w (i := (.aload_n 0)) (len := 1) (pc2 := 288) (lv2 := [(7, .int ((m.I 66 79) - x2)), (0, .ref 67), (1, .int x1), (2, .int x2), (4, .int x4), (5, .int x5)]) (st2 := [.ref 67]) (h2 := (sh_rep m.T (sh_u2 (sh_u2 (sh_u2 m.I 66 43 x4) 66 44 x5) 66 45 ((m.I 66 79) - x2)) m.J)) rfl rfl rfl ?_
        refine sh_w (i := (.aload_n 0)) (len := 1) (pc2 := 289) (lv2 := [(7, .int ((m.I 66 79) - x2)), (0, .ref 67), (1, .int x1), (2, .int x2), (4, .int x4), (5, .int x5)]) (st2 := [.ref 67, .ref 67]) (h2 := (sh_rep m.T (sh_u2 (sh_u2 (sh_u2 m.I 66 43 x4) 66 44 x5) 66 45 ((m.I 66 79) - x2)) m.J)) rfl rfl rfl ?_
        refine sh_gI1 (len := 3) (x := m.I 66 41) (pc2 := 292) rfl rfl (sh_s66 hT.st) rfl rfl rfl ?_
        refine sh_w (i := .i2l) (len := 1) (pc2 := 293) (lv2 := [(7, .int ((m.I 66 79) - x2)), (0, .ref 67), (1, .int x1), (2, .int x2), (4, .int x4), (5, .int x5)]) (st2 := [.long (Int32.toInt64 (m.I 66 41)), .ref 67]) (h2 := (sh_rep m.T (sh_u2 (sh_u2 (sh_u2 m.I 66 43 x4) 66 44 x5) 66 45 ((m.I 66 79) - x2)) m.J)) rfl rfl rfl ?_
        refine sh_pJ1 (x := Int32.toInt64 (m.I 66 41)) (pc2 := 296) rfl rfl (sh_s66 hT.st) rfl rfl rfl rfl ?_
        refine sh_w (i := (.iconst 0)) (len := 1) (pc2 := 297) (lv2 := [(7, .int ((m.I 66 79) - x2)), (0, .ref 67), (1, .int x1), (2, .int x2), (4, .int x4), (5, .int x5)]) (st2 := [.int 0]) (h2 := (sh_rep m.T (sh_u2 (sh_u2 (sh_u2 m.I 66 43 x4) 66 44 x5) 66 45 ((m.I 66 79) - x2)) (sh_u2 m.J 66 46 (Int32.toInt64 (m.I 66 41))))) rfl rfl rfl ?_
        refine sh_w (i := (.istore 8)) (len := 2) (pc2 := 299) (lv2 := [(8, .int 0), (7, .int ((m.I 66 79) - x2)), (0, .ref 67), (1, .int x1), (2, .int x2), (4, .int x4), (5, .int x5)]) (st2 := []) (h2 := (sh_rep m.T (sh_u2 (sh_u2 (sh_u2 m.I 66 43 x4) 66 44 x5) 66 45 ((m.I 66 79) - x2)) (sh_u2 m.J 66 46 (Int32.toInt64 (m.I 66 41))))) rfl rfl rfl ?_
        exact kk
      obtain ⟨_, eu, rfl⟩ := sh_up_e e
      exact sh_Lk_sub (sh_sub_c rfl (sh_sub_c rfl (sh_sub_c rfl (sh_sub_c rfl (sh_sub_c rfl (sh_sub_c rfl (sh_sub_n))))))) (sl_312_299 eu tg)
theorem sl_312_171 {x1 : Int32} {x2 : Int32} {x4 : Int32} {x5 : Int32} {x7 : Int32} {m m2 : sh_X} {o : Outcome} {z : (Bool × sh_X)} (e : sf_312_171 x1 x2 x4 x5 x7 m = some z) (tg : (sh_tZ o m2) z) : sh_Lk 312 171 [(0, .ref 67), (1, .int x1), (2, .int x2), (4, .int x4), (5, .int x5), (7, .int x7)] [] m o m2 11 268 := by
  unfold sf_312_171 at e
  exact sh_while_lk (P := fun q => sh_Lk 312 171 [(0, .ref 67), (1, .int x1), (2, .int x2), (4, .int x4), (5, .int x5), (7, .int q.1)] [] q.2 o m2 11 268) (Q := (sh_tZ o m2)) (fun q z e tg => sl_312_171s (x1 := x1) (x2 := x2) (x4 := x4) (x5 := x5) (x7 := q.1) (m := q.2) e tg) (s := (x7, m)) e tg
theorem sl_312_88s {x1 : Int32} {x2 : Int32} {x4 : Int32} {x5 : Int32} {x6 : Int32} {x7 : Int32} {m m2 : sh_X} {o : Outcome} {z : ((Int32 × sh_X) ⊕ (Bool × sh_X))} (e : sf_312_88s x1 x2 x4 x5 x6 x7 m = some z) (tg : (sh_el (fun q => sh_Lk 312 88 [(0, .ref 67), (1, .int x1), (2, .int x2), (4, .int x4), (5, .int x5), (6, .int x6), (7, .int q.1)] [] q.2 o m2 11 268) (sh_tZ o m2)) z) : sh_Lk 312 88 [(0, .ref 67), (1, .int x1), (2, .int x2), (4, .int x4), (5, .int x5), (6, .int x6), (7, .int x7)] [] m o m2 11 268 := by
  unfold sf_312_88s at e
  refine sh_Lk_lift (T := m.T) (I := m.I) (J := m.J) (s := m.s) (pc2 := 94) (lv2 := [(0, .ref 67), (1, .int x1), (2, .int x2), (4, .int x4), (5, .int x5), (6, .int x6), (7, .int x7)]) (st2 := [.int (m.I 66 79), .int x7]) (I2 := m.I) (J2 := m.J) (fun hT v kk => ?_) ?_
  · refine sh_w (i := (.iload 7)) (len := 2) (pc2 := 90) (lv2 := [(0, .ref 67), (1, .int x1), (2, .int x2), (4, .int x4), (5, .int x5), (6, .int x6), (7, .int x7)]) (st2 := [.int x7]) (h2 := (sh_rep m.T m.I m.J)) rfl rfl rfl ?_
    refine sh_w (i := (.aload_n 0)) (len := 1) (pc2 := 91) (lv2 := [(0, .ref 67), (1, .int x1), (2, .int x2), (4, .int x4), (5, .int x5), (6, .int x6), (7, .int x7)]) (st2 := [.ref 67, .int x7]) (h2 := (sh_rep m.T m.I m.J)) rfl rfl rfl ?_
    refine sh_gI1 (len := 3) (x := m.I 66 79) (pc2 := 94) rfl rfl (sh_s66 hT.st) rfl rfl rfl ?_
    exact kk
  rcases sh_ite e with ⟨c, e⟩ | ⟨c, e⟩
  · refine sh_Lk_lift (T := m.T) (I := m.I) (J := m.J) (s := m.s) (pc2 := 103) (lv2 := [(0, .ref 67), (1, .int x1), (2, .int x2), (4, .int x4), (5, .int x5), (6, .int x6), (7, .int x7)]) (st2 := [.int x7, .ref 113]) (I2 := m.I) (J2 := m.J) (fun hT v kk => ?_) ?_
    · refine sh_jc (c := .ge) (off := (74)) (pc2 := 97) false rfl (sh_Bgef c) rfl ?_
      refine sh_w (i := (.aload_n 0)) (len := 1) (pc2 := 98) (lv2 := [(0, .ref 67), (1, .int x1), (2, .int x2), (4, .int x4), (5, .int x5), (6, .int x6), (7, .int x7)]) (st2 := [.ref 67]) (h2 := (sh_rep m.T m.I m.J)) rfl rfl rfl ?_
      refine sh_gR1 (len := 3) (x := .ref 113) (pc2 := 101) rfl rfl (sh_s66 hT.st) rfl rfl ?_
      refine sh_w (i := (.iload 7)) (len := 2) (pc2 := 103) (lv2 := [(0, .ref 67), (1, .int x1), (2, .int x2), (4, .int x4), (5, .int x5), (6, .int x6), (7, .int x7)]) (st2 := [.int x7, .ref 113]) (h2 := (sh_rep m.T m.I m.J)) rfl rfl rfl ?_
      exact kk
    obtain ⟨c, e⟩ := sh_gd e
    refine sh_Lk_lift (T := m.T) (I := m.I) (J := m.J) (s := m.s) (pc2 := 105) (lv2 := [(0, .ref 67), (1, .int x1), (2, .int x2), (4, .int x4), (5, .int x5), (6, .int x6), (7, .int x7)]) (st2 := [.int 3, .int (m.I 112 (Int32.toNatClampNeg x7))]) (I2 := m.I) (J2 := m.J) (fun hT v kk => ?_) ?_
    · refine sh_ia1 (x := m.I 112 (Int32.toNatClampNeg x7)) (pc2 := 104) rfl (sh_s112 hT.st) (sh_okb1 c) (sh_okb2 c) rfl rfl ?_
      refine sh_w (i := (.iconst 3)) (len := 1) (pc2 := 105) (lv2 := [(0, .ref 67), (1, .int x1), (2, .int x2), (4, .int x4), (5, .int x5), (6, .int x6), (7, .int x7)]) (st2 := [.int 3, .int (m.I 112 (Int32.toNatClampNeg x7))]) (h2 := (sh_rep m.T m.I m.J)) rfl rfl rfl ?_
      exact kk
    rcases sh_ite e with ⟨c, e⟩ | ⟨c, e⟩
    · refine sh_Lk_lift (T := m.T) (I := m.I) (J := m.J) (s := m.s) (pc2 := 118) (lv2 := [(0, .ref 67), (1, .int x1), (2, .int x2), (4, .int x4), (5, .int x5), (6, .int x6), (7, .int x7)]) (st2 := [.int x7, .ref 116, .ref 67]) (I2 := m.I) (J2 := m.J) (fun hT v kk => ?_) ?_
      · refine sh_jc (c := .eq) (off := (6)) (pc2 := 111) true rfl (sh_Beqt c) rfl ?_
        refine sh_w (i := (.aload_n 0)) (len := 1) (pc2 := 112) (lv2 := [(0, .ref 67), (1, .int x1), (2, .int x2), (4, .int x4), (5, .int x5), (6, .int x6), (7, .int x7)]) (st2 := [.ref 67]) (h2 := (sh_rep m.T m.I m.J)) rfl rfl rfl ?_
        refine sh_w (i := (.aload_n 0)) (len := 1) (pc2 := 113) (lv2 := [(0, .ref 67), (1, .int x1), (2, .int x2), (4, .int x4), (5, .int x5), (6, .int x6), (7, .int x7)]) (st2 := [.ref 67, .ref 67]) (h2 := (sh_rep m.T m.I m.J)) rfl rfl rfl ?_
        refine sh_gR1 (len := 3) (x := .ref 116) (pc2 := 116) rfl rfl (sh_s66 hT.st) rfl rfl ?_
        refine sh_w (i := (.iload 7)) (len := 2) (pc2 := 118) (lv2 := [(0, .ref 67), (1, .int x1), (2, .int x2), (4, .int x4), (5, .int x5), (6, .int x6), (7, .int x7)]) (st2 := [.int x7, .ref 116, .ref 67]) (h2 := (sh_rep m.T m.I m.J)) rfl rfl rfl ?_
        exact kk
      obtain ⟨c, e⟩ := sh_gd e
      refine sh_Lk_lift (T := m.T) (I := m.I) (J := m.J) (s := m.s) (pc2 := 129) (lv2 := [(0, .ref 67), (1, .int x1), (2, .int x2), (4, .int x4), (5, .int x5), (6, .int x6), (7, .int x7)]) (st2 := [.int x7, .ref 117, .ref 67]) (I2 := m.I) (J2 := sh_u2 m.J 66 46 (m.J 115 (Int32.toNatClampNeg x7))) (fun hT v kk => ?_) ?_
      · refine sh_la1 (x := m.J 115 (Int32.toNatClampNeg x7)) (pc2 := 119) rfl (sh_s115 hT.st) (sh_okb1 c) (sh_okb2 c) rfl rfl ?_
        refine sh_pJ1 (x := m.J 115 (Int32.toNatClampNeg x7)) (pc2 := 122) rfl rfl (sh_s66 hT.st) rfl rfl rfl rfl ?_
        refine sh_w (i := (.aload_n 0)) (len := 1) (pc2 := 123) (lv2 := [(0, .ref 67), (1, .int x1), (2, .int x2), (4, .int x4), (5, .int x5), (6, .int x6), (7, .int x7)]) (st2 := [.ref 67]) (h2 := (sh_rep m.T m.I (sh_u2 m.J 66 46 (m.J 115 (Int32.toNatClampNeg x7))))) rfl rfl rfl ?_
        refine sh_w (i := (.aload_n 0)) (len := 1) (pc2 := 124) (lv2 := [(0, .ref 67), (1, .int x1), (2, .int x2), (4, .int x4), (5, .int x5), (6, .int x6), (7, .int x7)]) (st2 := [.ref 67, .ref 67]) (h2 := (sh_rep m.T m.I (sh_u2 m.J 66 46 (m.J 115 (Int32.toNatClampNeg x7))))) rfl rfl rfl ?_
        refine sh_gR1 (len := 3) (x := .ref 117) (pc2 := 127) rfl rfl (sh_s66 hT.st) rfl rfl ?_
        refine sh_w (i := (.iload 7)) (len := 2) (pc2 := 129) (lv2 := [(0, .ref 67), (1, .int x1), (2, .int x2), (4, .int x4), (5, .int x5), (6, .int x6), (7, .int x7)]) (st2 := [.int x7, .ref 117, .ref 67]) (h2 := (sh_rep m.T m.I (sh_u2 m.J 66 46 (m.J 115 (Int32.toNatClampNeg x7))))) rfl rfl rfl ?_
        exact kk
      obtain ⟨c, e⟩ := sh_gd e
      refine sh_Lk_lift (T := m.T) (I := m.I) (J := sh_u2 m.J 66 46 (m.J 115 (Int32.toNatClampNeg x7))) (s := m.s) (pc2 := 136) (lv2 := [(0, .ref 67), (1, .int x1), (2, .int x2), (4, .int x4), (5, .int x5), (6, .int x6), (7, .int x7)]) (st2 := [.int x6, .int x5, .int x4, .int (m.I 116 (Int32.toNatClampNeg x7)), .ref 67]) (I2 := m.I) (J2 := sh_u2 m.J 66 46 (m.J 115 (Int32.toNatClampNeg x7))) (fun hT v kk => ?_) ?_
      · refine sh_ia1 (x := m.I 116 (Int32.toNatClampNeg x7)) (pc2 := 130) rfl (sh_s116 hT.st) (sh_okb1 c) (sh_okb2 c) rfl rfl ?_
        refine sh_w (i := (.iload 4)) (len := 2) (pc2 := 132) (lv2 := [(0, .ref 67), (1, .int x1), (2, .int x2), (4, .int x4), (5, .int x5), (6, .int x6), (7, .int x7)]) (st2 := [.int x4, .int (m.I 116 (Int32.toNatClampNeg x7)), .ref 67]) (h2 := (sh_rep m.T m.I (sh_u2 m.J 66 46 (m.J 115 (Int32.toNatClampNeg x7))))) rfl rfl rfl ?_
        refine sh_w (i := (.iload 5)) (len := 2) (pc2 := 134) (lv2 := [(0, .ref 67), (1, .int x1), (2, .int x2), (4, .int x4), (5, .int x5), (6, .int x6), (7, .int x7)]) (st2 := [.int x5, .int x4, .int (m.I 116 (Int32.toNatClampNeg x7)), .ref 67]) (h2 := (sh_rep m.T m.I (sh_u2 m.J 66 46 (m.J 115 (Int32.toNatClampNeg x7))))) rfl rfl rfl ?_
        refine sh_w (i := (.iload 6)) (len := 2) (pc2 := 136) (lv2 := [(0, .ref 67), (1, .int x1), (2, .int x2), (4, .int x4), (5, .int x5), (6, .int x6), (7, .int x7)]) (st2 := [.int x6, .int x5, .int x4, .int (m.I 116 (Int32.toNatClampNeg x7)), .ref 67]) (h2 := (sh_rep m.T m.I (sh_u2 m.J 66 46 (m.J 115 (Int32.toNatClampNeg x7))))) rfl rfl rfl ?_
        exact kk
      obtain ⟨r1, m11, e1, e⟩ := sh_bn_e e
      refine sh_Lk_cV (r := (some (.int (sh_b2 r1)))) (st2 := [.int (sh_b2 r1)]) (pc2 := 139) (k2 := 299) (a := 66) (as := [.ref 67, .int (m.I 116 (Int32.toNatClampNeg x7)), .int x4, .int x5, .int x6]) (rest := []) rfl rfl rfl (fun hT => (sh_s66 hT.st)) rfl rfl ⟨Nat.le_of_ble_eq_true rfl, Nat.le_of_ble_eq_true rfl⟩ (sl_299 e1 ⟨rfl, rfl⟩) rfl rfl (Nat.le_of_ble_eq_true rfl) (Nat.le_of_ble_eq_true rfl) ?_
      rcases sh_ite e with ⟨c, e⟩ | ⟨c, e⟩
      · refine sh_Lk_lift (T := m11.T) (I := m11.I) (J := m11.J) (s := m11.s) (pc2 := 152) (lv2 := [(0, .ref 67), (1, .int x1), (2, .int x2), (4, .int x4), (5, .int x5), (6, .int x6), (7, .int x7)]) (st2 := [.int x4, .int x7, .ref 113]) (I2 := m11.I) (J2 := m11.J) (fun hT v kk => ?_) ?_
        · refine sh_j0 (c := .ne) (off := (5)) (pc2 := 144) true rfl (sh_Znet c) rfl ?_
          refine sh_w (i := (.aload_n 0)) (len := 1) (pc2 := 145) (lv2 := [(0, .ref 67), (1, .int x1), (2, .int x2), (4, .int x4), (5, .int x5), (6, .int x6), (7, .int x7)]) (st2 := [.ref 67]) (h2 := (sh_rep m11.T m11.I m11.J)) rfl rfl rfl ?_
          refine sh_gR1 (len := 3) (x := .ref 113) (pc2 := 148) rfl rfl (sh_s66 hT.st) rfl rfl ?_
          refine sh_w (i := (.iload 7)) (len := 2) (pc2 := 150) (lv2 := [(0, .ref 67), (1, .int x1), (2, .int x2), (4, .int x4), (5, .int x5), (6, .int x6), (7, .int x7)]) (st2 := [.int x7, .ref 113]) (h2 := (sh_rep m11.T m11.I m11.J)) rfl rfl rfl ?_
          refine sh_w (i := (.iload 4)) (len := 2) (pc2 := 152) (lv2 := [(0, .ref 67), (1, .int x1), (2, .int x2), (4, .int x4), (5, .int x5), (6, .int x6), (7, .int x7)]) (st2 := [.int x4, .int x7, .ref 113]) (h2 := (sh_rep m11.T m11.I m11.J)) rfl rfl rfl ?_
          exact kk
        obtain ⟨c, e⟩ := sh_gd e
        refine sh_Lk_lift (T := m11.T) (I := m11.I) (J := m11.J) (s := m11.s) (pc2 := 161) (lv2 := [(0, .ref 67), (1, .int x1), (2, .int x2), (4, .int x4), (5, .int x5), (6, .int x6), (7, .int x7)]) (st2 := [.int x5, .int x7, .ref 114]) (I2 := sh_u2 m11.I 112 (Int32.toNatClampNeg x7) x4) (J2 := m11.J) (fun hT v kk => ?_) ?_
        · refine sh_is1 (x := x4) (i := x7) (pc2 := 153) rfl (sh_s112 hT.st) (sh_okb1 c) (sh_okb2 c) rfl ?_
          refine sh_w (i := (.aload_n 0)) (len := 1) (pc2 := 154) (lv2 := [(0, .ref 67), (1, .int x1), (2, .int x2), (4, .int x4), (5, .int x5), (6, .int x6), (7, .int x7)]) (st2 := [.ref 67]) (h2 := (sh_rep m11.T (sh_u2 m11.I 112 (Int32.toNatClampNeg x7) x4) m11.J)) rfl rfl rfl ?_
          refine sh_gR1 (len := 3) (x := .ref 114) (pc2 := 157) rfl rfl (sh_s66 hT.st) rfl rfl ?_
          refine sh_w (i := (.iload 7)) (len := 2) (pc2 := 159) (lv2 := [(0, .ref 67), (1, .int x1), (2, .int x2), (4, .int x4), (5, .int x5), (6, .int x6), (7, .int x7)]) (st2 := [.int x7, .ref 114]) (h2 := (sh_rep m11.T (sh_u2 m11.I 112 (Int32.toNatClampNeg x7) x4) m11.J)) rfl rfl rfl ?_
          refine sh_w (i := (.iload 5)) (len := 2) (pc2 := 161) (lv2 := [(0, .ref 67), (1, .int x1), (2, .int x2), (4, .int x4), (5, .int x5), (6, .int x6), (7, .int x7)]) (st2 := [.int x5, .int x7, .ref 114]) (h2 := (sh_rep m11.T (sh_u2 m11.I 112 (Int32.toNatClampNeg x7) x4) m11.J)) rfl rfl rfl ?_
          exact kk
        obtain ⟨c, e⟩ := sh_gd e
        refine sh_Lk_lift (T := m11.T) (I := sh_u2 m11.I 112 (Int32.toNatClampNeg x7) x4) (J := m11.J) (s := m11.s) (pc2 := 162) (lv2 := [(0, .ref 67), (1, .int x1), (2, .int x2), (4, .int x4), (5, .int x5), (6, .int x6), (7, .int x7)]) (st2 := []) (I2 := sh_u2 (sh_u2 m11.I 112 (Int32.toNatClampNeg x7) x4) 113 (Int32.toNatClampNeg x7) x5) (J2 := m11.J) (fun hT v kk => ?_) ?_
        · refine sh_is1 (x := x5) (i := x7) (pc2 := 162) rfl (sh_s113 hT.st) (sh_okb1 c) (sh_okb2 c) rfl ?_
          exact kk
        exact sh_Lk_sub (sh_sub_c rfl (sh_sub_c rfl (sh_sub_c rfl (sh_sub_c rfl (sh_sub_c rfl (sh_sub_c rfl (sh_sub_c rfl (sh_sub_n)))))))) (sl_312_162 e tg)
      · refine sh_Lk_lift (T := m11.T) (I := m11.I) (J := m11.J) (s := m11.s) (pc2 := 143) (lv2 := [(0, .ref 67), (1, .int x1), (2, .int x2), (4, .int x4), (5, .int x5), (6, .int x6), (7, .int x7)]) (st2 := [.int 0]) (I2 := m11.I) (J2 := m11.J) (fun hT v kk => ?_) ?_
        · refine sh_j0 (c := .ne) (off := (5)) (pc2 := 142) false rfl (sh_Znef c) rfl ?_
          refine sh_w (i := (.iconst 0)) (len := 1) (pc2 := 143) (lv2 := [(0, .ref 67), (1, .int x1), (2, .int x2), (4, .int x4), (5, .int x5), (6, .int x6), (7, .int x7)]) (st2 := [.int 0]) (h2 := (sh_rep m11.T m11.I m11.J)) rfl rfl rfl ?_
          exact kk
        obtain rfl := Option.some.inj e
        obtain ⟨rfl, rfl⟩ := tg
        exact sh_Lk_ret (i := .ireturn) rfl rfl rfl (Nat.le_of_ble_eq_true rfl) (Nat.le_of_ble_eq_true rfl)
    · refine sh_Lk_lift (T := m.T) (I := m.I) (J := m.J) (s := m.s) (pc2 := 162) (lv2 := [(0, .ref 67), (1, .int x1), (2, .int x2), (4, .int x4), (5, .int x5), (6, .int x6), (7, .int x7)]) (st2 := []) (I2 := m.I) (J2 := m.J) (fun hT v kk => ?_) ?_
      · refine sh_jc (c := .eq) (off := (6)) (pc2 := 108) false rfl (sh_Beqf c) rfl ?_
        refine sh_w (i := (.goto 54)) (len := 3) (pc2 := 162) (lv2 := [(0, .ref 67), (1, .int x1), (2, .int x2), (4, .int x4), (5, .int x5), (6, .int x6), (7, .int x7)]) (st2 := []) (h2 := (sh_rep m.T m.I m.J)) rfl rfl rfl ?_
        exact kk
      exact sh_Lk_sub (sh_sub_c rfl (sh_sub_c rfl (sh_sub_c rfl (sh_sub_c rfl (sh_sub_c rfl (sh_sub_c rfl (sh_sub_c rfl (sh_sub_n)))))))) (sl_312_162 e tg)
  · refine sh_Lk_lift (T := m.T) (I := m.I) (J := m.J) (s := m.s) (pc2 := 171) (lv2 := [(7, .int x2), (0, .ref 67), (1, .int x1), (2, .int x2), (4, .int x4), (5, .int x5), (6, .int x6)]) (st2 := []) (I2 := m.I) (J2 := m.J) (fun hT v kk => ?_) ?_
    · refine sh_jc (c := .ge) (off := (74)) (pc2 := 168) true rfl (sh_Bget c) rfl ?_
      refine sh_w (i := (.iload_n 2)) (len := 1) (pc2 := 169) (lv2 := [(0, .ref 67), (1, .int x1), (2, .int x2), (4, .int x4), (5, .int x5), (6, .int x6), (7, .int x7)]) (st2 := [.int x2]) (h2 := (sh_rep m.T m.I m.J)) rfl rfl rfl ?_
      refine sh_w (i := (.istore 7)) (len := 2) (pc2 := 171) (lv2 := [(7, .int x2), (0, .ref 67), (1, .int x1), (2, .int x2), (4, .int x4), (5, .int x5), (6, .int x6)]) (st2 := []) (h2 := (sh_rep m.T m.I m.J)) rfl rfl rfl ?_
      exact kk
    obtain ⟨_, eu, rfl⟩ := sh_up_e e
    exact sh_Lk_sub (sh_sub_c rfl (sh_sub_c rfl (sh_sub_c rfl (sh_sub_c rfl (sh_sub_c rfl (sh_sub_c rfl (sh_sub_n))))))) (sl_312_171 eu tg)
theorem sl_312_88 {x1 : Int32} {x2 : Int32} {x4 : Int32} {x5 : Int32} {x6 : Int32} {x7 : Int32} {m m2 : sh_X} {o : Outcome} {z : (Bool × sh_X)} (e : sf_312_88 x1 x2 x4 x5 x6 x7 m = some z) (tg : (sh_tZ o m2) z) : sh_Lk 312 88 [(0, .ref 67), (1, .int x1), (2, .int x2), (4, .int x4), (5, .int x5), (6, .int x6), (7, .int x7)] [] m o m2 11 268 := by
  unfold sf_312_88 at e
  exact sh_while_lk (P := fun q => sh_Lk 312 88 [(0, .ref 67), (1, .int x1), (2, .int x2), (4, .int x4), (5, .int x5), (6, .int x6), (7, .int q.1)] [] q.2 o m2 11 268) (Q := (sh_tZ o m2)) (fun q z e tg => sl_312_88s (x1 := x1) (x2 := x2) (x4 := x4) (x5 := x5) (x6 := x6) (x7 := q.1) (m := q.2) e tg) (s := (x7, m)) e tg
theorem sl_312_83 {x1 : Int32} {x2 : Int32} {x4 : Int32} {x5 : Int32} {y0 : Int32} {m m2 : sh_X} {o : Outcome} {z : (Bool × sh_X)} (e : sf_312_83 x1 x2 x4 x5 y0 m = some z) (tg : (sh_tZ o m2) z) : sh_Lk 312 83 [(0, .ref 67), (1, .int x1), (2, .int x2), (4, .int x4), (5, .int x5)] [.int y0] m o m2 11 268 := by
  unfold sf_312_83 at e
  refine sh_Lk_lift (T := m.T) (I := m.I) (J := m.J) (s := m.s) (pc2 := 88) (lv2 := [(7, .int x2), (6, .int y0), (0, .ref 67), (1, .int x1), (2, .int x2), (4, .int x4), (5, .int x5)]) (st2 := []) (I2 := m.I) (J2 := m.J) (fun hT v kk => ?_) ?_
  · refine sh_w (i := (.istore 6)) (len := 2) (pc2 := 85) (lv2 := [(6, .int y0), (0, .ref 67), (1, .int x1), (2, .int x2), (4, .int x4), (5, .int x5)]) (st2 := []) (h2 := (sh_rep m.T m.I m.J)) rfl rfl rfl ?_
    refine sh_w (i := (.iload_n 2)) (len := 1) (pc2 := 86) (lv2 := [(6, .int y0), (0, .ref 67), (1, .int x1), (2, .int x2), (4, .int x4), (5, .int x5)]) (st2 := [.int x2]) (h2 := (sh_rep m.T m.I m.J)) rfl rfl rfl ?_
    refine sh_w (i := (.istore 7)) (len := 2) (pc2 := 88) (lv2 := [(7, .int x2), (6, .int y0), (0, .ref 67), (1, .int x1), (2, .int x2), (4, .int x4), (5, .int x5)]) (st2 := []) (h2 := (sh_rep m.T m.I m.J)) rfl rfl rfl ?_
    exact kk
  exact sh_Lk_sub (sh_sub_c rfl (sh_sub_c rfl (sh_sub_c rfl (sh_sub_c rfl (sh_sub_c rfl (sh_sub_c rfl (sh_sub_c rfl (sh_sub_n)))))))) (sl_312_88 e tg)
theorem sl_312_67 {x1 : Int32} {x2 : Int32} {x3 : Int32} {x4 : Int32} {y0 : Int32} {m m2 : sh_X} {o : Outcome} {z : (Bool × sh_X)} (e : sf_312_67 x1 x2 x3 x4 y0 m = some z) (tg : (sh_tZ o m2) z) : sh_Lk 312 67 [(0, .ref 67), (1, .int x1), (2, .int x2), (3, .int x3), (4, .int x4)] [.int y0] m o m2 11 268 := by
  unfold sf_312_67 at e
  refine sh_Lk_lift (T := m.T) (I := m.I) (J := m.J) (s := m.s) (pc2 := 70) (lv2 := [(5, .int y0), (0, .ref 67), (1, .int x1), (2, .int x2), (3, .int x3), (4, .int x4)]) (st2 := [.int x3]) (I2 := m.I) (J2 := m.J) (fun hT v kk => ?_) ?_
  · refine sh_w (i := (.istore 5)) (len := 2) (pc2 := 69) (lv2 := [(5, .int y0), (0, .ref 67), (1, .int x1), (2, .int x2), (3, .int x3), (4, .int x4)]) (st2 := []) (h2 := (sh_rep m.T m.I m.J)) rfl rfl rfl ?_
    refine sh_w (i := (.iload_n 3)) (len := 1) (pc2 := 70) (lv2 := [(5, .int y0), (0, .ref 67), (1, .int x1), (2, .int x2), (3, .int x3), (4, .int x4)]) (st2 := [.int x3]) (h2 := (sh_rep m.T m.I m.J)) rfl rfl rfl ?_
    exact kk
  rcases sh_ite e with ⟨c, e⟩ | ⟨c, e⟩
  · refine sh_Lk_lift (T := m.T) (I := m.I) (J := m.J) (s := m.s) (pc2 := 83) (lv2 := [(5, .int y0), (0, .ref 67), (1, .int x1), (2, .int x2), (3, .int x3), (4, .int x4)]) (st2 := [.int 0]) (I2 := m.I) (J2 := m.J) (fun hT v kk => ?_) ?_
    · refine sh_j0 (c := .ge) (off := (7)) (pc2 := 73) false rfl (sh_Bgef c) rfl ?_
      refine sh_w (i := (.iconst 0)) (len := 1) (pc2 := 74) (lv2 := [(5, .int y0), (0, .ref 67), (1, .int x1), (2, .int x2), (3, .int x3), (4, .int x4)]) (st2 := [.int 0]) (h2 := (sh_rep m.T m.I m.J)) rfl rfl rfl ?_
      refine sh_w (i := (.goto 9)) (len := 3) (pc2 := 83) (lv2 := [(5, .int y0), (0, .ref 67), (1, .int x1), (2, .int x2), (3, .int x3), (4, .int x4)]) (st2 := [.int 0]) (h2 := (sh_rep m.T m.I m.J)) rfl rfl rfl ?_
      exact kk
    exact sh_Lk_sub (sh_sub_c rfl (sh_sub_c rfl (sh_sub_c rfl (sh_sub_c rfl (sh_sub_c rfl (sh_sub_n)))))) (sl_312_83 e tg)
  · refine sh_Lk_lift (T := m.T) (I := m.I) (J := m.J) (s := m.s) (pc2 := 82) (lv2 := [(5, .int y0), (0, .ref 67), (1, .int x1), (2, .int x2), (3, .int x3), (4, .int x4)]) (st2 := [.int x3, .ref 115]) (I2 := m.I) (J2 := m.J) (fun hT v kk => ?_) ?_
    · refine sh_j0 (c := .ge) (off := (7)) (pc2 := 77) true rfl (sh_Bget c) rfl ?_
      refine sh_w (i := (.aload_n 0)) (len := 1) (pc2 := 78) (lv2 := [(5, .int y0), (0, .ref 67), (1, .int x1), (2, .int x2), (3, .int x3), (4, .int x4)]) (st2 := [.ref 67]) (h2 := (sh_rep m.T m.I m.J)) rfl rfl rfl ?_
      refine sh_gR1 (len := 3) (x := .ref 115) (pc2 := 81) rfl rfl (sh_s66 hT.st) rfl rfl ?_
      refine sh_w (i := (.iload_n 3)) (len := 1) (pc2 := 82) (lv2 := [(5, .int y0), (0, .ref 67), (1, .int x1), (2, .int x2), (3, .int x3), (4, .int x4)]) (st2 := [.int x3, .ref 115]) (h2 := (sh_rep m.T m.I m.J)) rfl rfl rfl ?_
      exact kk
    obtain ⟨c, e⟩ := sh_gd e
    refine sh_Lk_lift (T := m.T) (I := m.I) (J := m.J) (s := m.s) (pc2 := 83) (lv2 := [(5, .int y0), (0, .ref 67), (1, .int x1), (2, .int x2), (3, .int x3), (4, .int x4)]) (st2 := [.int (m.I 114 (Int32.toNatClampNeg x3))]) (I2 := m.I) (J2 := m.J) (fun hT v kk => ?_) ?_
    · refine sh_ia1 (x := m.I 114 (Int32.toNatClampNeg x3)) (pc2 := 83) rfl (sh_s114 hT.st) (sh_okb1 c) (sh_okb2 c) rfl rfl ?_
      exact kk
    exact sh_Lk_sub (sh_sub_c rfl (sh_sub_c rfl (sh_sub_c rfl (sh_sub_c rfl (sh_sub_c rfl (sh_sub_n)))))) (sl_312_83 e tg)
theorem sl_312_50 {x1 : Int32} {x2 : Int32} {x3 : Int32} {y0 : Int32} {m m2 : sh_X} {o : Outcome} {z : (Bool × sh_X)} (e : sf_312_50 x1 x2 x3 y0 m = some z) (tg : (sh_tZ o m2) z) : sh_Lk 312 50 [(0, .ref 67), (1, .int x1), (2, .int x2), (3, .int x3)] [.int y0] m o m2 11 268 := by
  unfold sf_312_50 at e
  refine sh_Lk_lift (T := m.T) (I := m.I) (J := m.J) (s := m.s) (pc2 := 53) (lv2 := [(4, .int y0), (0, .ref 67), (1, .int x1), (2, .int x2), (3, .int x3)]) (st2 := [.int x3]) (I2 := m.I) (J2 := m.J) (fun hT v kk => ?_) ?_
  · refine sh_w (i := (.istore 4)) (len := 2) (pc2 := 52) (lv2 := [(4, .int y0), (0, .ref 67), (1, .int x1), (2, .int x2), (3, .int x3)]) (st2 := []) (h2 := (sh_rep m.T m.I m.J)) rfl rfl rfl ?_
    refine sh_w (i := (.iload_n 3)) (len := 1) (pc2 := 53) (lv2 := [(4, .int y0), (0, .ref 67), (1, .int x1), (2, .int x2), (3, .int x3)]) (st2 := [.int x3]) (h2 := (sh_rep m.T m.I m.J)) rfl rfl rfl ?_
    exact kk
  rcases sh_ite e with ⟨c, e⟩ | ⟨c, e⟩
  · refine sh_Lk_lift (T := m.T) (I := m.I) (J := m.J) (s := m.s) (pc2 := 67) (lv2 := [(4, .int y0), (0, .ref 67), (1, .int x1), (2, .int x2), (3, .int x3)]) (st2 := [.int 32]) (I2 := m.I) (J2 := m.J) (fun hT v kk => ?_) ?_
    · refine sh_j0 (c := .ge) (off := (8)) (pc2 := 56) false rfl (sh_Bgef c) rfl ?_
      refine sh_w (i := (.bipush 32)) (len := 2) (pc2 := 58) (lv2 := [(4, .int y0), (0, .ref 67), (1, .int x1), (2, .int x2), (3, .int x3)]) (st2 := [.int 32]) (h2 := (sh_rep m.T m.I m.J)) rfl rfl rfl ?_
      refine sh_w (i := (.goto 9)) (len := 3) (pc2 := 67) (lv2 := [(4, .int y0), (0, .ref 67), (1, .int x1), (2, .int x2), (3, .int x3)]) (st2 := [.int 32]) (h2 := (sh_rep m.T m.I m.J)) rfl rfl rfl ?_
      exact kk
    exact sh_Lk_sub (sh_sub_c rfl (sh_sub_c rfl (sh_sub_c rfl (sh_sub_c rfl (sh_sub_c rfl (sh_sub_n)))))) (sl_312_67 e tg)
  · refine sh_Lk_lift (T := m.T) (I := m.I) (J := m.J) (s := m.s) (pc2 := 66) (lv2 := [(4, .int y0), (0, .ref 67), (1, .int x1), (2, .int x2), (3, .int x3)]) (st2 := [.int x3, .ref 114]) (I2 := m.I) (J2 := m.J) (fun hT v kk => ?_) ?_
    · refine sh_j0 (c := .ge) (off := (8)) (pc2 := 61) true rfl (sh_Bget c) rfl ?_
      refine sh_w (i := (.aload_n 0)) (len := 1) (pc2 := 62) (lv2 := [(4, .int y0), (0, .ref 67), (1, .int x1), (2, .int x2), (3, .int x3)]) (st2 := [.ref 67]) (h2 := (sh_rep m.T m.I m.J)) rfl rfl rfl ?_
      refine sh_gR1 (len := 3) (x := .ref 114) (pc2 := 65) rfl rfl (sh_s66 hT.st) rfl rfl ?_
      refine sh_w (i := (.iload_n 3)) (len := 1) (pc2 := 66) (lv2 := [(4, .int y0), (0, .ref 67), (1, .int x1), (2, .int x2), (3, .int x3)]) (st2 := [.int x3, .ref 114]) (h2 := (sh_rep m.T m.I m.J)) rfl rfl rfl ?_
      exact kk
    obtain ⟨c, e⟩ := sh_gd e
    refine sh_Lk_lift (T := m.T) (I := m.I) (J := m.J) (s := m.s) (pc2 := 67) (lv2 := [(4, .int y0), (0, .ref 67), (1, .int x1), (2, .int x2), (3, .int x3)]) (st2 := [.int (m.I 113 (Int32.toNatClampNeg x3))]) (I2 := m.I) (J2 := m.J) (fun hT v kk => ?_) ?_
    · refine sh_ia1 (x := m.I 113 (Int32.toNatClampNeg x3)) (pc2 := 67) rfl (sh_s113 hT.st) (sh_okb1 c) (sh_okb2 c) rfl rfl ?_
      exact kk
    exact sh_Lk_sub (sh_sub_c rfl (sh_sub_c rfl (sh_sub_c rfl (sh_sub_c rfl (sh_sub_c rfl (sh_sub_n)))))) (sl_312_67 e tg)
theorem sl_312_10s {x1 : Int32} {x2 : Int32} {x3 : Int32} {x4 : Int32} {m m2 : sh_X} {o : Outcome} {z : ((Int32 × Int32 × sh_X) ⊕ (Bool × sh_X))} (e : sf_312_10s x1 x2 x3 x4 m = some z) (tg : (sh_el (fun q => sh_Lk 312 10 [(0, .ref 67), (1, .int x1), (2, .int x2), (3, .int q.1), (4, .int q.2.1)] [] q.2.2 o m2 11 268) (sh_tZ o m2)) z) : sh_Lk 312 10 [(0, .ref 67), (1, .int x1), (2, .int x2), (3, .int x3), (4, .int x4)] [] m o m2 11 268 := by
  unfold sf_312_10s at e
  refine sh_Lk_lift (T := m.T) (I := m.I) (J := m.J) (s := m.s) (pc2 := 13) (lv2 := [(0, .ref 67), (1, .int x1), (2, .int x2), (3, .int x3), (4, .int x4)]) (st2 := [.int x2, .int x4]) (I2 := m.I) (J2 := m.J) (fun hT v kk => ?_) ?_
  · refine sh_w (i := (.iload 4)) (len := 2) (pc2 := 12) (lv2 := [(0, .ref 67), (1, .int x1), (2, .int x2), (3, .int x3), (4, .int x4)]) (st2 := [.int x4]) (h2 := (sh_rep m.T m.I m.J)) rfl rfl rfl ?_
    refine sh_w (i := (.iload_n 2)) (len := 1) (pc2 := 13) (lv2 := [(0, .ref 67), (1, .int x1), (2, .int x2), (3, .int x3), (4, .int x4)]) (st2 := [.int x2, .int x4]) (h2 := (sh_rep m.T m.I m.J)) rfl rfl rfl ?_
    exact kk
  rcases sh_ite e with ⟨c, e⟩ | ⟨c, e⟩
  · refine sh_Lk_lift (T := m.T) (I := m.I) (J := m.J) (s := m.s) (pc2 := 37) (lv2 := [(0, .ref 67), (1, .int x1), (2, .int x2), (3, .int x3), (4, .int x4)]) (st2 := [.int x3]) (I2 := m.I) (J2 := m.J) (fun hT v kk => ?_) ?_
    · refine sh_jc (c := .lt) (off := (23)) (pc2 := 36) true rfl (sh_Bltt c) rfl ?_
      refine sh_w (i := (.iload_n 3)) (len := 1) (pc2 := 37) (lv2 := [(0, .ref 67), (1, .int x1), (2, .int x2), (3, .int x3), (4, .int x4)]) (st2 := [.int x3]) (h2 := (sh_rep m.T m.I m.J)) rfl rfl rfl ?_
      exact kk
    rcases sh_ite e with ⟨c, e⟩ | ⟨c, e⟩
    · refine sh_Lk_lift (T := m.T) (I := m.I) (J := m.J) (s := m.s) (pc2 := 50) (lv2 := [(0, .ref 67), (1, .int x1), (2, .int x2), (3, .int x3), (4, .int x4)]) (st2 := [.int 2]) (I2 := m.I) (J2 := m.J) (fun hT v kk => ?_) ?_
      · refine sh_j0 (c := .ge) (off := (7)) (pc2 := 40) false rfl (sh_Bgef c) rfl ?_
        refine sh_w (i := (.iconst 2)) (len := 1) (pc2 := 41) (lv2 := [(0, .ref 67), (1, .int x1), (2, .int x2), (3, .int x3), (4, .int x4)]) (st2 := [.int 2]) (h2 := (sh_rep m.T m.I m.J)) rfl rfl rfl ?_
        refine sh_w (i := (.goto 9)) (len := 3) (pc2 := 50) (lv2 := [(0, .ref 67), (1, .int x1), (2, .int x2), (3, .int x3), (4, .int x4)]) (st2 := [.int 2]) (h2 := (sh_rep m.T m.I m.J)) rfl rfl rfl ?_
        exact kk
      obtain ⟨_, eu, rfl⟩ := sh_up_e e
      exact sh_Lk_sub (sh_sub_c rfl (sh_sub_c rfl (sh_sub_c rfl (sh_sub_c rfl (sh_sub_n))))) (sl_312_50 eu tg)
    · refine sh_Lk_lift (T := m.T) (I := m.I) (J := m.J) (s := m.s) (pc2 := 49) (lv2 := [(0, .ref 67), (1, .int x1), (2, .int x2), (3, .int x3), (4, .int x4)]) (st2 := [.int x3, .ref 113]) (I2 := m.I) (J2 := m.J) (fun hT v kk => ?_) ?_
      · refine sh_j0 (c := .ge) (off := (7)) (pc2 := 44) true rfl (sh_Bget c) rfl ?_
        refine sh_w (i := (.aload_n 0)) (len := 1) (pc2 := 45) (lv2 := [(0, .ref 67), (1, .int x1), (2, .int x2), (3, .int x3), (4, .int x4)]) (st2 := [.ref 67]) (h2 := (sh_rep m.T m.I m.J)) rfl rfl rfl ?_
        refine sh_gR1 (len := 3) (x := .ref 113) (pc2 := 48) rfl rfl (sh_s66 hT.st) rfl rfl ?_
        refine sh_w (i := (.iload_n 3)) (len := 1) (pc2 := 49) (lv2 := [(0, .ref 67), (1, .int x1), (2, .int x2), (3, .int x3), (4, .int x4)]) (st2 := [.int x3, .ref 113]) (h2 := (sh_rep m.T m.I m.J)) rfl rfl rfl ?_
        exact kk
      obtain ⟨c, e⟩ := sh_gd e
      refine sh_Lk_lift (T := m.T) (I := m.I) (J := m.J) (s := m.s) (pc2 := 50) (lv2 := [(0, .ref 67), (1, .int x1), (2, .int x2), (3, .int x3), (4, .int x4)]) (st2 := [.int (m.I 112 (Int32.toNatClampNeg x3))]) (I2 := m.I) (J2 := m.J) (fun hT v kk => ?_) ?_
      · refine sh_ia1 (x := m.I 112 (Int32.toNatClampNeg x3)) (pc2 := 50) rfl (sh_s112 hT.st) (sh_okb1 c) (sh_okb2 c) rfl rfl ?_
        exact kk
      obtain ⟨_, eu, rfl⟩ := sh_up_e e
      exact sh_Lk_sub (sh_sub_c rfl (sh_sub_c rfl (sh_sub_c rfl (sh_sub_c rfl (sh_sub_n))))) (sl_312_50 eu tg)
  · refine sh_Lk_lift (T := m.T) (I := m.I) (J := m.J) (s := m.s) (pc2 := 22) (lv2 := [(0, .ref 67), (1, .int x1), (2, .int x2), (3, .int x3), (4, .int x4)]) (st2 := [.int x4, .ref 113]) (I2 := m.I) (J2 := m.J) (fun hT v kk => ?_) ?_
    · refine sh_jc (c := .lt) (off := (23)) (pc2 := 16) false rfl (sh_Bltf c) rfl ?_
      refine sh_w (i := (.aload_n 0)) (len := 1) (pc2 := 17) (lv2 := [(0, .ref 67), (1, .int x1), (2, .int x2), (3, .int x3), (4, .int x4)]) (st2 := [.ref 67]) (h2 := (sh_rep m.T m.I m.J)) rfl rfl rfl ?_
      refine sh_gR1 (len := 3) (x := .ref 113) (pc2 := 20) rfl rfl (sh_s66 hT.st) rfl rfl ?_
      refine sh_w (i := (.iload 4)) (len := 2) (pc2 := 22) (lv2 := [(0, .ref 67), (1, .int x1), (2, .int x2), (3, .int x3), (4, .int x4)]) (st2 := [.int x4, .ref 113]) (h2 := (sh_rep m.T m.I m.J)) rfl rfl rfl ?_
      exact kk
    obtain ⟨c, e⟩ := sh_gd e
    refine sh_Lk_lift (T := m.T) (I := m.I) (J := m.J) (s := m.s) (pc2 := 24) (lv2 := [(0, .ref 67), (1, .int x1), (2, .int x2), (3, .int x3), (4, .int x4)]) (st2 := [.int 3, .int (m.I 112 (Int32.toNatClampNeg x4))]) (I2 := m.I) (J2 := m.J) (fun hT v kk => ?_) ?_
    · refine sh_ia1 (x := m.I 112 (Int32.toNatClampNeg x4)) (pc2 := 23) rfl (sh_s112 hT.st) (sh_okb1 c) (sh_okb2 c) rfl rfl ?_
      refine sh_w (i := (.iconst 3)) (len := 1) (pc2 := 24) (lv2 := [(0, .ref 67), (1, .int x1), (2, .int x2), (3, .int x3), (4, .int x4)]) (st2 := [.int 3, .int (m.I 112 (Int32.toNatClampNeg x4))]) (h2 := (sh_rep m.T m.I m.J)) rfl rfl rfl ?_
      exact kk
    rcases sh_ite e with ⟨c, e⟩ | ⟨c, e⟩
    · refine sh_Lk_lift (T := m.T) (I := m.I) (J := m.J) (s := m.s) (pc2 := 30) (lv2 := [(0, .ref 67), (1, .int x1), (2, .int x2), (3, .int x3), (4, .int x4)]) (st2 := []) (I2 := m.I) (J2 := m.J) (fun hT v kk => ?_) ?_
      · refine sh_jc (c := .eq) (off := (6)) (pc2 := 30) true rfl (sh_Beqt c) rfl ?_
        exact kk
      exact sh_Lk_sub (sh_sub_c rfl (sh_sub_c rfl (sh_sub_c rfl (sh_sub_c rfl (sh_sub_c rfl (sh_sub_n)))))) (sl_312_30 e tg)
    · refine sh_Lk_lift (T := m.T) (I := m.I) (J := m.J) (s := m.s) (pc2 := 30) (lv2 := [(3, .int x4), (0, .ref 67), (1, .int x1), (2, .int x2), (4, .int x4)]) (st2 := []) (I2 := m.I) (J2 := m.J) (fun hT v kk => ?_) ?_
      · refine sh_jc (c := .eq) (off := (6)) (pc2 := 27) false rfl (sh_Beqf c) rfl ?_
        refine sh_w (i := (.iload 4)) (len := 2) (pc2 := 29) (lv2 := [(0, .ref 67), (1, .int x1), (2, .int x2), (3, .int x3), (4, .int x4)]) (st2 := [.int x4]) (h2 := (sh_rep m.T m.I m.J)) rfl rfl rfl ?_
        refine sh_w (i := (.istore_n 3)) (len := 1) (pc2 := 30) (lv2 := [(3, .int x4), (0, .ref 67), (1, .int x1), (2, .int x2), (4, .int x4)]) (st2 := []) (h2 := (sh_rep m.T m.I m.J)) rfl rfl rfl ?_
        exact kk
      exact sh_Lk_sub (sh_sub_c rfl (sh_sub_c rfl (sh_sub_c rfl (sh_sub_c rfl (sh_sub_c rfl (sh_sub_n)))))) (sl_312_30 e tg)
theorem sl_312_10 {x1 : Int32} {x2 : Int32} {x3 : Int32} {x4 : Int32} {m m2 : sh_X} {o : Outcome} {z : (Bool × sh_X)} (e : sf_312_10 x1 x2 x3 x4 m = some z) (tg : (sh_tZ o m2) z) : sh_Lk 312 10 [(0, .ref 67), (1, .int x1), (2, .int x2), (3, .int x3), (4, .int x4)] [] m o m2 11 268 := by
  unfold sf_312_10 at e
  exact sh_while_lk (P := fun q => sh_Lk 312 10 [(0, .ref 67), (1, .int x1), (2, .int x2), (3, .int q.1), (4, .int q.2.1)] [] q.2.2 o m2 11 268) (Q := (sh_tZ o m2)) (fun q z e tg => sl_312_10s (x1 := x1) (x2 := x2) (x3 := q.1) (x4 := q.2.1) (m := q.2.2) e tg) (s := (x3, x4, m)) e tg
theorem sl_312 {x1 : Int32} {x2 : Int32} {m m2 : sh_X} {o : Outcome} {z : (Bool × sh_X)} (e : sf_312 x1 x2 m = some z) (tg : (sh_tZ o m2) z) : sh_Lk 312 0 [(0, .ref 67), (1, .int x1), (2, .int x2)] [] m o m2 11 268 := by
  unfold sf_312 at e
  refine sh_Lk_lift (T := m.T) (I := m.I) (J := m.J) (s := m.s) (pc2 := 10) (lv2 := [(4, .int ((m.I 66 79) - 1)), (3, .int (-1)), (0, .ref 67), (1, .int x1), (2, .int x2)]) (st2 := []) (I2 := m.I) (J2 := m.J) (fun hT v kk => ?_) ?_
  · refine sh_w (i := (.iconst (-1))) (len := 1) (pc2 := 1) (lv2 := [(0, .ref 67), (1, .int x1), (2, .int x2)]) (st2 := [.int (-1)]) (h2 := (sh_rep m.T m.I m.J)) rfl rfl rfl ?_
    refine sh_w (i := (.istore_n 3)) (len := 1) (pc2 := 2) (lv2 := [(3, .int (-1)), (0, .ref 67), (1, .int x1), (2, .int x2)]) (st2 := []) (h2 := (sh_rep m.T m.I m.J)) rfl rfl rfl ?_
    refine sh_w (i := (.aload_n 0)) (len := 1) (pc2 := 3) (lv2 := [(3, .int (-1)), (0, .ref 67), (1, .int x1), (2, .int x2)]) (st2 := [.ref 67]) (h2 := (sh_rep m.T m.I m.J)) rfl rfl rfl ?_
    refine sh_gI1 (len := 3) (x := m.I 66 79) (pc2 := 6) rfl rfl (sh_s66 hT.st) rfl rfl rfl ?_
    refine sh_w (i := (.iconst 1)) (len := 1) (pc2 := 7) (lv2 := [(3, .int (-1)), (0, .ref 67), (1, .int x1), (2, .int x2)]) (st2 := [.int 1, .int (m.I 66 79)]) (h2 := (sh_rep m.T m.I m.J)) rfl rfl rfl ?_
    refine sh_w (i := .isub) (len := 1) (pc2 := 8) (lv2 := [(3, .int (-1)), (0, .ref 67), (1, .int x1), (2, .int x2)]) (st2 := [.int ((m.I 66 79) - 1)]) (h2 := (sh_rep m.T m.I m.J)) rfl rfl rfl ?_
    refine sh_w (i := (.istore 4)) (len := 2) (pc2 := 10) (lv2 := [(4, .int ((m.I 66 79) - 1)), (3, .int (-1)), (0, .ref 67), (1, .int x1), (2, .int x2)]) (st2 := []) (h2 := (sh_rep m.T m.I m.J)) rfl rfl rfl ?_
    exact kk
  exact sh_Lk_sub (sh_sub_c rfl (sh_sub_c rfl (sh_sub_c rfl (sh_sub_c rfl (sh_sub_c rfl (sh_sub_n)))))) (sl_312_10 e tg)
theorem sl_311_142 {x1 : Int32} {x2 : Int32} {m m2 : sh_X} {o : Outcome} {z : (Bool × sh_X)} (e : sf_311_142 x1 x2 m = some z) (tg : (sh_tZ o m2) z) : sh_Lk 311 142 [(0, .ref 67), (1, .int x1), (2, .int x2)] [] m o m2 12 296 := by
  unfold sf_311_142 at e
  refine sh_Lk_lift (T := m.T) (I := m.I) (J := m.J) (s := m.s) (pc2 := 147) (lv2 := [(0, .ref 67), (1, .int x1), (2, .int x2)]) (st2 := [.int x2, .ref 111]) (I2 := m.I) (J2 := m.J) (fun hT v kk => ?_) ?_
  · refine sh_w (i := (.aload_n 0)) (len := 1) (pc2 := 143) (lv2 := [(0, .ref 67), (1, .int x1), (2, .int x2)]) (st2 := [.ref 67]) (h2 := (sh_rep m.T m.I m.J)) rfl rfl rfl ?_
    refine sh_gR1 (len := 3) (x := .ref 111) (pc2 := 146) rfl rfl (sh_s66 hT.st) rfl rfl ?_
    refine sh_w (i := (.iload_n 2)) (len := 1) (pc2 := 147) (lv2 := [(0, .ref 67), (1, .int x1), (2, .int x2)]) (st2 := [.int x2, .ref 111]) (h2 := (sh_rep m.T m.I m.J)) rfl rfl rfl ?_
    exact kk
  obtain ⟨c, e⟩ := sh_gd e
  refine sh_Lk_lift (T := m.T) (I := m.I) (J := m.J) (s := m.s) (pc2 := 148) (lv2 := [(0, .ref 67), (1, .int x1), (2, .int x2)]) (st2 := [.int (m.I 110 (Int32.toNatClampNeg x2))]) (I2 := m.I) (J2 := m.J) (fun hT v kk => ?_) ?_
  · refine sh_ia1 (x := m.I 110 (Int32.toNatClampNeg x2)) (pc2 := 148) rfl (sh_s110 hT.st) (sh_okb1 c) (sh_okb2 c) rfl rfl ?_
    exact kk
  rcases sh_ite e with ⟨c, e⟩ | ⟨c, e⟩
  · refine sh_Lk_lift (T := m.T) (I := m.I) (J := m.J) (s := m.s) (pc2 := 180) (lv2 := [(0, .ref 67), (1, .int x1), (2, .int x2)]) (st2 := [.int x2, .ref 110, .int x1, .ref 67]) (I2 := sh_u2 m.I 66 73 ((m.I 66 73) - 1)) (J2 := m.J) (fun hT v kk => ?_) ?_
    · refine sh_j0 (c := .lt) (off := (15)) (pc2 := 163) true rfl (sh_Bltt c) rfl ?_
      refine sh_w (i := (.aload_n 0)) (len := 1) (pc2 := 164) (lv2 := [(0, .ref 67), (1, .int x1), (2, .int x2)]) (st2 := [.ref 67]) (h2 := (sh_rep m.T m.I m.J)) rfl rfl rfl ?_
      refine sh_w (i := .dup) (len := 1) (pc2 := 165) (lv2 := [(0, .ref 67), (1, .int x1), (2, .int x2)]) (st2 := [.ref 67, .ref 67]) (h2 := (sh_rep m.T m.I m.J)) rfl rfl rfl ?_
      refine sh_gI1 (len := 3) (x := m.I 66 73) (pc2 := 168) rfl rfl (sh_s66 hT.st) rfl rfl rfl ?_
      refine sh_w (i := (.iconst 1)) (len := 1) (pc2 := 169) (lv2 := [(0, .ref 67), (1, .int x1), (2, .int x2)]) (st2 := [.int 1, .int (m.I 66 73), .ref 67]) (h2 := (sh_rep m.T m.I m.J)) rfl rfl rfl ?_
      refine sh_w (i := .isub) (len := 1) (pc2 := 170) (lv2 := [(0, .ref 67), (1, .int x1), (2, .int x2)]) (st2 := [.int ((m.I 66 73) - 1), .ref 67]) (h2 := (sh_rep m.T m.I m.J)) rfl rfl rfl ?_
      refine sh_pI1 (x := (m.I 66 73) - 1) (pc2 := 173) rfl rfl (sh_s66 hT.st) rfl rfl rfl rfl ?_
      refine sh_w (i := (.aload_n 0)) (len := 1) (pc2 := 174) (lv2 := [(0, .ref 67), (1, .int x1), (2, .int x2)]) (st2 := [.ref 67]) (h2 := (sh_rep m.T (sh_u2 m.I 66 73 ((m.I 66 73) - 1)) m.J)) rfl rfl rfl ?_
      refine sh_w (i := (.iload_n 1)) (len := 1) (pc2 := 175) (lv2 := [(0, .ref 67), (1, .int x1), (2, .int x2)]) (st2 := [.int x1, .ref 67]) (h2 := (sh_rep m.T (sh_u2 m.I 66 73 ((m.I 66 73) - 1)) m.J)) rfl rfl rfl ?_
      refine sh_w (i := (.aload_n 0)) (len := 1) (pc2 := 176) (lv2 := [(0, .ref 67), (1, .int x1), (2, .int x2)]) (st2 := [.ref 67, .int x1, .ref 67]) (h2 := (sh_rep m.T (sh_u2 m.I 66 73 ((m.I 66 73) - 1)) m.J)) rfl rfl rfl ?_
      refine sh_gR1 (len := 3) (x := .ref 110) (pc2 := 179) rfl rfl (sh_s66 hT.st) rfl rfl ?_
      refine sh_w (i := (.iload_n 2)) (len := 1) (pc2 := 180) (lv2 := [(0, .ref 67), (1, .int x1), (2, .int x2)]) (st2 := [.int x2, .ref 110, .int x1, .ref 67]) (h2 := (sh_rep m.T (sh_u2 m.I 66 73 ((m.I 66 73) - 1)) m.J)) rfl rfl rfl ?_
      exact kk
    obtain ⟨c, e⟩ := sh_gd e
    refine sh_Lk_lift (T := m.T) (I := sh_u2 m.I 66 73 ((m.I 66 73) - 1)) (J := m.J) (s := m.s) (pc2 := 181) (lv2 := [(0, .ref 67), (1, .int x1), (2, .int x2)]) (st2 := [.int (m.I 109 (Int32.toNatClampNeg x2)), .int x1, .ref 67]) (I2 := sh_u2 m.I 66 73 ((m.I 66 73) - 1)) (J2 := m.J) (fun hT v kk => ?_) ?_
    · refine sh_ia1 (x := m.I 109 (Int32.toNatClampNeg x2)) (pc2 := 181) rfl (sh_s109 hT.st) (sh_okb1 c) (sh_okb2 c) rfl rfl ?_
      exact kk
    obtain ⟨r1, m11, e1, e⟩ := sh_bn_e e
    refine sh_Lk_cV (r := (some (.int (sh_b2 r1)))) (st2 := [.int (sh_b2 r1)]) (pc2 := 184) (k2 := 312) (a := 66) (as := [.ref 67, .int x1, .int (m.I 109 (Int32.toNatClampNeg x2))]) (rest := []) rfl rfl rfl (fun hT => (sh_s66 hT.st)) rfl rfl ⟨Nat.le_of_ble_eq_true rfl, Nat.le_of_ble_eq_true rfl⟩ (sl_312 e1 ⟨rfl, rfl⟩) rfl rfl (Nat.le_of_ble_eq_true rfl) (Nat.le_of_ble_eq_true rfl) ?_
    obtain rfl := Option.some.inj e
    obtain ⟨rfl, rfl⟩ := tg
    exact sh_Lk_ret (i := .ireturn) rfl rfl (sh_rb rfl _) (Nat.le_of_ble_eq_true rfl) (Nat.le_of_ble_eq_true rfl)
  · refine sh_Lk_lift (T := m.T) (I := m.I) (J := m.J) (s := m.s) (pc2 := 157) (lv2 := [(0, .ref 67), (1, .int x1), (2, .int x2)]) (st2 := [.int x2, .ref 111, .ref 67]) (I2 := m.I) (J2 := m.J) (fun hT v kk => ?_) ?_
    · refine sh_j0 (c := .lt) (off := (15)) (pc2 := 151) false rfl (sh_Bltf c) rfl ?_
      refine sh_w (i := (.aload_n 0)) (len := 1) (pc2 := 152) (lv2 := [(0, .ref 67), (1, .int x1), (2, .int x2)]) (st2 := [.ref 67]) (h2 := (sh_rep m.T m.I m.J)) rfl rfl rfl ?_
      refine sh_w (i := (.aload_n 0)) (len := 1) (pc2 := 153) (lv2 := [(0, .ref 67), (1, .int x1), (2, .int x2)]) (st2 := [.ref 67, .ref 67]) (h2 := (sh_rep m.T m.I m.J)) rfl rfl rfl ?_
      refine sh_gR1 (len := 3) (x := .ref 111) (pc2 := 156) rfl rfl (sh_s66 hT.st) rfl rfl ?_
      refine sh_w (i := (.iload_n 2)) (len := 1) (pc2 := 157) (lv2 := [(0, .ref 67), (1, .int x1), (2, .int x2)]) (st2 := [.int x2, .ref 111, .ref 67]) (h2 := (sh_rep m.T m.I m.J)) rfl rfl rfl ?_
      exact kk
    obtain ⟨c, e⟩ := sh_gd e
    refine sh_Lk_lift (T := m.T) (I := m.I) (J := m.J) (s := m.s) (pc2 := 158) (lv2 := [(0, .ref 67), (1, .int x1), (2, .int x2)]) (st2 := [.int (m.I 110 (Int32.toNatClampNeg x2)), .ref 67]) (I2 := m.I) (J2 := m.J) (fun hT v kk => ?_) ?_
    · refine sh_ia1 (x := m.I 110 (Int32.toNatClampNeg x2)) (pc2 := 158) rfl (sh_s110 hT.st) (sh_okb1 c) (sh_okb2 c) rfl rfl ?_
      exact kk
    obtain ⟨r2, m12, e2, e⟩ := sh_bn_e e
    refine sh_Lk_cV (r := none) (st2 := []) (pc2 := 161) (k2 := 295) (a := 66) (as := [.ref 67, .int (m.I 110 (Int32.toNatClampNeg x2))]) (rest := []) rfl rfl rfl (fun hT => (sh_s66 hT.st)) rfl rfl ⟨Nat.le_of_ble_eq_true rfl, Nat.le_of_ble_eq_true rfl⟩ (sl_295 e2 ⟨rfl, rfl⟩) rfl rfl (Nat.le_of_ble_eq_true rfl) (Nat.le_of_ble_eq_true rfl) ?_
    refine sh_Lk_lift (T := m12.T) (I := m12.I) (J := m12.J) (s := m12.s) (pc2 := 162) (lv2 := [(0, .ref 67), (1, .int x1), (2, .int x2)]) (st2 := [.int 1]) (I2 := m12.I) (J2 := m12.J) (fun hT v kk => ?_) ?_
    · refine sh_w (i := (.iconst 1)) (len := 1) (pc2 := 162) (lv2 := [(0, .ref 67), (1, .int x1), (2, .int x2)]) (st2 := [.int 1]) (h2 := (sh_rep m12.T m12.I m12.J)) rfl rfl rfl ?_
      exact kk
    obtain rfl := Option.some.inj e
    obtain ⟨rfl, rfl⟩ := tg
    exact sh_Lk_ret (i := .ireturn) rfl rfl rfl (Nat.le_of_ble_eq_true rfl) (Nat.le_of_ble_eq_true rfl)
theorem sl_311 {x1 : Int32} {m m2 : sh_X} {o : Outcome} {z : (Bool × sh_X)} (e : sf_311 x1 m = some z) (tg : (sh_tZ o m2) z) : sh_Lk 311 0 [(0, .ref 67), (1, .int x1)] [] m o m2 12 296 := by
  unfold sf_311 at e
  refine sh_Lk_lift (T := m.T) (I := m.I) (J := m.J) (s := m.s) (pc2 := 12) (lv2 := [(2, .int ((m.I 66 73) - 1)), (0, .ref 67), (1, .int x1)]) (st2 := [.int ((m.I 66 73) - 1), .ref 107]) (I2 := m.I) (J2 := m.J) (fun hT v kk => ?_) ?_
  · refine sh_w (i := (.aload_n 0)) (len := 1) (pc2 := 1) (lv2 := [(0, .ref 67), (1, .int x1)]) (st2 := [.ref 67]) (h2 := (sh_rep m.T m.I m.J)) rfl rfl rfl ?_
    refine sh_gI1 (len := 3) (x := m.I 66 73) (pc2 := 4) rfl rfl (sh_s66 hT.st) rfl rfl rfl ?_
    refine sh_w (i := (.iconst 1)) (len := 1) (pc2 := 5) (lv2 := [(0, .ref 67), (1, .int x1)]) (st2 := [.int 1, .int (m.I 66 73)]) (h2 := (sh_rep m.T m.I m.J)) rfl rfl rfl ?_
    refine sh_w (i := .isub) (len := 1) (pc2 := 6) (lv2 := [(0, .ref 67), (1, .int x1)]) (st2 := [.int ((m.I 66 73) - 1)]) (h2 := (sh_rep m.T m.I m.J)) rfl rfl rfl ?_
    refine sh_w (i := (.istore_n 2)) (len := 1) (pc2 := 7) (lv2 := [(2, .int ((m.I 66 73) - 1)), (0, .ref 67), (1, .int x1)]) (st2 := []) (h2 := (sh_rep m.T m.I m.J)) rfl rfl rfl ?_
    refine sh_w (i := (.aload_n 0)) (len := 1) (pc2 := 8) (lv2 := [(2, .int ((m.I 66 73) - 1)), (0, .ref 67), (1, .int x1)]) (st2 := [.ref 67]) (h2 := (sh_rep m.T m.I m.J)) rfl rfl rfl ?_
    refine sh_gR1 (len := 3) (x := .ref 107) (pc2 := 11) rfl rfl (sh_s66 hT.st) rfl rfl ?_
    refine sh_w (i := (.iload_n 2)) (len := 1) (pc2 := 12) (lv2 := [(2, .int ((m.I 66 73) - 1)), (0, .ref 67), (1, .int x1)]) (st2 := [.int ((m.I 66 73) - 1), .ref 107]) (h2 := (sh_rep m.T m.I m.J)) rfl rfl rfl ?_
    exact kk
  obtain ⟨c, e⟩ := sh_gd e
  refine sh_Lk_lift (T := m.T) (I := m.I) (J := m.J) (s := m.s) (pc2 := 13) (lv2 := [(2, .int ((m.I 66 73) - 1)), (0, .ref 67), (1, .int x1)]) (st2 := [.int (m.I 106 (Int32.toNatClampNeg ((m.I 66 73) - 1)))]) (I2 := m.I) (J2 := m.J) (fun hT v kk => ?_) ?_
  · refine sh_ia1 (x := m.I 106 (Int32.toNatClampNeg ((m.I 66 73) - 1))) (pc2 := 13) rfl (sh_s106 hT.st) (sh_okb1 c) (sh_okb2 c) rfl rfl ?_
    exact kk
  rcases sh_ite e with ⟨c, e⟩ | ⟨c, e⟩
  · refine sh_Lk_lift (T := m.T) (I := m.I) (J := m.J) (s := m.s) (pc2 := 22) (lv2 := [(2, .int ((m.I 66 73) - 1)), (0, .ref 67), (1, .int x1)]) (st2 := [.int 1, .int ((m.I 66 73) - 1), .ref 107]) (I2 := m.I) (J2 := m.J) (fun hT v kk => ?_) ?_
    · refine sh_j0 (c := .ne) (off := (35)) (pc2 := 16) false rfl (sh_Bnef c) rfl ?_
      refine sh_w (i := (.aload_n 0)) (len := 1) (pc2 := 17) (lv2 := [(2, .int ((m.I 66 73) - 1)), (0, .ref 67), (1, .int x1)]) (st2 := [.ref 67]) (h2 := (sh_rep m.T m.I m.J)) rfl rfl rfl ?_
      refine sh_gR1 (len := 3) (x := .ref 107) (pc2 := 20) rfl rfl (sh_s66 hT.st) rfl rfl ?_
      refine sh_w (i := (.iload_n 2)) (len := 1) (pc2 := 21) (lv2 := [(2, .int ((m.I 66 73) - 1)), (0, .ref 67), (1, .int x1)]) (st2 := [.int ((m.I 66 73) - 1), .ref 107]) (h2 := (sh_rep m.T m.I m.J)) rfl rfl rfl ?_
      refine sh_w (i := (.iconst 1)) (len := 1) (pc2 := 22) (lv2 := [(2, .int ((m.I 66 73) - 1)), (0, .ref 67), (1, .int x1)]) (st2 := [.int 1, .int ((m.I 66 73) - 1), .ref 107]) (h2 := (sh_rep m.T m.I m.J)) rfl rfl rfl ?_
      exact kk
    obtain ⟨c, e⟩ := sh_gd e
    refine sh_Lk_lift (T := m.T) (I := m.I) (J := m.J) (s := m.s) (pc2 := 32) (lv2 := [(2, .int ((m.I 66 73) - 1)), (0, .ref 67), (1, .int x1)]) (st2 := [.int (m.I 66 79), .int ((m.I 66 73) - 1), .ref 110]) (I2 := sh_u2 m.I 106 (Int32.toNatClampNeg ((m.I 66 73) - 1)) 1) (J2 := m.J) (fun hT v kk => ?_) ?_
    · refine sh_is1 (x := 1) (i := (m.I 66 73) - 1) (pc2 := 23) rfl (sh_s106 hT.st) (sh_okb1 c) (sh_okb2 c) rfl ?_
      refine sh_w (i := (.aload_n 0)) (len := 1) (pc2 := 24) (lv2 := [(2, .int ((m.I 66 73) - 1)), (0, .ref 67), (1, .int x1)]) (st2 := [.ref 67]) (h2 := (sh_rep m.T (sh_u2 m.I 106 (Int32.toNatClampNeg ((m.I 66 73) - 1)) 1) m.J)) rfl rfl rfl ?_
      refine sh_gR1 (len := 3) (x := .ref 110) (pc2 := 27) rfl rfl (sh_s66 hT.st) rfl rfl ?_
      refine sh_w (i := (.iload_n 2)) (len := 1) (pc2 := 28) (lv2 := [(2, .int ((m.I 66 73) - 1)), (0, .ref 67), (1, .int x1)]) (st2 := [.int ((m.I 66 73) - 1), .ref 110]) (h2 := (sh_rep m.T (sh_u2 m.I 106 (Int32.toNatClampNeg ((m.I 66 73) - 1)) 1) m.J)) rfl rfl rfl ?_
      refine sh_w (i := (.aload_n 0)) (len := 1) (pc2 := 29) (lv2 := [(2, .int ((m.I 66 73) - 1)), (0, .ref 67), (1, .int x1)]) (st2 := [.ref 67, .int ((m.I 66 73) - 1), .ref 110]) (h2 := (sh_rep m.T (sh_u2 m.I 106 (Int32.toNatClampNeg ((m.I 66 73) - 1)) 1) m.J)) rfl rfl rfl ?_
      refine sh_gI1 (len := 3) (x := m.I 66 79) (pc2 := 32) rfl rfl (sh_s66 hT.st) rfl rfl rfl ?_
      exact kk
    obtain ⟨c, e⟩ := sh_gd e
    refine sh_Lk_lift (T := m.T) (I := sh_u2 m.I 106 (Int32.toNatClampNeg ((m.I 66 73) - 1)) 1) (J := m.J) (s := m.s) (pc2 := 43) (lv2 := [(2, .int ((m.I 66 73) - 1)), (0, .ref 67), (1, .int x1)]) (st2 := [.int x1, .ref 75, .int ((m.I 66 73) - 1), .ref 111]) (I2 := sh_u2 (sh_u2 m.I 106 (Int32.toNatClampNeg ((m.I 66 73) - 1)) 1) 109 (Int32.toNatClampNeg ((m.I 66 73) - 1)) (m.I 66 79)) (J2 := m.J) (fun hT v kk => ?_) ?_
    · refine sh_is1 (x := m.I 66 79) (i := (m.I 66 73) - 1) (pc2 := 33) rfl (sh_s109 hT.st) (sh_okb1 c) (sh_okb2 c) rfl ?_
      refine sh_w (i := (.aload_n 0)) (len := 1) (pc2 := 34) (lv2 := [(2, .int ((m.I 66 73) - 1)), (0, .ref 67), (1, .int x1)]) (st2 := [.ref 67]) (h2 := (sh_rep m.T (sh_u2 (sh_u2 m.I 106 (Int32.toNatClampNeg ((m.I 66 73) - 1)) 1) 109 (Int32.toNatClampNeg ((m.I 66 73) - 1)) (m.I 66 79)) m.J)) rfl rfl rfl ?_
      refine sh_gR1 (len := 3) (x := .ref 111) (pc2 := 37) rfl rfl (sh_s66 hT.st) rfl rfl ?_
      refine sh_w (i := (.iload_n 2)) (len := 1) (pc2 := 38) (lv2 := [(2, .int ((m.I 66 73) - 1)), (0, .ref 67), (1, .int x1)]) (st2 := [.int ((m.I 66 73) - 1), .ref 111]) (h2 := (sh_rep m.T (sh_u2 (sh_u2 m.I 106 (Int32.toNatClampNeg ((m.I 66 73) - 1)) 1) 109 (Int32.toNatClampNeg ((m.I 66 73) - 1)) (m.I 66 79)) m.J)) rfl rfl rfl ?_
      refine sh_w (i := (.aload_n 0)) (len := 1) (pc2 := 39) (lv2 := [(2, .int ((m.I 66 73) - 1)), (0, .ref 67), (1, .int x1)]) (st2 := [.ref 67, .int ((m.I 66 73) - 1), .ref 111]) (h2 := (sh_rep m.T (sh_u2 (sh_u2 m.I 106 (Int32.toNatClampNeg ((m.I 66 73) - 1)) 1) 109 (Int32.toNatClampNeg ((m.I 66 73) - 1)) (m.I 66 79)) m.J)) rfl rfl rfl ?_
      refine sh_gR1 (len := 3) (x := .ref 75) (pc2 := 42) rfl rfl (sh_s66 hT.st) rfl rfl ?_
      refine sh_w (i := (.iload_n 1)) (len := 1) (pc2 := 43) (lv2 := [(2, .int ((m.I 66 73) - 1)), (0, .ref 67), (1, .int x1)]) (st2 := [.int x1, .ref 75, .int ((m.I 66 73) - 1), .ref 111]) (h2 := (sh_rep m.T (sh_u2 (sh_u2 m.I 106 (Int32.toNatClampNeg ((m.I 66 73) - 1)) 1) 109 (Int32.toNatClampNeg ((m.I 66 73) - 1)) (m.I 66 79)) m.J)) rfl rfl rfl ?_
      exact kk
    obtain ⟨c, e⟩ := sh_gd e
    refine sh_Lk_lift (T := m.T) (I := sh_u2 (sh_u2 m.I 106 (Int32.toNatClampNeg ((m.I 66 73) - 1)) 1) 109 (Int32.toNatClampNeg ((m.I 66 73) - 1)) (m.I 66 79)) (J := m.J) (s := m.s) (pc2 := 44) (lv2 := [(2, .int ((m.I 66 73) - 1)), (0, .ref 67), (1, .int x1)]) (st2 := [.int (m.I 74 (Int32.toNatClampNeg x1)), .int ((m.I 66 73) - 1), .ref 111]) (I2 := sh_u2 (sh_u2 m.I 106 (Int32.toNatClampNeg ((m.I 66 73) - 1)) 1) 109 (Int32.toNatClampNeg ((m.I 66 73) - 1)) (m.I 66 79)) (J2 := m.J) (fun hT v kk => ?_) ?_
    · refine sh_ia1 (x := m.I 74 (Int32.toNatClampNeg x1)) (pc2 := 44) rfl (sh_s74 hT.st) (sh_okb1 c) (sh_okb2 c) rfl rfl ?_
      exact kk
    obtain ⟨c, e⟩ := sh_gd e
    refine sh_Lk_lift (T := m.T) (I := sh_u2 (sh_u2 m.I 106 (Int32.toNatClampNeg ((m.I 66 73) - 1)) 1) 109 (Int32.toNatClampNeg ((m.I 66 73) - 1)) (m.I 66 79)) (J := m.J) (s := m.s) (pc2 := 142) (lv2 := [(2, .int ((m.I 66 73) - 1)), (0, .ref 67), (1, .int x1)]) (st2 := []) (I2 := sh_u2 (sh_u2 (sh_u2 m.I 106 (Int32.toNatClampNeg ((m.I 66 73) - 1)) 1) 109 (Int32.toNatClampNeg ((m.I 66 73) - 1)) (m.I 66 79)) 110 (Int32.toNatClampNeg ((m.I 66 73) - 1)) (m.I 74 (Int32.toNatClampNeg x1))) (J2 := m.J) (fun hT v kk => ?_) ?_
    · refine sh_is1 (x := m.I 74 (Int32.toNatClampNeg x1)) (i := (m.I 66 73) - 1) (pc2 := 45) rfl (sh_s110 hT.st) (sh_okb1 c) (sh_okb2 c) rfl ?_
      refine sh_w (i := (.goto 97)) (len := 3) (pc2 := 142) (lv2 := [(2, .int ((m.I 66 73) - 1)), (0, .ref 67), (1, .int x1)]) (st2 := []) (h2 := (sh_rep m.T (sh_u2 (sh_u2 (sh_u2 m.I 106 (Int32.toNatClampNeg ((m.I 66 73) - 1)) 1) 109 (Int32.toNatClampNeg ((m.I 66 73) - 1)) (m.I 66 79)) 110 (Int32.toNatClampNeg ((m.I 66 73) - 1)) (m.I 74 (Int32.toNatClampNeg x1))) m.J)) rfl rfl rfl ?_
      exact kk
    exact sh_Lk_sub (sh_sub_c rfl (sh_sub_c rfl (sh_sub_c rfl (sh_sub_n)))) (sl_311_142 e tg)
  · refine sh_Lk_lift (T := m.T) (I := m.I) (J := m.J) (s := m.s) (pc2 := 60) (lv2 := [(2, .int ((m.I 66 73) - 1)), (0, .ref 67), (1, .int x1)]) (st2 := [.int (m.I 66 43), .int (m.I 66 79), .ref 113]) (I2 := m.I) (J2 := m.J) (fun hT v kk => ?_) ?_
    · refine sh_j0 (c := .ne) (off := (35)) (pc2 := 48) true rfl (sh_Bnet c) rfl ?_
      refine sh_w (i := (.aload_n 0)) (len := 1) (pc2 := 49) (lv2 := [(2, .int ((m.I 66 73) - 1)), (0, .ref 67), (1, .int x1)]) (st2 := [.ref 67]) (h2 := (sh_rep m.T m.I m.J)) rfl rfl rfl ?_
      refine sh_gR1 (len := 3) (x := .ref 113) (pc2 := 52) rfl rfl (sh_s66 hT.st) rfl rfl ?_
      refine sh_w (i := (.aload_n 0)) (len := 1) (pc2 := 53) (lv2 := [(2, .int ((m.I 66 73) - 1)), (0, .ref 67), (1, .int x1)]) (st2 := [.ref 67, .ref 113]) (h2 := (sh_rep m.T m.I m.J)) rfl rfl rfl ?_
      refine sh_gI1 (len := 3) (x := m.I 66 79) (pc2 := 56) rfl rfl (sh_s66 hT.st) rfl rfl rfl ?_
      refine sh_w (i := (.aload_n 0)) (len := 1) (pc2 := 57) (lv2 := [(2, .int ((m.I 66 73) - 1)), (0, .ref 67), (1, .int x1)]) (st2 := [.ref 67, .int (m.I 66 79), .ref 113]) (h2 := (sh_rep m.T m.I m.J)) rfl rfl rfl ?_
      refine sh_gI1 (len := 3) (x := m.I 66 43) (pc2 := 60) rfl rfl (sh_s66 hT.st) rfl rfl rfl ?_
      exact kk
    obtain ⟨c, e⟩ := sh_gd e
    refine sh_Lk_lift (T := m.T) (I := m.I) (J := m.J) (s := m.s) (pc2 := 73) (lv2 := [(2, .int ((m.I 66 73) - 1)), (0, .ref 67), (1, .int x1)]) (st2 := [.int (m.I 66 44), .int (m.I 66 79), .ref 114]) (I2 := sh_u2 m.I 112 (Int32.toNatClampNeg (m.I 66 79)) (m.I 66 43)) (J2 := m.J) (fun hT v kk => ?_) ?_
    · refine sh_is1 (x := m.I 66 43) (i := m.I 66 79) (pc2 := 61) rfl (sh_s112 hT.st) (sh_okb1 c) (sh_okb2 c) rfl ?_
      refine sh_w (i := (.aload_n 0)) (len := 1) (pc2 := 62) (lv2 := [(2, .int ((m.I 66 73) - 1)), (0, .ref 67), (1, .int x1)]) (st2 := [.ref 67]) (h2 := (sh_rep m.T (sh_u2 m.I 112 (Int32.toNatClampNeg (m.I 66 79)) (m.I 66 43)) m.J)) rfl rfl rfl ?_
      refine sh_gR1 (len := 3) (x := .ref 114) (pc2 := 65) rfl rfl (sh_s66 hT.st) rfl rfl ?_
      refine sh_w (i := (.aload_n 0)) (len := 1) (pc2 := 66) (lv2 := [(2, .int ((m.I 66 73) - 1)), (0, .ref 67), (1, .int x1)]) (st2 := [.ref 67, .ref 114]) (h2 := (sh_rep m.T (sh_u2 m.I 112 (Int32.toNatClampNeg (m.I 66 79)) (m.I 66 43)) m.J)) rfl rfl rfl ?_
      refine sh_gI1 (len := 3) (x := m.I 66 79) (pc2 := 69) rfl rfl (sh_s66 hT.st) rfl rfl rfl ?_
      refine sh_w (i := (.aload_n 0)) (len := 1) (pc2 := 70) (lv2 := [(2, .int ((m.I 66 73) - 1)), (0, .ref 67), (1, .int x1)]) (st2 := [.ref 67, .int (m.I 66 79), .ref 114]) (h2 := (sh_rep m.T (sh_u2 m.I 112 (Int32.toNatClampNeg (m.I 66 79)) (m.I 66 43)) m.J)) rfl rfl rfl ?_
      refine sh_gI1 (len := 3) (x := m.I 66 44) (pc2 := 73) rfl rfl (sh_s66 hT.st) rfl rfl rfl ?_
      exact kk
    obtain ⟨c, e⟩ := sh_gd e
    refine sh_Lk_lift (T := m.T) (I := sh_u2 m.I 112 (Int32.toNatClampNeg (m.I 66 79)) (m.I 66 43)) (J := m.J) (s := m.s) (pc2 := 86) (lv2 := [(2, .int ((m.I 66 73) - 1)), (0, .ref 67), (1, .int x1)]) (st2 := [.int (m.I 66 45), .int (m.I 66 79), .ref 115]) (I2 := sh_u2 (sh_u2 m.I 112 (Int32.toNatClampNeg (m.I 66 79)) (m.I 66 43)) 113 (Int32.toNatClampNeg (m.I 66 79)) (m.I 66 44)) (J2 := m.J) (fun hT v kk => ?_) ?_
    · refine sh_is1 (x := m.I 66 44) (i := m.I 66 79) (pc2 := 74) rfl (sh_s113 hT.st) (sh_okb1 c) (sh_okb2 c) rfl ?_
      refine sh_w (i := (.aload_n 0)) (len := 1) (pc2 := 75) (lv2 := [(2, .int ((m.I 66 73) - 1)), (0, .ref 67), (1, .int x1)]) (st2 := [.ref 67]) (h2 := (sh_rep m.T (sh_u2 (sh_u2 m.I 112 (Int32.toNatClampNeg (m.I 66 79)) (m.I 66 43)) 113 (Int32.toNatClampNeg (m.I 66 79)) (m.I 66 44)) m.J)) rfl rfl rfl ?_
      refine sh_gR1 (len := 3) (x := .ref 115) (pc2 := 78) rfl rfl (sh_s66 hT.st) rfl rfl ?_
      refine sh_w (i := (.aload_n 0)) (len := 1) (pc2 := 79) (lv2 := [(2, .int ((m.I 66 73) - 1)), (0, .ref 67), (1, .int x1)]) (st2 := [.ref 67, .ref 115]) (h2 := (sh_rep m.T (sh_u2 (sh_u2 m.I 112 (Int32.toNatClampNeg (m.I 66 79)) (m.I 66 43)) 113 (Int32.toNatClampNeg (m.I 66 79)) (m.I 66 44)) m.J)) rfl rfl rfl ?_
      refine sh_gI1 (len := 3) (x := m.I 66 79) (pc2 := 82) rfl rfl (sh_s66 hT.st) rfl rfl rfl ?_
      refine sh_w (i := (.aload_n 0)) (len := 1) (pc2 := 83) (lv2 := [(2, .int ((m.I 66 73) - 1)), (0, .ref 67), (1, .int x1)]) (st2 := [.ref 67, .int (m.I 66 79), .ref 115]) (h2 := (sh_rep m.T (sh_u2 (sh_u2 m.I 112 (Int32.toNatClampNeg (m.I 66 79)) (m.I 66 43)) 113 (Int32.toNatClampNeg (m.I 66 79)) (m.I 66 44)) m.J)) rfl rfl rfl ?_
      refine sh_gI1 (len := 3) (x := m.I 66 45) (pc2 := 86) rfl rfl (sh_s66 hT.st) rfl rfl rfl ?_
      exact kk
    obtain ⟨c, e⟩ := sh_gd e
    refine sh_Lk_lift (T := m.T) (I := sh_u2 (sh_u2 m.I 112 (Int32.toNatClampNeg (m.I 66 79)) (m.I 66 43)) 113 (Int32.toNatClampNeg (m.I 66 79)) (m.I 66 44)) (J := m.J) (s := m.s) (pc2 := 99) (lv2 := [(2, .int ((m.I 66 73) - 1)), (0, .ref 67), (1, .int x1)]) (st2 := [.long (m.J 66 46), .int (m.I 66 79), .ref 116]) (I2 := sh_u2 (sh_u2 (sh_u2 m.I 112 (Int32.toNatClampNeg (m.I 66 79)) (m.I 66 43)) 113 (Int32.toNatClampNeg (m.I 66 79)) (m.I 66 44)) 114 (Int32.toNatClampNeg (m.I 66 79)) (m.I 66 45)) (J2 := m.J) (fun hT v kk => ?_) ?_
    · refine sh_is1 (x := m.I 66 45) (i := m.I 66 79) (pc2 := 87) rfl (sh_s114 hT.st) (sh_okb1 c) (sh_okb2 c) rfl ?_
      refine sh_w (i := (.aload_n 0)) (len := 1) (pc2 := 88) (lv2 := [(2, .int ((m.I 66 73) - 1)), (0, .ref 67), (1, .int x1)]) (st2 := [.ref 67]) (h2 := (sh_rep m.T (sh_u2 (sh_u2 (sh_u2 m.I 112 (Int32.toNatClampNeg (m.I 66 79)) (m.I 66 43)) 113 (Int32.toNatClampNeg (m.I 66 79)) (m.I 66 44)) 114 (Int32.toNatClampNeg (m.I 66 79)) (m.I 66 45)) m.J)) rfl rfl rfl ?_
      refine sh_gR1 (len := 3) (x := .ref 116) (pc2 := 91) rfl rfl (sh_s66 hT.st) rfl rfl ?_
      refine sh_w (i := (.aload_n 0)) (len := 1) (pc2 := 92) (lv2 := [(2, .int ((m.I 66 73) - 1)), (0, .ref 67), (1, .int x1)]) (st2 := [.ref 67, .ref 116]) (h2 := (sh_rep m.T (sh_u2 (sh_u2 (sh_u2 m.I 112 (Int32.toNatClampNeg (m.I 66 79)) (m.I 66 43)) 113 (Int32.toNatClampNeg (m.I 66 79)) (m.I 66 44)) 114 (Int32.toNatClampNeg (m.I 66 79)) (m.I 66 45)) m.J)) rfl rfl rfl ?_
      refine sh_gI1 (len := 3) (x := m.I 66 79) (pc2 := 95) rfl rfl (sh_s66 hT.st) rfl rfl rfl ?_
      refine sh_w (i := (.aload_n 0)) (len := 1) (pc2 := 96) (lv2 := [(2, .int ((m.I 66 73) - 1)), (0, .ref 67), (1, .int x1)]) (st2 := [.ref 67, .int (m.I 66 79), .ref 116]) (h2 := (sh_rep m.T (sh_u2 (sh_u2 (sh_u2 m.I 112 (Int32.toNatClampNeg (m.I 66 79)) (m.I 66 43)) 113 (Int32.toNatClampNeg (m.I 66 79)) (m.I 66 44)) 114 (Int32.toNatClampNeg (m.I 66 79)) (m.I 66 45)) m.J)) rfl rfl rfl ?_
      refine sh_gJ1 (len := 3) (x := m.J 66 46) (pc2 := 99) rfl rfl (sh_s66 hT.st) rfl rfl rfl ?_
      exact kk
    obtain ⟨c, e⟩ := sh_gd e
    refine sh_Lk_lift (T := m.T) (I := sh_u2 (sh_u2 (sh_u2 m.I 112 (Int32.toNatClampNeg (m.I 66 79)) (m.I 66 43)) 113 (Int32.toNatClampNeg (m.I 66 79)) (m.I 66 44)) 114 (Int32.toNatClampNeg (m.I 66 79)) (m.I 66 45)) (J := m.J) (s := m.s) (pc2 := 113) (lv2 := [(2, .int ((m.I 66 73) - 1)), (0, .ref 67), (1, .int x1)]) (st2 := [.int ((m.I 66 73) - 1), .ref 111, .int (m.I 66 79), .ref 117]) (I2 := sh_u2 (sh_u2 (sh_u2 m.I 112 (Int32.toNatClampNeg (m.I 66 79)) (m.I 66 43)) 113 (Int32.toNatClampNeg (m.I 66 79)) (m.I 66 44)) 114 (Int32.toNatClampNeg (m.I 66 79)) (m.I 66 45)) (J2 := sh_u2 m.J 115 (Int32.toNatClampNeg (m.I 66 79)) (m.J 66 46)) (fun hT v kk => ?_) ?_
    · refine sh_ls1 (x := m.J 66 46) (i := m.I 66 79) (pc2 := 100) rfl (sh_s115 hT.st) (sh_okb1 c) (sh_okb2 c) rfl ?_
      refine sh_w (i := (.aload_n 0)) (len := 1) (pc2 := 101) (lv2 := [(2, .int ((m.I 66 73) - 1)), (0, .ref 67), (1, .int x1)]) (st2 := [.ref 67]) (h2 := (sh_rep m.T (sh_u2 (sh_u2 (sh_u2 m.I 112 (Int32.toNatClampNeg (m.I 66 79)) (m.I 66 43)) 113 (Int32.toNatClampNeg (m.I 66 79)) (m.I 66 44)) 114 (Int32.toNatClampNeg (m.I 66 79)) (m.I 66 45)) (sh_u2 m.J 115 (Int32.toNatClampNeg (m.I 66 79)) (m.J 66 46)))) rfl rfl rfl ?_
      refine sh_gR1 (len := 3) (x := .ref 117) (pc2 := 104) rfl rfl (sh_s66 hT.st) rfl rfl ?_
      refine sh_w (i := (.aload_n 0)) (len := 1) (pc2 := 105) (lv2 := [(2, .int ((m.I 66 73) - 1)), (0, .ref 67), (1, .int x1)]) (st2 := [.ref 67, .ref 117]) (h2 := (sh_rep m.T (sh_u2 (sh_u2 (sh_u2 m.I 112 (Int32.toNatClampNeg (m.I 66 79)) (m.I 66 43)) 113 (Int32.toNatClampNeg (m.I 66 79)) (m.I 66 44)) 114 (Int32.toNatClampNeg (m.I 66 79)) (m.I 66 45)) (sh_u2 m.J 115 (Int32.toNatClampNeg (m.I 66 79)) (m.J 66 46)))) rfl rfl rfl ?_
      refine sh_gI1 (len := 3) (x := m.I 66 79) (pc2 := 108) rfl rfl (sh_s66 hT.st) rfl rfl rfl ?_
      refine sh_w (i := (.aload_n 0)) (len := 1) (pc2 := 109) (lv2 := [(2, .int ((m.I 66 73) - 1)), (0, .ref 67), (1, .int x1)]) (st2 := [.ref 67, .int (m.I 66 79), .ref 117]) (h2 := (sh_rep m.T (sh_u2 (sh_u2 (sh_u2 m.I 112 (Int32.toNatClampNeg (m.I 66 79)) (m.I 66 43)) 113 (Int32.toNatClampNeg (m.I 66 79)) (m.I 66 44)) 114 (Int32.toNatClampNeg (m.I 66 79)) (m.I 66 45)) (sh_u2 m.J 115 (Int32.toNatClampNeg (m.I 66 79)) (m.J 66 46)))) rfl rfl rfl ?_
      refine sh_gR1 (len := 3) (x := .ref 111) (pc2 := 112) rfl rfl (sh_s66 hT.st) rfl rfl ?_
      refine sh_w (i := (.iload_n 2)) (len := 1) (pc2 := 113) (lv2 := [(2, .int ((m.I 66 73) - 1)), (0, .ref 67), (1, .int x1)]) (st2 := [.int ((m.I 66 73) - 1), .ref 111, .int (m.I 66 79), .ref 117]) (h2 := (sh_rep m.T (sh_u2 (sh_u2 (sh_u2 m.I 112 (Int32.toNatClampNeg (m.I 66 79)) (m.I 66 43)) 113 (Int32.toNatClampNeg (m.I 66 79)) (m.I 66 44)) 114 (Int32.toNatClampNeg (m.I 66 79)) (m.I 66 45)) (sh_u2 m.J 115 (Int32.toNatClampNeg (m.I 66 79)) (m.J 66 46)))) rfl rfl rfl ?_
      exact kk
    obtain ⟨c, e⟩ := sh_gd e
    refine sh_Lk_lift (T := m.T) (I := sh_u2 (sh_u2 (sh_u2 m.I 112 (Int32.toNatClampNeg (m.I 66 79)) (m.I 66 43)) 113 (Int32.toNatClampNeg (m.I 66 79)) (m.I 66 44)) 114 (Int32.toNatClampNeg (m.I 66 79)) (m.I 66 45)) (J := sh_u2 m.J 115 (Int32.toNatClampNeg (m.I 66 79)) (m.J 66 46)) (s := m.s) (pc2 := 114) (lv2 := [(2, .int ((m.I 66 73) - 1)), (0, .ref 67), (1, .int x1)]) (st2 := [.int (m.I 110 (Int32.toNatClampNeg ((m.I 66 73) - 1))), .int (m.I 66 79), .ref 117]) (I2 := sh_u2 (sh_u2 (sh_u2 m.I 112 (Int32.toNatClampNeg (m.I 66 79)) (m.I 66 43)) 113 (Int32.toNatClampNeg (m.I 66 79)) (m.I 66 44)) 114 (Int32.toNatClampNeg (m.I 66 79)) (m.I 66 45)) (J2 := sh_u2 m.J 115 (Int32.toNatClampNeg (m.I 66 79)) (m.J 66 46)) (fun hT v kk => ?_) ?_
    · refine sh_ia1 (x := m.I 110 (Int32.toNatClampNeg ((m.I 66 73) - 1))) (pc2 := 114) rfl (sh_s110 hT.st) (sh_okb1 c) (sh_okb2 c) rfl rfl ?_
      exact kk
    obtain ⟨c, e⟩ := sh_gd e
    refine sh_Lk_lift (T := m.T) (I := sh_u2 (sh_u2 (sh_u2 m.I 112 (Int32.toNatClampNeg (m.I 66 79)) (m.I 66 43)) 113 (Int32.toNatClampNeg (m.I 66 79)) (m.I 66 44)) 114 (Int32.toNatClampNeg (m.I 66 79)) (m.I 66 45)) (J := sh_u2 m.J 115 (Int32.toNatClampNeg (m.I 66 79)) (m.J 66 46)) (s := m.s) (pc2 := 139) (lv2 := [(2, .int ((m.I 66 73) - 1)), (0, .ref 67), (1, .int x1)]) (st2 := [.int ((m.I 66 73) - 1), .ref 111, .ref 78, .int ((m.I 66 73) - 1), .ref 111]) (I2 := sh_u2 (sh_u2 (sh_u2 (sh_u2 (sh_u2 m.I 112 (Int32.toNatClampNeg (m.I 66 79)) (m.I 66 43)) 113 (Int32.toNatClampNeg (m.I 66 79)) (m.I 66 44)) 114 (Int32.toNatClampNeg (m.I 66 79)) (m.I 66 45)) 116 (Int32.toNatClampNeg (m.I 66 79)) (m.I 110 (Int32.toNatClampNeg ((m.I 66 73) - 1)))) 66 79 ((m.I 66 79) + 1)) (J2 := sh_u2 m.J 115 (Int32.toNatClampNeg (m.I 66 79)) (m.J 66 46)) (fun hT v kk => ?_) ?_
    · refine sh_is1 (x := m.I 110 (Int32.toNatClampNeg ((m.I 66 73) - 1))) (i := m.I 66 79) (pc2 := 115) rfl (sh_s116 hT.st) (sh_okb1 c) (sh_okb2 c) rfl ?_
      refine sh_w (i := (.aload_n 0)) (len := 1) (pc2 := 116) (lv2 := [(2, .int ((m.I 66 73) - 1)), (0, .ref 67), (1, .int x1)]) (st2 := [.ref 67]) (h2 := (sh_rep m.T (sh_u2 (sh_u2 (sh_u2 (sh_u2 m.I 112 (Int32.toNatClampNeg (m.I 66 79)) (m.I 66 43)) 113 (Int32.toNatClampNeg (m.I 66 79)) (m.I 66 44)) 114 (Int32.toNatClampNeg (m.I 66 79)) (m.I 66 45)) 116 (Int32.toNatClampNeg (m.I 66 79)) (m.I 110 (Int32.toNatClampNeg ((m.I 66 73) - 1)))) (sh_u2 m.J 115 (Int32.toNatClampNeg (m.I 66 79)) (m.J 66 46)))) rfl rfl rfl ?_
      refine sh_w (i := .dup) (len := 1) (pc2 := 117) (lv2 := [(2, .int ((m.I 66 73) - 1)), (0, .ref 67), (1, .int x1)]) (st2 := [.ref 67, .ref 67]) (h2 := (sh_rep m.T (sh_u2 (sh_u2 (sh_u2 (sh_u2 m.I 112 (Int32.toNatClampNeg (m.I 66 79)) (m.I 66 43)) 113 (Int32.toNatClampNeg (m.I 66 79)) (m.I 66 44)) 114 (Int32.toNatClampNeg (m.I 66 79)) (m.I 66 45)) 116 (Int32.toNatClampNeg (m.I 66 79)) (m.I 110 (Int32.toNatClampNeg ((m.I 66 73) - 1)))) (sh_u2 m.J 115 (Int32.toNatClampNeg (m.I 66 79)) (m.J 66 46)))) rfl rfl rfl ?_
      refine sh_gI1 (len := 3) (x := m.I 66 79) (pc2 := 120) rfl rfl (sh_s66 hT.st) rfl rfl rfl ?_
      refine sh_w (i := (.iconst 1)) (len := 1) (pc2 := 121) (lv2 := [(2, .int ((m.I 66 73) - 1)), (0, .ref 67), (1, .int x1)]) (st2 := [.int 1, .int (m.I 66 79), .ref 67]) (h2 := (sh_rep m.T (sh_u2 (sh_u2 (sh_u2 (sh_u2 m.I 112 (Int32.toNatClampNeg (m.I 66 79)) (m.I 66 43)) 113 (Int32.toNatClampNeg (m.I 66 79)) (m.I 66 44)) 114 (Int32.toNatClampNeg (m.I 66 79)) (m.I 66 45)) 116 (Int32.toNatClampNeg (m.I 66 79)) (m.I 110 (Int32.toNatClampNeg ((m.I 66 73) - 1)))) (sh_u2 m.J 115 (Int32.toNatClampNeg (m.I 66 79)) (m.J 66 46)))) rfl rfl rfl ?_
      refine sh_w (i := .iadd) (len := 1) (pc2 := 122) (lv2 := [(2, .int ((m.I 66 73) - 1)), (0, .ref 67), (1, .int x1)]) (st2 := [.int ((m.I 66 79) + 1), .ref 67]) (h2 := (sh_rep m.T (sh_u2 (sh_u2 (sh_u2 (sh_u2 m.I 112 (Int32.toNatClampNeg (m.I 66 79)) (m.I 66 43)) 113 (Int32.toNatClampNeg (m.I 66 79)) (m.I 66 44)) 114 (Int32.toNatClampNeg (m.I 66 79)) (m.I 66 45)) 116 (Int32.toNatClampNeg (m.I 66 79)) (m.I 110 (Int32.toNatClampNeg ((m.I 66 73) - 1)))) (sh_u2 m.J 115 (Int32.toNatClampNeg (m.I 66 79)) (m.J 66 46)))) rfl rfl rfl ?_
      refine sh_pI1 (x := (m.I 66 79) + 1) (pc2 := 125) rfl rfl (sh_s66 hT.st) rfl rfl rfl rfl ?_
      refine sh_w (i := (.aload_n 0)) (len := 1) (pc2 := 126) (lv2 := [(2, .int ((m.I 66 73) - 1)), (0, .ref 67), (1, .int x1)]) (st2 := [.ref 67]) (h2 := (sh_rep m.T (sh_u2 (sh_u2 (sh_u2 (sh_u2 (sh_u2 m.I 112 (Int32.toNatClampNeg (m.I 66 79)) (m.I 66 43)) 113 (Int32.toNatClampNeg (m.I 66 79)) (m.I 66 44)) 114 (Int32.toNatClampNeg (m.I 66 79)) (m.I 66 45)) 116 (Int32.toNatClampNeg (m.I 66 79)) (m.I 110 (Int32.toNatClampNeg ((m.I 66 73) - 1)))) 66 79 ((m.I 66 79) + 1)) (sh_u2 m.J 115 (Int32.toNatClampNeg (m.I 66 79)) (m.J 66 46)))) rfl rfl rfl ?_
      refine sh_gR1 (len := 3) (x := .ref 111) (pc2 := 129) rfl rfl (sh_s66 hT.st) rfl rfl ?_
      refine sh_w (i := (.iload_n 2)) (len := 1) (pc2 := 130) (lv2 := [(2, .int ((m.I 66 73) - 1)), (0, .ref 67), (1, .int x1)]) (st2 := [.int ((m.I 66 73) - 1), .ref 111]) (h2 := (sh_rep m.T (sh_u2 (sh_u2 (sh_u2 (sh_u2 (sh_u2 m.I 112 (Int32.toNatClampNeg (m.I 66 79)) (m.I 66 43)) 113 (Int32.toNatClampNeg (m.I 66 79)) (m.I 66 44)) 114 (Int32.toNatClampNeg (m.I 66 79)) (m.I 66 45)) 116 (Int32.toNatClampNeg (m.I 66 79)) (m.I 110 (Int32.toNatClampNeg ((m.I 66 73) - 1)))) 66 79 ((m.I 66 79) + 1)) (sh_u2 m.J 115 (Int32.toNatClampNeg (m.I 66 79)) (m.J 66 46)))) rfl rfl rfl ?_
      refine sh_w (i := (.aload_n 0)) (len := 1) (pc2 := 131) (lv2 := [(2, .int ((m.I 66 73) - 1)), (0, .ref 67), (1, .int x1)]) (st2 := [.ref 67, .int ((m.I 66 73) - 1), .ref 111]) (h2 := (sh_rep m.T (sh_u2 (sh_u2 (sh_u2 (sh_u2 (sh_u2 m.I 112 (Int32.toNatClampNeg (m.I 66 79)) (m.I 66 43)) 113 (Int32.toNatClampNeg (m.I 66 79)) (m.I 66 44)) 114 (Int32.toNatClampNeg (m.I 66 79)) (m.I 66 45)) 116 (Int32.toNatClampNeg (m.I 66 79)) (m.I 110 (Int32.toNatClampNeg ((m.I 66 73) - 1)))) 66 79 ((m.I 66 79) + 1)) (sh_u2 m.J 115 (Int32.toNatClampNeg (m.I 66 79)) (m.J 66 46)))) rfl rfl rfl ?_
      refine sh_gR1 (len := 3) (x := .ref 78) (pc2 := 134) rfl rfl (sh_s66 hT.st) rfl rfl ?_
      refine sh_w (i := (.aload_n 0)) (len := 1) (pc2 := 135) (lv2 := [(2, .int ((m.I 66 73) - 1)), (0, .ref 67), (1, .int x1)]) (st2 := [.ref 67, .ref 78, .int ((m.I 66 73) - 1), .ref 111]) (h2 := (sh_rep m.T (sh_u2 (sh_u2 (sh_u2 (sh_u2 (sh_u2 m.I 112 (Int32.toNatClampNeg (m.I 66 79)) (m.I 66 43)) 113 (Int32.toNatClampNeg (m.I 66 79)) (m.I 66 44)) 114 (Int32.toNatClampNeg (m.I 66 79)) (m.I 66 45)) 116 (Int32.toNatClampNeg (m.I 66 79)) (m.I 110 (Int32.toNatClampNeg ((m.I 66 73) - 1)))) 66 79 ((m.I 66 79) + 1)) (sh_u2 m.J 115 (Int32.toNatClampNeg (m.I 66 79)) (m.J 66 46)))) rfl rfl rfl ?_
      refine sh_gR1 (len := 3) (x := .ref 111) (pc2 := 138) rfl rfl (sh_s66 hT.st) rfl rfl ?_
      refine sh_w (i := (.iload_n 2)) (len := 1) (pc2 := 139) (lv2 := [(2, .int ((m.I 66 73) - 1)), (0, .ref 67), (1, .int x1)]) (st2 := [.int ((m.I 66 73) - 1), .ref 111, .ref 78, .int ((m.I 66 73) - 1), .ref 111]) (h2 := (sh_rep m.T (sh_u2 (sh_u2 (sh_u2 (sh_u2 (sh_u2 m.I 112 (Int32.toNatClampNeg (m.I 66 79)) (m.I 66 43)) 113 (Int32.toNatClampNeg (m.I 66 79)) (m.I 66 44)) 114 (Int32.toNatClampNeg (m.I 66 79)) (m.I 66 45)) 116 (Int32.toNatClampNeg (m.I 66 79)) (m.I 110 (Int32.toNatClampNeg ((m.I 66 73) - 1)))) 66 79 ((m.I 66 79) + 1)) (sh_u2 m.J 115 (Int32.toNatClampNeg (m.I 66 79)) (m.J 66 46)))) rfl rfl rfl ?_
      exact kk
    obtain ⟨c, e⟩ := sh_gd e
    refine sh_Lk_lift (T := m.T) (I := sh_u2 (sh_u2 (sh_u2 (sh_u2 (sh_u2 m.I 112 (Int32.toNatClampNeg (m.I 66 79)) (m.I 66 43)) 113 (Int32.toNatClampNeg (m.I 66 79)) (m.I 66 44)) 114 (Int32.toNatClampNeg (m.I 66 79)) (m.I 66 45)) 116 (Int32.toNatClampNeg (m.I 66 79)) (m.I 110 (Int32.toNatClampNeg ((m.I 66 73) - 1)))) 66 79 ((m.I 66 79) + 1)) (J := sh_u2 m.J 115 (Int32.toNatClampNeg (m.I 66 79)) (m.J 66 46)) (s := m.s) (pc2 := 140) (lv2 := [(2, .int ((m.I 66 73) - 1)), (0, .ref 67), (1, .int x1)]) (st2 := [.int (m.I 110 (Int32.toNatClampNeg ((m.I 66 73) - 1))), .ref 78, .int ((m.I 66 73) - 1), .ref 111]) (I2 := sh_u2 (sh_u2 (sh_u2 (sh_u2 (sh_u2 m.I 112 (Int32.toNatClampNeg (m.I 66 79)) (m.I 66 43)) 113 (Int32.toNatClampNeg (m.I 66 79)) (m.I 66 44)) 114 (Int32.toNatClampNeg (m.I 66 79)) (m.I 66 45)) 116 (Int32.toNatClampNeg (m.I 66 79)) (m.I 110 (Int32.toNatClampNeg ((m.I 66 73) - 1)))) 66 79 ((m.I 66 79) + 1)) (J2 := sh_u2 m.J 115 (Int32.toNatClampNeg (m.I 66 79)) (m.J 66 46)) (fun hT v kk => ?_) ?_
    · refine sh_ia1 (x := m.I 110 (Int32.toNatClampNeg ((m.I 66 73) - 1))) (pc2 := 140) rfl (sh_s110 hT.st) (sh_okb1 c) (sh_okb2 c) rfl rfl ?_
      exact kk
    obtain ⟨c, e⟩ := sh_gd e
    refine sh_Lk_lift (T := m.T) (I := sh_u2 (sh_u2 (sh_u2 (sh_u2 (sh_u2 m.I 112 (Int32.toNatClampNeg (m.I 66 79)) (m.I 66 43)) 113 (Int32.toNatClampNeg (m.I 66 79)) (m.I 66 44)) 114 (Int32.toNatClampNeg (m.I 66 79)) (m.I 66 45)) 116 (Int32.toNatClampNeg (m.I 66 79)) (m.I 110 (Int32.toNatClampNeg ((m.I 66 73) - 1)))) 66 79 ((m.I 66 79) + 1)) (J := sh_u2 m.J 115 (Int32.toNatClampNeg (m.I 66 79)) (m.J 66 46)) (s := m.s) (pc2 := 141) (lv2 := [(2, .int ((m.I 66 73) - 1)), (0, .ref 67), (1, .int x1)]) (st2 := [.int (m.I 77 (Int32.toNatClampNeg (m.I 110 (Int32.toNatClampNeg ((m.I 66 73) - 1))))), .int ((m.I 66 73) - 1), .ref 111]) (I2 := sh_u2 (sh_u2 (sh_u2 (sh_u2 (sh_u2 m.I 112 (Int32.toNatClampNeg (m.I 66 79)) (m.I 66 43)) 113 (Int32.toNatClampNeg (m.I 66 79)) (m.I 66 44)) 114 (Int32.toNatClampNeg (m.I 66 79)) (m.I 66 45)) 116 (Int32.toNatClampNeg (m.I 66 79)) (m.I 110 (Int32.toNatClampNeg ((m.I 66 73) - 1)))) 66 79 ((m.I 66 79) + 1)) (J2 := sh_u2 m.J 115 (Int32.toNatClampNeg (m.I 66 79)) (m.J 66 46)) (fun hT v kk => ?_) ?_
    · refine sh_ia1 (x := m.I 77 (Int32.toNatClampNeg (m.I 110 (Int32.toNatClampNeg ((m.I 66 73) - 1))))) (pc2 := 141) rfl (sh_s77 hT.st) (sh_okb1 c) (sh_okb2 c) rfl rfl ?_
      exact kk
    obtain ⟨c, e⟩ := sh_gd e
    refine sh_Lk_lift (T := m.T) (I := sh_u2 (sh_u2 (sh_u2 (sh_u2 (sh_u2 m.I 112 (Int32.toNatClampNeg (m.I 66 79)) (m.I 66 43)) 113 (Int32.toNatClampNeg (m.I 66 79)) (m.I 66 44)) 114 (Int32.toNatClampNeg (m.I 66 79)) (m.I 66 45)) 116 (Int32.toNatClampNeg (m.I 66 79)) (m.I 110 (Int32.toNatClampNeg ((m.I 66 73) - 1)))) 66 79 ((m.I 66 79) + 1)) (J := sh_u2 m.J 115 (Int32.toNatClampNeg (m.I 66 79)) (m.J 66 46)) (s := m.s) (pc2 := 142) (lv2 := [(2, .int ((m.I 66 73) - 1)), (0, .ref 67), (1, .int x1)]) (st2 := []) (I2 := sh_u2 (sh_u2 (sh_u2 (sh_u2 (sh_u2 (sh_u2 m.I 112 (Int32.toNatClampNeg (m.I 66 79)) (m.I 66 43)) 113 (Int32.toNatClampNeg (m.I 66 79)) (m.I 66 44)) 114 (Int32.toNatClampNeg (m.I 66 79)) (m.I 66 45)) 116 (Int32.toNatClampNeg (m.I 66 79)) (m.I 110 (Int32.toNatClampNeg ((m.I 66 73) - 1)))) 66 79 ((m.I 66 79) + 1)) 110 (Int32.toNatClampNeg ((m.I 66 73) - 1)) (m.I 77 (Int32.toNatClampNeg (m.I 110 (Int32.toNatClampNeg ((m.I 66 73) - 1)))))) (J2 := sh_u2 m.J 115 (Int32.toNatClampNeg (m.I 66 79)) (m.J 66 46)) (fun hT v kk => ?_) ?_
    · refine sh_is1 (x := m.I 77 (Int32.toNatClampNeg (m.I 110 (Int32.toNatClampNeg ((m.I 66 73) - 1))))) (i := (m.I 66 73) - 1) (pc2 := 142) rfl (sh_s110 hT.st) (sh_okb1 c) (sh_okb2 c) rfl ?_
      exact kk
    exact sh_Lk_sub (sh_sub_c rfl (sh_sub_c rfl (sh_sub_c rfl (sh_sub_n)))) (sl_311_142 e tg)
theorem sl_314_114s {x2 : Int32} {x3 : Int32} {m m2 : sh_X} {o : Outcome} {z : ((Int32 × sh_X) ⊕ (Bool × sh_X))} (e : sf_314_114s x2 x3 m = some z) (tg : (sh_el (fun q => sh_Lk 314 114 [(0, .ref 67), (2, .int x2), (3, .int q.1)] [] q.2 o m2 10 245) (sh_tZ o m2)) z) : sh_Lk 314 114 [(0, .ref 67), (2, .int x2), (3, .int x3)] [] m o m2 10 245 := by
  unfold sf_314_114s at e
  refine sh_Lk_lift (T := m.T) (I := m.I) (J := m.J) (s := m.s) (pc2 := 119) (lv2 := [(0, .ref 67), (2, .int x2), (3, .int x3)]) (st2 := [.int (m.I 66 45), .int x3]) (I2 := m.I) (J2 := m.J) (fun hT v kk => ?_) ?_
  · refine sh_w (i := (.iload_n 3)) (len := 1) (pc2 := 115) (lv2 := [(0, .ref 67), (2, .int x2), (3, .int x3)]) (st2 := [.int x3]) (h2 := (sh_rep m.T m.I m.J)) rfl rfl rfl ?_
    refine sh_w (i := (.aload_n 0)) (len := 1) (pc2 := 116) (lv2 := [(0, .ref 67), (2, .int x2), (3, .int x3)]) (st2 := [.ref 67, .int x3]) (h2 := (sh_rep m.T m.I m.J)) rfl rfl rfl ?_
    refine sh_gI1 (len := 3) (x := m.I 66 45) (pc2 := 119) rfl rfl (sh_s66 hT.st) rfl rfl rfl ?_
    exact kk
  rcases sh_ite e with ⟨c, e⟩ | ⟨c, e⟩
  · refine sh_Lk_lift (T := m.T) (I := m.I) (J := m.J) (s := m.s) (pc2 := 141) (lv2 := [(0, .ref 67), (2, .int x2), (3, .int x3)]) (st2 := [.int x2, .ref 98, .ref 93, .int ((m.I 66 41) + x3), .ref 93]) (I2 := m.I) (J2 := m.J) (fun hT v kk => ?_) ?_
    · refine sh_jc (c := .ge) (off := (33)) (pc2 := 122) false rfl (sh_Bgef c) rfl ?_
      refine sh_w (i := (.aload_n 0)) (len := 1) (pc2 := 123) (lv2 := [(0, .ref 67), (2, .int x2), (3, .int x3)]) (st2 := [.ref 67]) (h2 := (sh_rep m.T m.I m.J)) rfl rfl rfl ?_
      refine sh_gR1 (len := 3) (x := .ref 93) (pc2 := 126) rfl rfl (sh_s66 hT.st) rfl rfl ?_
      refine sh_w (i := (.aload_n 0)) (len := 1) (pc2 := 127) (lv2 := [(0, .ref 67), (2, .int x2), (3, .int x3)]) (st2 := [.ref 67, .ref 93]) (h2 := (sh_rep m.T m.I m.J)) rfl rfl rfl ?_
      refine sh_gI1 (len := 3) (x := m.I 66 41) (pc2 := 130) rfl rfl (sh_s66 hT.st) rfl rfl rfl ?_
      refine sh_w (i := (.iload_n 3)) (len := 1) (pc2 := 131) (lv2 := [(0, .ref 67), (2, .int x2), (3, .int x3)]) (st2 := [.int x3, .int (m.I 66 41), .ref 93]) (h2 := (sh_rep m.T m.I m.J)) rfl rfl rfl ?_
      refine sh_w (i := .iadd) (len := 1) (pc2 := 132) (lv2 := [(0, .ref 67), (2, .int x2), (3, .int x3)]) (st2 := [.int ((m.I 66 41) + x3), .ref 93]) (h2 := (sh_rep m.T m.I m.J)) rfl rfl rfl ?_
      refine sh_w (i := (.aload_n 0)) (len := 1) (pc2 := 133) (lv2 := [(0, .ref 67), (2, .int x2), (3, .int x3)]) (st2 := [.ref 67, .int ((m.I 66 41) + x3), .ref 93]) (h2 := (sh_rep m.T m.I m.J)) rfl rfl rfl ?_
      refine sh_gR1 (len := 3) (x := .ref 93) (pc2 := 136) rfl rfl (sh_s66 hT.st) rfl rfl ?_
      refine sh_w (i := (.aload_n 0)) (len := 1) (pc2 := 137) (lv2 := [(0, .ref 67), (2, .int x2), (3, .int x3)]) (st2 := [.ref 67, .ref 93, .int ((m.I 66 41) + x3), .ref 93]) (h2 := (sh_rep m.T m.I m.J)) rfl rfl rfl ?_
      refine sh_gR1 (len := 3) (x := .ref 98) (pc2 := 140) rfl rfl (sh_s66 hT.st) rfl rfl ?_
      refine sh_w (i := (.iload_n 2)) (len := 1) (pc2 := 141) (lv2 := [(0, .ref 67), (2, .int x2), (3, .int x3)]) (st2 := [.int x2, .ref 98, .ref 93, .int ((m.I 66 41) + x3), .ref 93]) (h2 := (sh_rep m.T m.I m.J)) rfl rfl rfl ?_
      exact kk
    obtain ⟨c, e⟩ := sh_gd e
    refine sh_Lk_lift (T := m.T) (I := m.I) (J := m.J) (s := m.s) (pc2 := 144) (lv2 := [(0, .ref 67), (2, .int x2), (3, .int x3)]) (st2 := [.int ((m.I 97 (Int32.toNatClampNeg x2)) + x3), .ref 93, .int ((m.I 66 41) + x3), .ref 93]) (I2 := m.I) (J2 := m.J) (fun hT v kk => ?_) ?_
    · refine sh_ia1 (x := m.I 97 (Int32.toNatClampNeg x2)) (pc2 := 142) rfl (sh_s97 hT.st) (sh_okb1 c) (sh_okb2 c) rfl rfl ?_
      refine sh_w (i := (.iload_n 3)) (len := 1) (pc2 := 143) (lv2 := [(0, .ref 67), (2, .int x2), (3, .int x3)]) (st2 := [.int x3, .int (m.I 97 (Int32.toNatClampNeg x2)), .ref 93, .int ((m.I 66 41) + x3), .ref 93]) (h2 := (sh_rep m.T m.I m.J)) rfl rfl rfl ?_
      refine sh_w (i := .iadd) (len := 1) (pc2 := 144) (lv2 := [(0, .ref 67), (2, .int x2), (3, .int x3)]) (st2 := [.int ((m.I 97 (Int32.toNatClampNeg x2)) + x3), .ref 93, .int ((m.I 66 41) + x3), .ref 93]) (h2 := (sh_rep m.T m.I m.J)) rfl rfl rfl ?_
      exact kk
    obtain ⟨c, e⟩ := sh_gd e
    refine sh_Lk_lift (T := m.T) (I := m.I) (J := m.J) (s := m.s) (pc2 := 145) (lv2 := [(0, .ref 67), (2, .int x2), (3, .int x3)]) (st2 := [.long (m.J 92 (Int32.toNatClampNeg ((m.I 97 (Int32.toNatClampNeg x2)) + x3))), .int ((m.I 66 41) + x3), .ref 93]) (I2 := m.I) (J2 := m.J) (fun hT v kk => ?_) ?_
    · refine sh_la1 (x := m.J 92 (Int32.toNatClampNeg ((m.I 97 (Int32.toNatClampNeg x2)) + x3))) (pc2 := 145) rfl (sh_s92 hT.st) (sh_okb1 c) (sh_okb2 c) rfl rfl ?_
      exact kk
    obtain ⟨c, e⟩ := sh_gd e
    refine sh_Lk_lift (T := m.T) (I := m.I) (J := m.J) (s := m.s) (pc2 := 114) (lv2 := [(3, .int (x3 + 1)), (0, .ref 67), (2, .int x2)]) (st2 := []) (I2 := m.I) (J2 := sh_u2 m.J 92 (Int32.toNatClampNeg ((m.I 66 41) + x3)) (m.J 92 (Int32.toNatClampNeg ((m.I 97 (Int32.toNatClampNeg x2)) + x3)))) (fun hT v kk => ?_) ?_
    · refine sh_ls1 (x := m.J 92 (Int32.toNatClampNeg ((m.I 97 (Int32.toNatClampNeg x2)) + x3))) (i := (m.I 66 41) + x3) (pc2 := 146) rfl (sh_s92 hT.st) (sh_okb1 c) (sh_okb2 c) rfl ?_
      refine sh_w (i := (.iinc 3 1)) (len := 3) (pc2 := 149) (lv2 := [(3, .int (x3 + 1)), (0, .ref 67), (2, .int x2)]) (st2 := []) (h2 := (sh_rep m.T m.I (sh_u2 m.J 92 (Int32.toNatClampNeg ((m.I 66 41) + x3)) (m.J 92 (Int32.toNatClampNeg ((m.I 97 (Int32.toNatClampNeg x2)) + x3)))))) rfl rfl rfl ?_
      refine sh_w (i := (.goto (-35))) (len := 3) (pc2 := 114) (lv2 := [(3, .int (x3 + 1)), (0, .ref 67), (2, .int x2)]) (st2 := []) (h2 := (sh_rep m.T m.I (sh_u2 m.J 92 (Int32.toNatClampNeg ((m.I 66 41) + x3)) (m.J 92 (Int32.toNatClampNeg ((m.I 97 (Int32.toNatClampNeg x2)) + x3)))))) rfl rfl rfl ?_
      exact kk
    obtain rfl := Option.some.inj e
    exact sh_Lk_sub (sh_sub_c rfl (sh_sub_c rfl (sh_sub_c rfl (sh_sub_n)))) tg
  · refine sh_Lk_lift (T := m.T) (I := m.I) (J := m.J) (s := m.s) (pc2 := 166) (lv2 := [(0, .ref 67), (2, .int x2), (3, .int x3)]) (st2 := [.int 1]) (I2 := sh_u2 m.I 66 41 ((m.I 66 41) + (m.I 66 45))) (J2 := m.J) (fun hT v kk => ?_) ?_
    · refine sh_jc (c := .ge) (off := (33)) (pc2 := 152) true rfl (sh_Bget c) rfl ?_
      refine sh_w (i := (.aload_n 0)) (len := 1) (pc2 := 153) (lv2 := [(0, .ref 67), (2, .int x2), (3, .int x3)]) (st2 := [.ref 67]) (h2 := (sh_rep m.T m.I m.J)) rfl rfl rfl ?_
      refine sh_w (i := .dup) (len := 1) (pc2 := 154) (lv2 := [(0, .ref 67), (2, .int x2), (3, .int x3)]) (st2 := [.ref 67, .ref 67]) (h2 := (sh_rep m.T m.I m.J)) rfl rfl rfl ?_
      refine sh_gI1 (len := 3) (x := m.I 66 41) (pc2 := 157) rfl rfl (sh_s66 hT.st) rfl rfl rfl ?_
      refine sh_w (i := (.aload_n 0)) (len := 1) (pc2 := 158) (lv2 := [(0, .ref 67), (2, .int x2), (3, .int x3)]) (st2 := [.ref 67, .int (m.I 66 41), .ref 67]) (h2 := (sh_rep m.T m.I m.J)) rfl rfl rfl ?_
      refine sh_gI1 (len := 3) (x := m.I 66 45) (pc2 := 161) rfl rfl (sh_s66 hT.st) rfl rfl rfl ?_
      refine sh_w (i := .iadd) (len := 1) (pc2 := 162) (lv2 := [(0, .ref 67), (2, .int x2), (3, .int x3)]) (st2 := [.int ((m.I 66 41) + (m.I 66 45)), .ref 67]) (h2 := (sh_rep m.T m.I m.J)) rfl rfl rfl ?_
      refine sh_pI1 (x := (m.I 66 41) + (m.I 66 45)) (pc2 := 165) rfl rfl (sh_s66 hT.st) rfl rfl rfl rfl ?_
      refine sh_w (i := (.iconst 1)) (len := 1) (pc2 := 166) (lv2 := [(0, .ref 67), (2, .int x2), (3, .int x3)]) (st2 := [.int 1]) (h2 := (sh_rep m.T (sh_u2 m.I 66 41 ((m.I 66 41) + (m.I 66 45))) m.J)) rfl rfl rfl ?_
      exact kk
    obtain rfl := Option.some.inj e
    obtain ⟨rfl, rfl⟩ := tg
    exact sh_Lk_ret (i := .ireturn) rfl rfl rfl (Nat.le_of_ble_eq_true rfl) (Nat.le_of_ble_eq_true rfl)
theorem sl_314_114 {x2 : Int32} {x3 : Int32} {m m2 : sh_X} {o : Outcome} {z : (Bool × sh_X)} (e : sf_314_114 x2 x3 m = some z) (tg : (sh_tZ o m2) z) : sh_Lk 314 114 [(0, .ref 67), (2, .int x2), (3, .int x3)] [] m o m2 10 245 := by
  unfold sf_314_114 at e
  exact sh_while_lk (P := fun q => sh_Lk 314 114 [(0, .ref 67), (2, .int x2), (3, .int q.1)] [] q.2 o m2 10 245) (Q := (sh_tZ o m2)) (fun q z e tg => sl_314_114s (x2 := x2) (x3 := q.1) (m := q.2) e tg) (s := (x3, m)) e tg
theorem sl_314_91 {x2 : Int32} {y1 : Int64} {m m2 : sh_X} {o : Outcome} {z : (Bool × sh_X)} (e : sf_314_91 x2 y1 m = some z) (tg : (sh_tZ o m2) z) : sh_Lk 314 91 [(0, .ref 67), (2, .int x2)] [.long y1, .ref 67] m o m2 10 245 := by
  unfold sf_314_91 at e
  refine sh_Lk_lift (T := m.T) (I := m.I) (J := m.J) (s := m.s) (pc2 := 98) (lv2 := [(0, .ref 67), (2, .int x2)]) (st2 := [.int (m.I 66 45)]) (I2 := m.I) (J2 := sh_u2 m.J 66 46 y1) (fun hT v kk => ?_) ?_
  · refine sh_pJ1 (x := y1) (pc2 := 94) rfl rfl (sh_s66 hT.st) rfl rfl rfl rfl ?_
    refine sh_w (i := (.aload_n 0)) (len := 1) (pc2 := 95) (lv2 := [(0, .ref 67), (2, .int x2)]) (st2 := [.ref 67]) (h2 := (sh_rep m.T m.I (sh_u2 m.J 66 46 y1))) rfl rfl rfl ?_
    refine sh_gI1 (len := 3) (x := m.I 66 45) (pc2 := 98) rfl rfl (sh_s66 hT.st) rfl rfl rfl ?_
    exact kk
  rcases sh_ite e with ⟨c, e⟩ | ⟨c, e⟩
  · refine sh_Lk_lift (T := m.T) (I := m.I) (J := sh_u2 m.J 66 46 y1) (s := m.s) (pc2 := 102) (lv2 := [(0, .ref 67), (2, .int x2)]) (st2 := [.int 1]) (I2 := m.I) (J2 := sh_u2 m.J 66 46 y1) (fun hT v kk => ?_) ?_
    · refine sh_j0 (c := .ne) (off := (5)) (pc2 := 101) false rfl (sh_Bnef c) rfl ?_
      refine sh_w (i := (.iconst 1)) (len := 1) (pc2 := 102) (lv2 := [(0, .ref 67), (2, .int x2)]) (st2 := [.int 1]) (h2 := (sh_rep m.T m.I (sh_u2 m.J 66 46 y1))) rfl rfl rfl ?_
      exact kk
    obtain rfl := Option.some.inj e
    obtain ⟨rfl, rfl⟩ := tg
    exact sh_Lk_ret (i := .ireturn) rfl rfl rfl (Nat.le_of_ble_eq_true rfl) (Nat.le_of_ble_eq_true rfl)
  · refine sh_Lk_lift (T := m.T) (I := m.I) (J := sh_u2 m.J 66 46 y1) (s := m.s) (pc2 := 114) (lv2 := [(3, .int 0), (0, .ref 67), (2, .int x2)]) (st2 := []) (I2 := m.I) (J2 := sh_u2 (sh_u2 m.J 66 46 y1) 66 46 (Int32.toInt64 (m.I 66 41))) (fun hT v kk => ?_) ?_
    · refine sh_j0 (c := .ne) (off := (5)) (pc2 := 103) true rfl (sh_Bnet c) rfl ?_
      refine sh_w (i := (.aload_n 0)) (len := 1) (pc2 := 104) (lv2 := [(0, .ref 67), (2, .int x2)]) (st2 := [.ref 67]) (h2 := (sh_rep m.T m.I (sh_u2 m.J 66 46 y1))) rfl rfl rfl ?_
      refine sh_w (i := (.aload_n 0)) (len := 1) (pc2 := 105) (lv2 := [(0, .ref 67), (2, .int x2)]) (st2 := [.ref 67, .ref 67]) (h2 := (sh_rep m.T m.I (sh_u2 m.J 66 46 y1))) rfl rfl rfl ?_
      refine sh_gI1 (len := 3) (x := m.I 66 41) (pc2 := 108) rfl rfl (sh_s66 hT.st) rfl rfl rfl ?_
      refine sh_w (i := .i2l) (len := 1) (pc2 := 109) (lv2 := [(0, .ref 67), (2, .int x2)]) (st2 := [.long (Int32.toInt64 (m.I 66 41)), .ref 67]) (h2 := (sh_rep m.T m.I (sh_u2 m.J 66 46 y1))) rfl rfl rfl ?_
      refine sh_pJ1 (x := Int32.toInt64 (m.I 66 41)) (pc2 := 112) rfl rfl (sh_s66 hT.st) rfl rfl rfl rfl ?_
      refine sh_w (i := (.iconst 0)) (len := 1) (pc2 := 113) (lv2 := [(0, .ref 67), (2, .int x2)]) (st2 := [.int 0]) (h2 := (sh_rep m.T m.I (sh_u2 (sh_u2 m.J 66 46 y1) 66 46 (Int32.toInt64 (m.I 66 41))))) rfl rfl rfl ?_
      refine sh_w (i := (.istore_n 3)) (len := 1) (pc2 := 114) (lv2 := [(3, .int 0), (0, .ref 67), (2, .int x2)]) (st2 := []) (h2 := (sh_rep m.T m.I (sh_u2 (sh_u2 m.J 66 46 y1) 66 46 (Int32.toInt64 (m.I 66 41))))) rfl rfl rfl ?_
      exact kk
    exact sh_Lk_sub (sh_sub_c rfl (sh_sub_c rfl (sh_sub_c rfl (sh_sub_n)))) (sl_314_114 e tg)
theorem sl_314 {x1 : Int32} {m m2 : sh_X} {o : Outcome} {z : (Bool × sh_X)} (e : sf_314 x1 m = some z) (tg : (sh_tZ o m2) z) : sh_Lk 314 0 [(0, .ref 67), (1, .int x1)] [] m o m2 10 245 := by
  unfold sf_314 at e
  refine sh_Lk_lift (T := m.T) (I := m.I) (J := m.J) (s := m.s) (pc2 := 6) (lv2 := [(0, .ref 67), (1, .int x1)]) (st2 := [.int x1, .ref 74, .ref 67]) (I2 := m.I) (J2 := m.J) (fun hT v kk => ?_) ?_
  · refine sh_w (i := (.aload_n 0)) (len := 1) (pc2 := 1) (lv2 := [(0, .ref 67), (1, .int x1)]) (st2 := [.ref 67]) (h2 := (sh_rep m.T m.I m.J)) rfl rfl rfl ?_
    refine sh_w (i := (.aload_n 0)) (len := 1) (pc2 := 2) (lv2 := [(0, .ref 67), (1, .int x1)]) (st2 := [.ref 67, .ref 67]) (h2 := (sh_rep m.T m.I m.J)) rfl rfl rfl ?_
    refine sh_gR1 (len := 3) (x := .ref 74) (pc2 := 5) rfl rfl (sh_s66 hT.st) rfl rfl ?_
    refine sh_w (i := (.iload_n 1)) (len := 1) (pc2 := 6) (lv2 := [(0, .ref 67), (1, .int x1)]) (st2 := [.int x1, .ref 74, .ref 67]) (h2 := (sh_rep m.T m.I m.J)) rfl rfl rfl ?_
    exact kk
  obtain ⟨c, e⟩ := sh_gd e
  refine sh_Lk_lift (T := m.T) (I := m.I) (J := m.J) (s := m.s) (pc2 := 7) (lv2 := [(0, .ref 67), (1, .int x1)]) (st2 := [.int (m.I 73 (Int32.toNatClampNeg x1)), .ref 67]) (I2 := m.I) (J2 := m.J) (fun hT v kk => ?_) ?_
  · refine sh_ia1 (x := m.I 73 (Int32.toNatClampNeg x1)) (pc2 := 7) rfl (sh_s73 hT.st) (sh_okb1 c) (sh_okb2 c) rfl rfl ?_
    exact kk
  obtain ⟨r1, e1, e⟩ := sh_bc_e e
  refine sh_Lk_cV (r := (some (.int r1))) (st2 := [.int r1]) (pc2 := 10) (k2 := 284) (a := 66) (as := [.ref 67, .int (m.I 73 (Int32.toNatClampNeg x1))]) (rest := []) rfl rfl rfl (fun hT => (sh_s66 hT.st)) rfl rfl ⟨Nat.le_of_ble_eq_true rfl, Nat.le_of_ble_eq_true rfl⟩ (sl_284 e1 ⟨rfl, rfl⟩) rfl rfl (Nat.le_of_ble_eq_true rfl) (Nat.le_of_ble_eq_true rfl) ?_
  refine sh_Lk_lift (T := m.T) (I := m.I) (J := m.J) (s := m.s) (pc2 := 12) (lv2 := [(2, .int r1), (0, .ref 67), (1, .int x1)]) (st2 := [.int r1]) (I2 := m.I) (J2 := m.J) (fun hT v kk => ?_) ?_
  · refine sh_w (i := (.istore_n 2)) (len := 1) (pc2 := 11) (lv2 := [(2, .int r1), (0, .ref 67), (1, .int x1)]) (st2 := []) (h2 := (sh_rep m.T m.I m.J)) rfl rfl rfl ?_
    refine sh_w (i := (.iload_n 2)) (len := 1) (pc2 := 12) (lv2 := [(2, .int r1), (0, .ref 67), (1, .int x1)]) (st2 := [.int r1]) (h2 := (sh_rep m.T m.I m.J)) rfl rfl rfl ?_
    exact kk
  rcases sh_ite e with ⟨c, e⟩ | ⟨c, e⟩
  · refine sh_Lk_lift (T := m.T) (I := m.I) (J := m.J) (s := m.s) (pc2 := 26) (lv2 := [(2, .int r1), (0, .ref 67), (1, .int x1)]) (st2 := [.int x1, .ref 74, .ref 70, .int 3, .ref 67]) (I2 := m.I) (J2 := m.J) (fun hT v kk => ?_) ?_
    · refine sh_j0 (c := .ge) (off := (20)) (pc2 := 15) false rfl (sh_Bgef c) rfl ?_
      refine sh_w (i := (.aload_n 0)) (len := 1) (pc2 := 16) (lv2 := [(2, .int r1), (0, .ref 67), (1, .int x1)]) (st2 := [.ref 67]) (h2 := (sh_rep m.T m.I m.J)) rfl rfl rfl ?_
      refine sh_w (i := (.iconst 3)) (len := 1) (pc2 := 17) (lv2 := [(2, .int r1), (0, .ref 67), (1, .int x1)]) (st2 := [.int 3, .ref 67]) (h2 := (sh_rep m.T m.I m.J)) rfl rfl rfl ?_
      refine sh_w (i := (.aload_n 0)) (len := 1) (pc2 := 18) (lv2 := [(2, .int r1), (0, .ref 67), (1, .int x1)]) (st2 := [.ref 67, .int 3, .ref 67]) (h2 := (sh_rep m.T m.I m.J)) rfl rfl rfl ?_
      refine sh_gR1 (len := 3) (x := .ref 70) (pc2 := 21) rfl rfl (sh_s66 hT.st) rfl rfl ?_
      refine sh_w (i := (.aload_n 0)) (len := 1) (pc2 := 22) (lv2 := [(2, .int r1), (0, .ref 67), (1, .int x1)]) (st2 := [.ref 67, .ref 70, .int 3, .ref 67]) (h2 := (sh_rep m.T m.I m.J)) rfl rfl rfl ?_
      refine sh_gR1 (len := 3) (x := .ref 74) (pc2 := 25) rfl rfl (sh_s66 hT.st) rfl rfl ?_
      refine sh_w (i := (.iload_n 1)) (len := 1) (pc2 := 26) (lv2 := [(2, .int r1), (0, .ref 67), (1, .int x1)]) (st2 := [.int x1, .ref 74, .ref 70, .int 3, .ref 67]) (h2 := (sh_rep m.T m.I m.J)) rfl rfl rfl ?_
      exact kk
    obtain ⟨c, e⟩ := sh_gd e
    refine sh_Lk_lift (T := m.T) (I := m.I) (J := m.J) (s := m.s) (pc2 := 27) (lv2 := [(2, .int r1), (0, .ref 67), (1, .int x1)]) (st2 := [.int (m.I 73 (Int32.toNatClampNeg x1)), .ref 70, .int 3, .ref 67]) (I2 := m.I) (J2 := m.J) (fun hT v kk => ?_) ?_
    · refine sh_ia1 (x := m.I 73 (Int32.toNatClampNeg x1)) (pc2 := 27) rfl (sh_s73 hT.st) (sh_okb1 c) (sh_okb2 c) rfl rfl ?_
      exact kk
    obtain ⟨c, e⟩ := sh_gd e
    refine sh_Lk_lift (T := m.T) (I := m.I) (J := m.J) (s := m.s) (pc2 := 28) (lv2 := [(2, .int r1), (0, .ref 67), (1, .int x1)]) (st2 := [.int (m.I 69 (Int32.toNatClampNeg (m.I 73 (Int32.toNatClampNeg x1)))), .int 3, .ref 67]) (I2 := m.I) (J2 := m.J) (fun hT v kk => ?_) ?_
    · refine sh_ia1 (x := m.I 69 (Int32.toNatClampNeg (m.I 73 (Int32.toNatClampNeg x1)))) (pc2 := 28) rfl (sh_s69 hT.st) (sh_okb1 c) (sh_okb2 c) rfl rfl ?_
      exact kk
    obtain ⟨r2, m12, e2, e⟩ := sh_bn_e e
    refine sh_Lk_cV (r := (some (.int (sh_b2 r2)))) (st2 := [.int (sh_b2 r2)]) (pc2 := 31) (k2 := 252) (a := 66) (as := [.ref 67, .int 3, .int (m.I 69 (Int32.toNatClampNeg (m.I 73 (Int32.toNatClampNeg x1))))]) (rest := []) rfl rfl rfl (fun hT => (sh_s66 hT.st)) rfl rfl ⟨Nat.le_of_ble_eq_true rfl, Nat.le_of_ble_eq_true rfl⟩ (sl_252 e2 ⟨rfl, rfl⟩) rfl rfl (Nat.le_of_ble_eq_true rfl) (Nat.le_of_ble_eq_true rfl) ?_
    obtain rfl := Option.some.inj e
    obtain ⟨rfl, rfl⟩ := tg
    exact sh_Lk_ret (i := .ireturn) rfl rfl (sh_rb rfl _) (Nat.le_of_ble_eq_true rfl) (Nat.le_of_ble_eq_true rfl)
  · refine sh_Lk_lift (T := m.T) (I := m.I) (J := m.J) (s := m.s) (pc2 := 38) (lv2 := [(2, .int r1), (0, .ref 67), (1, .int x1)]) (st2 := [.int r1, .ref 95, .ref 67]) (I2 := m.I) (J2 := m.J) (fun hT v kk => ?_) ?_
    · refine sh_j0 (c := .ge) (off := (20)) (pc2 := 32) true rfl (sh_Bget c) rfl ?_
      refine sh_w (i := (.aload_n 0)) (len := 1) (pc2 := 33) (lv2 := [(2, .int r1), (0, .ref 67), (1, .int x1)]) (st2 := [.ref 67]) (h2 := (sh_rep m.T m.I m.J)) rfl rfl rfl ?_
      refine sh_w (i := (.aload_n 0)) (len := 1) (pc2 := 34) (lv2 := [(2, .int r1), (0, .ref 67), (1, .int x1)]) (st2 := [.ref 67, .ref 67]) (h2 := (sh_rep m.T m.I m.J)) rfl rfl rfl ?_
      refine sh_gR1 (len := 3) (x := .ref 95) (pc2 := 37) rfl rfl (sh_s66 hT.st) rfl rfl ?_
      refine sh_w (i := (.iload_n 2)) (len := 1) (pc2 := 38) (lv2 := [(2, .int r1), (0, .ref 67), (1, .int x1)]) (st2 := [.int r1, .ref 95, .ref 67]) (h2 := (sh_rep m.T m.I m.J)) rfl rfl rfl ?_
      exact kk
    obtain ⟨c, e⟩ := sh_gd e
    refine sh_Lk_lift (T := m.T) (I := m.I) (J := m.J) (s := m.s) (pc2 := 48) (lv2 := [(2, .int r1), (0, .ref 67), (1, .int x1)]) (st2 := [.int r1, .ref 96, .ref 67]) (I2 := sh_u2 m.I 66 43 (m.I 94 (Int32.toNatClampNeg r1))) (J2 := m.J) (fun hT v kk => ?_) ?_
    · refine sh_ia1 (x := m.I 94 (Int32.toNatClampNeg r1)) (pc2 := 39) rfl (sh_s94 hT.st) (sh_okb1 c) (sh_okb2 c) rfl rfl ?_
      refine sh_pI1 (x := m.I 94 (Int32.toNatClampNeg r1)) (pc2 := 42) rfl rfl (sh_s66 hT.st) rfl rfl rfl rfl ?_
      refine sh_w (i := (.aload_n 0)) (len := 1) (pc2 := 43) (lv2 := [(2, .int r1), (0, .ref 67), (1, .int x1)]) (st2 := [.ref 67]) (h2 := (sh_rep m.T (sh_u2 m.I 66 43 (m.I 94 (Int32.toNatClampNeg r1))) m.J)) rfl rfl rfl ?_
      refine sh_w (i := (.aload_n 0)) (len := 1) (pc2 := 44) (lv2 := [(2, .int r1), (0, .ref 67), (1, .int x1)]) (st2 := [.ref 67, .ref 67]) (h2 := (sh_rep m.T (sh_u2 m.I 66 43 (m.I 94 (Int32.toNatClampNeg r1))) m.J)) rfl rfl rfl ?_
      refine sh_gR1 (len := 3) (x := .ref 96) (pc2 := 47) rfl rfl (sh_s66 hT.st) rfl rfl ?_
      refine sh_w (i := (.iload_n 2)) (len := 1) (pc2 := 48) (lv2 := [(2, .int r1), (0, .ref 67), (1, .int x1)]) (st2 := [.int r1, .ref 96, .ref 67]) (h2 := (sh_rep m.T (sh_u2 m.I 66 43 (m.I 94 (Int32.toNatClampNeg r1))) m.J)) rfl rfl rfl ?_
      exact kk
    obtain ⟨c, e⟩ := sh_gd e
    refine sh_Lk_lift (T := m.T) (I := sh_u2 m.I 66 43 (m.I 94 (Int32.toNatClampNeg r1))) (J := m.J) (s := m.s) (pc2 := 58) (lv2 := [(2, .int r1), (0, .ref 67), (1, .int x1)]) (st2 := [.int r1, .ref 97, .ref 67]) (I2 := sh_u2 (sh_u2 m.I 66 43 (m.I 94 (Int32.toNatClampNeg r1))) 66 44 (m.I 95 (Int32.toNatClampNeg r1))) (J2 := m.J) (fun hT v kk => ?_) ?_
    · refine sh_ia1 (x := m.I 95 (Int32.toNatClampNeg r1)) (pc2 := 49) rfl (sh_s95 hT.st) (sh_okb1 c) (sh_okb2 c) rfl rfl ?_
      refine sh_pI1 (x := m.I 95 (Int32.toNatClampNeg r1)) (pc2 := 52) rfl rfl (sh_s66 hT.st) rfl rfl rfl rfl ?_
      refine sh_w (i := (.aload_n 0)) (len := 1) (pc2 := 53) (lv2 := [(2, .int r1), (0, .ref 67), (1, .int x1)]) (st2 := [.ref 67]) (h2 := (sh_rep m.T (sh_u2 (sh_u2 m.I 66 43 (m.I 94 (Int32.toNatClampNeg r1))) 66 44 (m.I 95 (Int32.toNatClampNeg r1))) m.J)) rfl rfl rfl ?_
      refine sh_w (i := (.aload_n 0)) (len := 1) (pc2 := 54) (lv2 := [(2, .int r1), (0, .ref 67), (1, .int x1)]) (st2 := [.ref 67, .ref 67]) (h2 := (sh_rep m.T (sh_u2 (sh_u2 m.I 66 43 (m.I 94 (Int32.toNatClampNeg r1))) 66 44 (m.I 95 (Int32.toNatClampNeg r1))) m.J)) rfl rfl rfl ?_
      refine sh_gR1 (len := 3) (x := .ref 97) (pc2 := 57) rfl rfl (sh_s66 hT.st) rfl rfl ?_
      refine sh_w (i := (.iload_n 2)) (len := 1) (pc2 := 58) (lv2 := [(2, .int r1), (0, .ref 67), (1, .int x1)]) (st2 := [.int r1, .ref 97, .ref 67]) (h2 := (sh_rep m.T (sh_u2 (sh_u2 m.I 66 43 (m.I 94 (Int32.toNatClampNeg r1))) 66 44 (m.I 95 (Int32.toNatClampNeg r1))) m.J)) rfl rfl rfl ?_
      exact kk
    obtain ⟨c, e⟩ := sh_gd e
    refine sh_Lk_lift (T := m.T) (I := sh_u2 (sh_u2 m.I 66 43 (m.I 94 (Int32.toNatClampNeg r1))) 66 44 (m.I 95 (Int32.toNatClampNeg r1))) (J := m.J) (s := m.s) (pc2 := 68) (lv2 := [(2, .int r1), (0, .ref 67), (1, .int x1)]) (st2 := [.int 3, .int (m.I 94 (Int32.toNatClampNeg r1)), .ref 67]) (I2 := sh_u2 (sh_u2 (sh_u2 m.I 66 43 (m.I 94 (Int32.toNatClampNeg r1))) 66 44 (m.I 95 (Int32.toNatClampNeg r1))) 66 45 (m.I 96 (Int32.toNatClampNeg r1))) (J2 := m.J) (fun hT v kk => ?_) ?_
    · refine sh_ia1 (x := m.I 96 (Int32.toNatClampNeg r1)) (pc2 := 59) rfl (sh_s96 hT.st) (sh_okb1 c) (sh_okb2 c) rfl rfl ?_
      refine sh_pI1 (x := m.I 96 (Int32.toNatClampNeg r1)) (pc2 := 62) rfl rfl (sh_s66 hT.st) rfl rfl rfl rfl ?_
      refine sh_w (i := (.aload_n 0)) (len := 1) (pc2 := 63) (lv2 := [(2, .int r1), (0, .ref 67), (1, .int x1)]) (st2 := [.ref 67]) (h2 := (sh_rep m.T (sh_u2 (sh_u2 (sh_u2 m.I 66 43 (m.I 94 (Int32.toNatClampNeg r1))) 66 44 (m.I 95 (Int32.toNatClampNeg r1))) 66 45 (m.I 96 (Int32.toNatClampNeg r1))) m.J)) rfl rfl rfl ?_
      refine sh_w (i := (.aload_n 0)) (len := 1) (pc2 := 64) (lv2 := [(2, .int r1), (0, .ref 67), (1, .int x1)]) (st2 := [.ref 67, .ref 67]) (h2 := (sh_rep m.T (sh_u2 (sh_u2 (sh_u2 m.I 66 43 (m.I 94 (Int32.toNatClampNeg r1))) 66 44 (m.I 95 (Int32.toNatClampNeg r1))) 66 45 (m.I 96 (Int32.toNatClampNeg r1))) m.J)) rfl rfl rfl ?_
      refine sh_gI1 (len := 3) (x := m.I 94 (Int32.toNatClampNeg r1)) (pc2 := 67) rfl rfl (sh_s66 hT.st) rfl rfl rfl ?_
      refine sh_w (i := (.iconst 3)) (len := 1) (pc2 := 68) (lv2 := [(2, .int r1), (0, .ref 67), (1, .int x1)]) (st2 := [.int 3, .int (m.I 94 (Int32.toNatClampNeg r1)), .ref 67]) (h2 := (sh_rep m.T (sh_u2 (sh_u2 (sh_u2 m.I 66 43 (m.I 94 (Int32.toNatClampNeg r1))) 66 44 (m.I 95 (Int32.toNatClampNeg r1))) 66 45 (m.I 96 (Int32.toNatClampNeg r1))) m.J)) rfl rfl rfl ?_
      exact kk
    rcases sh_ite e with ⟨c, e⟩ | ⟨c, e⟩
    · refine sh_Lk_lift (T := m.T) (I := sh_u2 (sh_u2 (sh_u2 m.I 66 43 (m.I 94 (Int32.toNatClampNeg r1))) 66 44 (m.I 95 (Int32.toNatClampNeg r1))) 66 45 (m.I 96 (Int32.toNatClampNeg r1))) (J := m.J) (s := m.s) (pc2 := 76) (lv2 := [(2, .int r1), (0, .ref 67), (1, .int x1)]) (st2 := [.int r1, .ref 99, .ref 67]) (I2 := sh_u2 (sh_u2 (sh_u2 m.I 66 43 (m.I 94 (Int32.toNatClampNeg r1))) 66 44 (m.I 95 (Int32.toNatClampNeg r1))) 66 45 (m.I 96 (Int32.toNatClampNeg r1))) (J2 := m.J) (fun hT v kk => ?_) ?_
      · refine sh_jc (c := .ne) (off := (12)) (pc2 := 71) false rfl (sh_Bnef c) rfl ?_
        refine sh_w (i := (.aload_n 0)) (len := 1) (pc2 := 72) (lv2 := [(2, .int r1), (0, .ref 67), (1, .int x1)]) (st2 := [.ref 67, .ref 67]) (h2 := (sh_rep m.T (sh_u2 (sh_u2 (sh_u2 m.I 66 43 (m.I 94 (Int32.toNatClampNeg r1))) 66 44 (m.I 95 (Int32.toNatClampNeg r1))) 66 45 (m.I 96 (Int32.toNatClampNeg r1))) m.J)) rfl rfl rfl ?_
        refine sh_gR1 (len := 3) (x := .ref 99) (pc2 := 75) rfl rfl (sh_s66 hT.st) rfl rfl ?_
        refine sh_w (i := (.iload_n 2)) (len := 1) (pc2 := 76) (lv2 := [(2, .int r1), (0, .ref 67), (1, .int x1)]) (st2 := [.int r1, .ref 99, .ref 67]) (h2 := (sh_rep m.T (sh_u2 (sh_u2 (sh_u2 m.I 66 43 (m.I 94 (Int32.toNatClampNeg r1))) 66 44 (m.I 95 (Int32.toNatClampNeg r1))) 66 45 (m.I 96 (Int32.toNatClampNeg r1))) m.J)) rfl rfl rfl ?_
        exact kk
      obtain ⟨c, e⟩ := sh_gd e
      refine sh_Lk_lift (T := m.T) (I := sh_u2 (sh_u2 (sh_u2 m.I 66 43 (m.I 94 (Int32.toNatClampNeg r1))) 66 44 (m.I 95 (Int32.toNatClampNeg r1))) 66 45 (m.I 96 (Int32.toNatClampNeg r1))) (J := m.J) (s := m.s) (pc2 := 91) (lv2 := [(2, .int r1), (0, .ref 67), (1, .int x1)]) (st2 := [.long (m.J 98 (Int32.toNatClampNeg r1)), .ref 67]) (I2 := sh_u2 (sh_u2 (sh_u2 m.I 66 43 (m.I 94 (Int32.toNatClampNeg r1))) 66 44 (m.I 95 (Int32.toNatClampNeg r1))) 66 45 (m.I 96 (Int32.toNatClampNeg r1))) (J2 := m.J) (fun hT v kk => ?_) ?_
      · refine sh_la1 (x := m.J 98 (Int32.toNatClampNeg r1)) (pc2 := 77) rfl (sh_s98 hT.st) (sh_okb1 c) (sh_okb2 c) rfl rfl ?_
        refine sh_w (i := (.goto 14)) (len := 3) (pc2 := 91) (lv2 := [(2, .int r1), (0, .ref 67), (1, .int x1)]) (st2 := [.long (m.J 98 (Int32.toNatClampNeg r1)), .ref 67]) (h2 := (sh_rep m.T (sh_u2 (sh_u2 (sh_u2 m.I 66 43 (m.I 94 (Int32.toNatClampNeg r1))) 66 44 (m.I 95 (Int32.toNatClampNeg r1))) 66 45 (m.I 96 (Int32.toNatClampNeg r1))) m.J)) rfl rfl rfl ?_
        exact kk
      exact sh_Lk_sub (sh_sub_c rfl (sh_sub_c rfl (sh_sub_n))) (sl_314_91 e tg)
    · refine sh_Lk_lift (T := m.T) (I := sh_u2 (sh_u2 (sh_u2 m.I 66 43 (m.I 94 (Int32.toNatClampNeg r1))) 66 44 (m.I 95 (Int32.toNatClampNeg r1))) 66 45 (m.I 96 (Int32.toNatClampNeg r1))) (J := m.J) (s := m.s) (pc2 := 89) (lv2 := [(2, .int r1), (0, .ref 67), (1, .int x1)]) (st2 := [.int r1, .ref 98, .ref 93, .ref 67]) (I2 := sh_u2 (sh_u2 (sh_u2 m.I 66 43 (m.I 94 (Int32.toNatClampNeg r1))) 66 44 (m.I 95 (Int32.toNatClampNeg r1))) 66 45 (m.I 96 (Int32.toNatClampNeg r1))) (J2 := m.J) (fun hT v kk => ?_) ?_
      · refine sh_jc (c := .ne) (off := (12)) (pc2 := 80) true rfl (sh_Bnet c) rfl ?_
        refine sh_w (i := (.aload_n 0)) (len := 1) (pc2 := 81) (lv2 := [(2, .int r1), (0, .ref 67), (1, .int x1)]) (st2 := [.ref 67, .ref 67]) (h2 := (sh_rep m.T (sh_u2 (sh_u2 (sh_u2 m.I 66 43 (m.I 94 (Int32.toNatClampNeg r1))) 66 44 (m.I 95 (Int32.toNatClampNeg r1))) 66 45 (m.I 96 (Int32.toNatClampNeg r1))) m.J)) rfl rfl rfl ?_
        refine sh_gR1 (len := 3) (x := .ref 93) (pc2 := 84) rfl rfl (sh_s66 hT.st) rfl rfl ?_
        refine sh_w (i := (.aload_n 0)) (len := 1) (pc2 := 85) (lv2 := [(2, .int r1), (0, .ref 67), (1, .int x1)]) (st2 := [.ref 67, .ref 93, .ref 67]) (h2 := (sh_rep m.T (sh_u2 (sh_u2 (sh_u2 m.I 66 43 (m.I 94 (Int32.toNatClampNeg r1))) 66 44 (m.I 95 (Int32.toNatClampNeg r1))) 66 45 (m.I 96 (Int32.toNatClampNeg r1))) m.J)) rfl rfl rfl ?_
        refine sh_gR1 (len := 3) (x := .ref 98) (pc2 := 88) rfl rfl (sh_s66 hT.st) rfl rfl ?_
        refine sh_w (i := (.iload_n 2)) (len := 1) (pc2 := 89) (lv2 := [(2, .int r1), (0, .ref 67), (1, .int x1)]) (st2 := [.int r1, .ref 98, .ref 93, .ref 67]) (h2 := (sh_rep m.T (sh_u2 (sh_u2 (sh_u2 m.I 66 43 (m.I 94 (Int32.toNatClampNeg r1))) 66 44 (m.I 95 (Int32.toNatClampNeg r1))) 66 45 (m.I 96 (Int32.toNatClampNeg r1))) m.J)) rfl rfl rfl ?_
        exact kk
      obtain ⟨c, e⟩ := sh_gd e
      refine sh_Lk_lift (T := m.T) (I := sh_u2 (sh_u2 (sh_u2 m.I 66 43 (m.I 94 (Int32.toNatClampNeg r1))) 66 44 (m.I 95 (Int32.toNatClampNeg r1))) 66 45 (m.I 96 (Int32.toNatClampNeg r1))) (J := m.J) (s := m.s) (pc2 := 90) (lv2 := [(2, .int r1), (0, .ref 67), (1, .int x1)]) (st2 := [.int (m.I 97 (Int32.toNatClampNeg r1)), .ref 93, .ref 67]) (I2 := sh_u2 (sh_u2 (sh_u2 m.I 66 43 (m.I 94 (Int32.toNatClampNeg r1))) 66 44 (m.I 95 (Int32.toNatClampNeg r1))) 66 45 (m.I 96 (Int32.toNatClampNeg r1))) (J2 := m.J) (fun hT v kk => ?_) ?_
      · refine sh_ia1 (x := m.I 97 (Int32.toNatClampNeg r1)) (pc2 := 90) rfl (sh_s97 hT.st) (sh_okb1 c) (sh_okb2 c) rfl rfl ?_
        exact kk
      obtain ⟨c, e⟩ := sh_gd e
      refine sh_Lk_lift (T := m.T) (I := sh_u2 (sh_u2 (sh_u2 m.I 66 43 (m.I 94 (Int32.toNatClampNeg r1))) 66 44 (m.I 95 (Int32.toNatClampNeg r1))) 66 45 (m.I 96 (Int32.toNatClampNeg r1))) (J := m.J) (s := m.s) (pc2 := 91) (lv2 := [(2, .int r1), (0, .ref 67), (1, .int x1)]) (st2 := [.long (m.J 92 (Int32.toNatClampNeg (m.I 97 (Int32.toNatClampNeg r1)))), .ref 67]) (I2 := sh_u2 (sh_u2 (sh_u2 m.I 66 43 (m.I 94 (Int32.toNatClampNeg r1))) 66 44 (m.I 95 (Int32.toNatClampNeg r1))) 66 45 (m.I 96 (Int32.toNatClampNeg r1))) (J2 := m.J) (fun hT v kk => ?_) ?_
      · refine sh_la1 (x := m.J 92 (Int32.toNatClampNeg (m.I 97 (Int32.toNatClampNeg r1)))) (pc2 := 91) rfl (sh_s92 hT.st) (sh_okb1 c) (sh_okb2 c) rfl rfl ?_
        exact kk
      exact sh_Lk_sub (sh_sub_c rfl (sh_sub_c rfl (sh_sub_n))) (sl_314_91 e tg)
theorem sl_316_7s {x1 : Int32} {x2 : Int32} {m m2 : sh_X} {o : Outcome} {z : (Int32 ⊕ Int32)} (e : sf_316_7s x1 x2 m = some z) (tg : (sh_el (fun q => sh_Lk 316 7 [(0, .ref 67), (1, .int x1), (2, .int q)] [] m o m2 9 223) (sh_tIc m o m2)) z) : sh_Lk 316 7 [(0, .ref 67), (1, .int x1), (2, .int x2)] [] m o m2 9 223 := by
  unfold sf_316_7s at e
  refine sh_Lk_lift (T := m.T) (I := m.I) (J := m.J) (s := m.s) (pc2 := 8) (lv2 := [(0, .ref 67), (1, .int x1), (2, .int x2)]) (st2 := [.int x2]) (I2 := m.I) (J2 := m.J) (fun hT v kk => ?_) ?_
  · refine sh_w (i := (.iload_n 2)) (len := 1) (pc2 := 8) (lv2 := [(0, .ref 67), (1, .int x1), (2, .int x2)]) (st2 := [.int x2]) (h2 := (sh_rep m.T m.I m.J)) rfl rfl rfl ?_
    exact kk
  rcases sh_ite e with ⟨c, e⟩ | ⟨c, e⟩
  · refine sh_Lk_lift (T := m.T) (I := m.I) (J := m.J) (s := m.s) (pc2 := 34) (lv2 := [(0, .ref 67), (1, .int x1), (2, .int x2)]) (st2 := [.int (-1)]) (I2 := m.I) (J2 := m.J) (fun hT v kk => ?_) ?_
    · refine sh_j0 (c := .lt) (off := (25)) (pc2 := 33) true rfl (sh_Bltt c) rfl ?_
      refine sh_w (i := (.iconst (-1))) (len := 1) (pc2 := 34) (lv2 := [(0, .ref 67), (1, .int x1), (2, .int x2)]) (st2 := [.int (-1)]) (h2 := (sh_rep m.T m.I m.J)) rfl rfl rfl ?_
      exact kk
    obtain rfl := Option.some.inj e
    obtain ⟨rfl, rfl⟩ := tg
    exact sh_Lk_ret (i := .ireturn) rfl rfl rfl (Nat.le_of_ble_eq_true rfl) (Nat.le_of_ble_eq_true rfl)
  · refine sh_Lk_lift (T := m.T) (I := m.I) (J := m.J) (s := m.s) (pc2 := 17) (lv2 := [(0, .ref 67), (1, .int x1), (2, .int x2)]) (st2 := [.int x2, .ref 80, .ref 67]) (I2 := m.I) (J2 := m.J) (fun hT v kk => ?_) ?_
    · refine sh_j0 (c := .lt) (off := (25)) (pc2 := 11) false rfl (sh_Bltf c) rfl ?_
      refine sh_w (i := (.aload_n 0)) (len := 1) (pc2 := 12) (lv2 := [(0, .ref 67), (1, .int x1), (2, .int x2)]) (st2 := [.ref 67]) (h2 := (sh_rep m.T m.I m.J)) rfl rfl rfl ?_
      refine sh_w (i := (.aload_n 0)) (len := 1) (pc2 := 13) (lv2 := [(0, .ref 67), (1, .int x1), (2, .int x2)]) (st2 := [.ref 67, .ref 67]) (h2 := (sh_rep m.T m.I m.J)) rfl rfl rfl ?_
      refine sh_gR1 (len := 3) (x := .ref 80) (pc2 := 16) rfl rfl (sh_s66 hT.st) rfl rfl ?_
      refine sh_w (i := (.iload_n 2)) (len := 1) (pc2 := 17) (lv2 := [(0, .ref 67), (1, .int x1), (2, .int x2)]) (st2 := [.int x2, .ref 80, .ref 67]) (h2 := (sh_rep m.T m.I m.J)) rfl rfl rfl ?_
      exact kk
    obtain ⟨c, e⟩ := sh_gd e
    refine sh_Lk_lift (T := m.T) (I := m.I) (J := m.J) (s := m.s) (pc2 := 19) (lv2 := [(0, .ref 67), (1, .int x1), (2, .int x2)]) (st2 := [.int x1, .int (m.I 79 (Int32.toNatClampNeg x2)), .ref 67]) (I2 := m.I) (J2 := m.J) (fun hT v kk => ?_) ?_
    · refine sh_ia1 (x := m.I 79 (Int32.toNatClampNeg x2)) (pc2 := 18) rfl (sh_s79 hT.st) (sh_okb1 c) (sh_okb2 c) rfl rfl ?_
      refine sh_w (i := (.iload_n 1)) (len := 1) (pc2 := 19) (lv2 := [(0, .ref 67), (1, .int x1), (2, .int x2)]) (st2 := [.int x1, .int (m.I 79 (Int32.toNatClampNeg x2)), .ref 67]) (h2 := (sh_rep m.T m.I m.J)) rfl rfl rfl ?_
      exact kk
    obtain ⟨r1, e1, e⟩ := sh_bc_e e
    refine sh_Lk_cV (r := (some (.int (sh_b2 r1)))) (st2 := [.int (sh_b2 r1)]) (pc2 := 22) (k2 := 279) (a := 66) (as := [.ref 67, .int (m.I 79 (Int32.toNatClampNeg x2)), .int x1]) (rest := []) rfl rfl rfl (fun hT => (sh_s66 hT.st)) rfl rfl ⟨Nat.le_of_ble_eq_true rfl, Nat.le_of_ble_eq_true rfl⟩ (sl_279 e1 ⟨rfl, rfl⟩) rfl rfl (Nat.le_of_ble_eq_true rfl) (Nat.le_of_ble_eq_true rfl) ?_
    rcases sh_ite e with ⟨c, e⟩ | ⟨c, e⟩
    · refine sh_Lk_lift (T := m.T) (I := m.I) (J := m.J) (s := m.s) (pc2 := 26) (lv2 := [(0, .ref 67), (1, .int x1), (2, .int x2)]) (st2 := [.int x2]) (I2 := m.I) (J2 := m.J) (fun hT v kk => ?_) ?_
      · refine sh_j0 (c := .eq) (off := (5)) (pc2 := 25) false rfl (sh_Zeqf c) rfl ?_
        refine sh_w (i := (.iload_n 2)) (len := 1) (pc2 := 26) (lv2 := [(0, .ref 67), (1, .int x1), (2, .int x2)]) (st2 := [.int x2]) (h2 := (sh_rep m.T m.I m.J)) rfl rfl rfl ?_
        exact kk
      obtain rfl := Option.some.inj e
      obtain ⟨rfl, rfl⟩ := tg
      exact sh_Lk_ret (i := .ireturn) rfl rfl rfl (Nat.le_of_ble_eq_true rfl) (Nat.le_of_ble_eq_true rfl)
    · refine sh_Lk_lift (T := m.T) (I := m.I) (J := m.J) (s := m.s) (pc2 := 7) (lv2 := [(2, .int (x2 + (-1))), (0, .ref 67), (1, .int x1)]) (st2 := []) (I2 := m.I) (J2 := m.J) (fun hT v kk => ?_) ?_
      · refine sh_j0 (c := .eq) (off := (5)) (pc2 := 27) true rfl (sh_Zeqt c) rfl ?_
        refine sh_w (i := (.iinc 2 (-1))) (len := 3) (pc2 := 30) (lv2 := [(2, .int (x2 + (-1))), (0, .ref 67), (1, .int x1)]) (st2 := []) (h2 := (sh_rep m.T m.I m.J)) rfl rfl rfl ?_
        refine sh_w (i := (.goto (-23))) (len := 3) (pc2 := 7) (lv2 := [(2, .int (x2 + (-1))), (0, .ref 67), (1, .int x1)]) (st2 := []) (h2 := (sh_rep m.T m.I m.J)) rfl rfl rfl ?_
        exact kk
      obtain rfl := Option.some.inj e
      exact sh_Lk_sub (sh_sub_c rfl (sh_sub_c rfl (sh_sub_c rfl (sh_sub_n)))) tg
theorem sl_316_7 {x1 : Int32} {x2 : Int32} {m m2 : sh_X} {o : Outcome} {z : Int32} (e : sf_316_7 x1 x2 m = some z) (tg : (sh_tIc m o m2) z) : sh_Lk 316 7 [(0, .ref 67), (1, .int x1), (2, .int x2)] [] m o m2 9 223 := by
  unfold sf_316_7 at e
  exact sh_while_lk (P := fun q => sh_Lk 316 7 [(0, .ref 67), (1, .int x1), (2, .int q)] [] m o m2 9 223) (Q := (sh_tIc m o m2)) (fun q z e tg => sl_316_7s (x1 := x1) (x2 := q) (m := m) e tg) (s := x2) e tg
theorem sl_316 {x1 : Int32} {m m2 : sh_X} {o : Outcome} {z : Int32} (e : sf_316 x1 m = some z) (tg : (sh_tIc m o m2) z) : sh_Lk 316 0 [(0, .ref 67), (1, .int x1)] [] m o m2 9 223 := by
  unfold sf_316 at e
  refine sh_Lk_lift (T := m.T) (I := m.I) (J := m.J) (s := m.s) (pc2 := 7) (lv2 := [(2, .int ((m.I 66 55) - 1)), (0, .ref 67), (1, .int x1)]) (st2 := []) (I2 := m.I) (J2 := m.J) (fun hT v kk => ?_) ?_
  · refine sh_w (i := (.aload_n 0)) (len := 1) (pc2 := 1) (lv2 := [(0, .ref 67), (1, .int x1)]) (st2 := [.ref 67]) (h2 := (sh_rep m.T m.I m.J)) rfl rfl rfl ?_
    refine sh_gI1 (len := 3) (x := m.I 66 55) (pc2 := 4) rfl rfl (sh_s66 hT.st) rfl rfl rfl ?_
    refine sh_w (i := (.iconst 1)) (len := 1) (pc2 := 5) (lv2 := [(0, .ref 67), (1, .int x1)]) (st2 := [.int 1, .int (m.I 66 55)]) (h2 := (sh_rep m.T m.I m.J)) rfl rfl rfl ?_
    refine sh_w (i := .isub) (len := 1) (pc2 := 6) (lv2 := [(0, .ref 67), (1, .int x1)]) (st2 := [.int ((m.I 66 55) - 1)]) (h2 := (sh_rep m.T m.I m.J)) rfl rfl rfl ?_
    refine sh_w (i := (.istore_n 2)) (len := 1) (pc2 := 7) (lv2 := [(2, .int ((m.I 66 55) - 1)), (0, .ref 67), (1, .int x1)]) (st2 := []) (h2 := (sh_rep m.T m.I m.J)) rfl rfl rfl ?_
    exact kk
  exact sh_Lk_sub (sh_sub_c rfl (sh_sub_c rfl (sh_sub_c rfl (sh_sub_n)))) (sl_316_7 e tg)
theorem sl_317_62 {m m2 : sh_X} {o : Outcome} {z : (Bool × sh_X)} (e : sf_317_62 m = some z) (tg : (sh_tZ o m2) z) : sh_Lk 317 62 [] [] m o m2 11 268 := by
  unfold sf_317_62 at e
  refine sh_Lk_lift (T := m.T) (I := m.I) (J := m.J) (s := m.s) (pc2 := 67) (lv2 := []) (st2 := [.int 1]) (I2 := m.I) (J2 := m.J) (fun hT v kk => ?_) ?_
  · refine sh_w (i := (.iconst 1)) (len := 1) (pc2 := 63) (lv2 := []) (st2 := [.int 1]) (h2 := (sh_rep m.T m.I m.J)) rfl rfl rfl ?_
    refine sh_w (i := (.goto 4)) (len := 3) (pc2 := 67) (lv2 := []) (st2 := [.int 1]) (h2 := (sh_rep m.T m.I m.J)) rfl rfl rfl ?_
    exact kk
  obtain rfl := Option.some.inj e
  obtain ⟨rfl, rfl⟩ := tg
  exact sh_Lk_ret (i := .ireturn) rfl rfl rfl (Nat.le_of_ble_eq_true rfl) (Nat.le_of_ble_eq_true rfl)
theorem sl_317_43 {x1 : Int32} {m m2 : sh_X} {o : Outcome} {z : (Bool × sh_X)} (e : sf_317_43 x1 m = some z) (tg : (sh_tZ o m2) z) : sh_Lk 317 43 [(0, .ref 67), (1, .int x1)] [] m o m2 11 268 := by
  unfold sf_317_43 at e
  refine sh_Lk_lift (T := m.T) (I := m.I) (J := m.J) (s := m.s) (pc2 := 54) (lv2 := [(0, .ref 67), (1, .int x1)]) (st2 := [.int x1, .ref 79, .ref 70, .int 4, .ref 67]) (I2 := m.I) (J2 := m.J) (fun hT v kk => ?_) ?_
  · refine sh_w (i := (.aload_n 0)) (len := 1) (pc2 := 44) (lv2 := [(0, .ref 67), (1, .int x1)]) (st2 := [.ref 67]) (h2 := (sh_rep m.T m.I m.J)) rfl rfl rfl ?_
    refine sh_w (i := (.iconst 4)) (len := 1) (pc2 := 45) (lv2 := [(0, .ref 67), (1, .int x1)]) (st2 := [.int 4, .ref 67]) (h2 := (sh_rep m.T m.I m.J)) rfl rfl rfl ?_
    refine sh_w (i := (.aload_n 0)) (len := 1) (pc2 := 46) (lv2 := [(0, .ref 67), (1, .int x1)]) (st2 := [.ref 67, .int 4, .ref 67]) (h2 := (sh_rep m.T m.I m.J)) rfl rfl rfl ?_
    refine sh_gR1 (len := 3) (x := .ref 70) (pc2 := 49) rfl rfl (sh_s66 hT.st) rfl rfl ?_
    refine sh_w (i := (.aload_n 0)) (len := 1) (pc2 := 50) (lv2 := [(0, .ref 67), (1, .int x1)]) (st2 := [.ref 67, .ref 70, .int 4, .ref 67]) (h2 := (sh_rep m.T m.I m.J)) rfl rfl rfl ?_
    refine sh_gR1 (len := 3) (x := .ref 79) (pc2 := 53) rfl rfl (sh_s66 hT.st) rfl rfl ?_
    refine sh_w (i := (.iload_n 1)) (len := 1) (pc2 := 54) (lv2 := [(0, .ref 67), (1, .int x1)]) (st2 := [.int x1, .ref 79, .ref 70, .int 4, .ref 67]) (h2 := (sh_rep m.T m.I m.J)) rfl rfl rfl ?_
    exact kk
  obtain ⟨c, e⟩ := sh_gd e
  refine sh_Lk_lift (T := m.T) (I := m.I) (J := m.J) (s := m.s) (pc2 := 55) (lv2 := [(0, .ref 67), (1, .int x1)]) (st2 := [.int (m.I 78 (Int32.toNatClampNeg x1)), .ref 70, .int 4, .ref 67]) (I2 := m.I) (J2 := m.J) (fun hT v kk => ?_) ?_
  · refine sh_ia1 (x := m.I 78 (Int32.toNatClampNeg x1)) (pc2 := 55) rfl (sh_s78 hT.st) (sh_okb1 c) (sh_okb2 c) rfl rfl ?_
    exact kk
  obtain ⟨c, e⟩ := sh_gd e
  refine sh_Lk_lift (T := m.T) (I := m.I) (J := m.J) (s := m.s) (pc2 := 56) (lv2 := [(0, .ref 67), (1, .int x1)]) (st2 := [.int (m.I 69 (Int32.toNatClampNeg (m.I 78 (Int32.toNatClampNeg x1)))), .int 4, .ref 67]) (I2 := m.I) (J2 := m.J) (fun hT v kk => ?_) ?_
  · refine sh_ia1 (x := m.I 69 (Int32.toNatClampNeg (m.I 78 (Int32.toNatClampNeg x1)))) (pc2 := 56) rfl (sh_s69 hT.st) (sh_okb1 c) (sh_okb2 c) rfl rfl ?_
    exact kk
  obtain ⟨r1, m11, e1, e⟩ := sh_bn_e e
  refine sh_Lk_cV (r := (some (.int (sh_b2 r1)))) (st2 := [.int (sh_b2 r1)]) (pc2 := 59) (k2 := 252) (a := 66) (as := [.ref 67, .int 4, .int (m.I 69 (Int32.toNatClampNeg (m.I 78 (Int32.toNatClampNeg x1))))]) (rest := []) rfl rfl rfl (fun hT => (sh_s66 hT.st)) rfl rfl ⟨Nat.le_of_ble_eq_true rfl, Nat.le_of_ble_eq_true rfl⟩ (sl_252 e1 ⟨rfl, rfl⟩) rfl rfl (Nat.le_of_ble_eq_true rfl) (Nat.le_of_ble_eq_true rfl) ?_
  rcases sh_ite e with ⟨c, e⟩ | ⟨c, e⟩
  · refine sh_Lk_lift (T := m11.T) (I := m11.I) (J := m11.J) (s := m11.s) (pc2 := 62) (lv2 := [(0, .ref 67), (1, .int x1)]) (st2 := []) (I2 := m11.I) (J2 := m11.J) (fun hT v kk => ?_) ?_
    · refine sh_j0 (c := .eq) (off := (7)) (pc2 := 62) false rfl (sh_Zeqf c) rfl ?_
      exact kk
    exact sh_Lk_sub (sh_sub_n) (sl_317_62 e tg)
  · refine sh_Lk_lift (T := m11.T) (I := m11.I) (J := m11.J) (s := m11.s) (pc2 := 67) (lv2 := [(0, .ref 67), (1, .int x1)]) (st2 := [.int 0]) (I2 := m11.I) (J2 := m11.J) (fun hT v kk => ?_) ?_
    · refine sh_j0 (c := .eq) (off := (7)) (pc2 := 66) true rfl (sh_Zeqt c) rfl ?_
      refine sh_w (i := (.iconst 0)) (len := 1) (pc2 := 67) (lv2 := [(0, .ref 67), (1, .int x1)]) (st2 := [.int 0]) (h2 := (sh_rep m11.T m11.I m11.J)) rfl rfl rfl ?_
      exact kk
    obtain rfl := Option.some.inj e
    obtain ⟨rfl, rfl⟩ := tg
    exact sh_Lk_ret (i := .ireturn) rfl rfl rfl (Nat.le_of_ble_eq_true rfl) (Nat.le_of_ble_eq_true rfl)
theorem sl_317 {x1 : Int32} {x2 : Int32} {x3 : Int32} {x4 : Int32} {m m2 : sh_X} {o : Outcome} {z : (Bool × sh_X)} (e : sf_317 x1 x2 x3 x4 m = some z) (tg : (sh_tZ o m2) z) : sh_Lk 317 0 [(0, .ref 67), (1, .int x1), (2, .int x2), (3, .int x3), (4, .int x4)] [] m o m2 11 268 := by
  unfold sf_317 at e
  refine sh_Lk_lift (T := m.T) (I := m.I) (J := m.J) (s := m.s) (pc2 := 5) (lv2 := [(0, .ref 67), (1, .int x1), (2, .int x2), (3, .int x3), (4, .int x4)]) (st2 := [.int 3, .int (m.I 66 43)]) (I2 := m.I) (J2 := m.J) (fun hT v kk => ?_) ?_
  · refine sh_w (i := (.aload_n 0)) (len := 1) (pc2 := 1) (lv2 := [(0, .ref 67), (1, .int x1), (2, .int x2), (3, .int x3), (4, .int x4)]) (st2 := [.ref 67]) (h2 := (sh_rep m.T m.I m.J)) rfl rfl rfl ?_
    refine sh_gI1 (len := 3) (x := m.I 66 43) (pc2 := 4) rfl rfl (sh_s66 hT.st) rfl rfl rfl ?_
    refine sh_w (i := (.iconst 3)) (len := 1) (pc2 := 5) (lv2 := [(0, .ref 67), (1, .int x1), (2, .int x2), (3, .int x3), (4, .int x4)]) (st2 := [.int 3, .int (m.I 66 43)]) (h2 := (sh_rep m.T m.I m.J)) rfl rfl rfl ?_
    exact kk
  rcases sh_ite e with ⟨c, e⟩ | ⟨c, e⟩
  · refine sh_Lk_lift (T := m.T) (I := m.I) (J := m.J) (s := m.s) (pc2 := 14) (lv2 := [(0, .ref 67), (1, .int x1), (2, .int x2), (3, .int x3), (4, .int x4)]) (st2 := [.int x4, .int x3, .int x2, .int x1, .ref 67]) (I2 := m.I) (J2 := m.J) (fun hT v kk => ?_) ?_
    · refine sh_jc (c := .ne) (off := (13)) (pc2 := 8) false rfl (sh_Bnef c) rfl ?_
      refine sh_w (i := (.aload_n 0)) (len := 1) (pc2 := 9) (lv2 := [(0, .ref 67), (1, .int x1), (2, .int x2), (3, .int x3), (4, .int x4)]) (st2 := [.ref 67]) (h2 := (sh_rep m.T m.I m.J)) rfl rfl rfl ?_
      refine sh_w (i := (.iload_n 1)) (len := 1) (pc2 := 10) (lv2 := [(0, .ref 67), (1, .int x1), (2, .int x2), (3, .int x3), (4, .int x4)]) (st2 := [.int x1, .ref 67]) (h2 := (sh_rep m.T m.I m.J)) rfl rfl rfl ?_
      refine sh_w (i := (.iload_n 2)) (len := 1) (pc2 := 11) (lv2 := [(0, .ref 67), (1, .int x1), (2, .int x2), (3, .int x3), (4, .int x4)]) (st2 := [.int x2, .int x1, .ref 67]) (h2 := (sh_rep m.T m.I m.J)) rfl rfl rfl ?_
      refine sh_w (i := (.iload_n 3)) (len := 1) (pc2 := 12) (lv2 := [(0, .ref 67), (1, .int x1), (2, .int x2), (3, .int x3), (4, .int x4)]) (st2 := [.int x3, .int x2, .int x1, .ref 67]) (h2 := (sh_rep m.T m.I m.J)) rfl rfl rfl ?_
      refine sh_w (i := (.iload 4)) (len := 2) (pc2 := 14) (lv2 := [(0, .ref 67), (1, .int x1), (2, .int x2), (3, .int x3), (4, .int x4)]) (st2 := [.int x4, .int x3, .int x2, .int x1, .ref 67]) (h2 := (sh_rep m.T m.I m.J)) rfl rfl rfl ?_
      exact kk
    obtain ⟨r1, m11, e1, e⟩ := sh_bn_e e
    refine sh_Lk_cV (r := (some (.int (sh_b2 r1)))) (st2 := [.int (sh_b2 r1)]) (pc2 := 17) (k2 := 299) (a := 66) (as := [.ref 67, .int x1, .int x2, .int x3, .int x4]) (rest := []) rfl rfl rfl (fun hT => (sh_s66 hT.st)) rfl rfl ⟨Nat.le_of_ble_eq_true rfl, Nat.le_of_ble_eq_true rfl⟩ (sl_299 e1 ⟨rfl, rfl⟩) rfl rfl (Nat.le_of_ble_eq_true rfl) (Nat.le_of_ble_eq_true rfl) ?_
    obtain rfl := Option.some.inj e
    obtain ⟨rfl, rfl⟩ := tg
    exact sh_Lk_ret (i := .ireturn) rfl rfl (sh_rb rfl _) (Nat.le_of_ble_eq_true rfl) (Nat.le_of_ble_eq_true rfl)
  · refine sh_Lk_lift (T := m.T) (I := m.I) (J := m.J) (s := m.s) (pc2 := 23) (lv2 := [(0, .ref 67), (1, .int x1), (2, .int x2), (3, .int x3), (4, .int x4)]) (st2 := [.int x2, .int (m.I 66 43)]) (I2 := m.I) (J2 := m.J) (fun hT v kk => ?_) ?_
    · refine sh_jc (c := .ne) (off := (13)) (pc2 := 18) true rfl (sh_Bnet c) rfl ?_
      refine sh_w (i := (.aload_n 0)) (len := 1) (pc2 := 19) (lv2 := [(0, .ref 67), (1, .int x1), (2, .int x2), (3, .int x3), (4, .int x4)]) (st2 := [.ref 67]) (h2 := (sh_rep m.T m.I m.J)) rfl rfl rfl ?_
      refine sh_gI1 (len := 3) (x := m.I 66 43) (pc2 := 22) rfl rfl (sh_s66 hT.st) rfl rfl rfl ?_
      refine sh_w (i := (.iload_n 2)) (len := 1) (pc2 := 23) (lv2 := [(0, .ref 67), (1, .int x1), (2, .int x2), (3, .int x3), (4, .int x4)]) (st2 := [.int x2, .int (m.I 66 43)]) (h2 := (sh_rep m.T m.I m.J)) rfl rfl rfl ?_
      exact kk
    rcases sh_ite e with ⟨c, e⟩ | ⟨c, e⟩
    · refine sh_Lk_lift (T := m.T) (I := m.I) (J := m.J) (s := m.s) (pc2 := 31) (lv2 := [(0, .ref 67), (1, .int x1), (2, .int x2), (3, .int x3), (4, .int x4)]) (st2 := [.int x3, .int (m.I 66 44)]) (I2 := m.I) (J2 := m.J) (fun hT v kk => ?_) ?_
      · refine sh_jc (c := .ne) (off := (20)) (pc2 := 26) false rfl (sh_Bnef c) rfl ?_
        refine sh_w (i := (.aload_n 0)) (len := 1) (pc2 := 27) (lv2 := [(0, .ref 67), (1, .int x1), (2, .int x2), (3, .int x3), (4, .int x4)]) (st2 := [.ref 67]) (h2 := (sh_rep m.T m.I m.J)) rfl rfl rfl ?_
        refine sh_gI1 (len := 3) (x := m.I 66 44) (pc2 := 30) rfl rfl (sh_s66 hT.st) rfl rfl rfl ?_
        refine sh_w (i := (.iload_n 3)) (len := 1) (pc2 := 31) (lv2 := [(0, .ref 67), (1, .int x1), (2, .int x2), (3, .int x3), (4, .int x4)]) (st2 := [.int x3, .int (m.I 66 44)]) (h2 := (sh_rep m.T m.I m.J)) rfl rfl rfl ?_
        exact kk
      rcases sh_ite e with ⟨c, e⟩ | ⟨c, e⟩
      · refine sh_Lk_lift (T := m.T) (I := m.I) (J := m.J) (s := m.s) (pc2 := 40) (lv2 := [(0, .ref 67), (1, .int x1), (2, .int x2), (3, .int x3), (4, .int x4)]) (st2 := [.int x4, .int (m.I 66 45)]) (I2 := m.I) (J2 := m.J) (fun hT v kk => ?_) ?_
        · refine sh_jc (c := .ne) (off := (12)) (pc2 := 34) false rfl (sh_Bnef c) rfl ?_
          refine sh_w (i := (.aload_n 0)) (len := 1) (pc2 := 35) (lv2 := [(0, .ref 67), (1, .int x1), (2, .int x2), (3, .int x3), (4, .int x4)]) (st2 := [.ref 67]) (h2 := (sh_rep m.T m.I m.J)) rfl rfl rfl ?_
          refine sh_gI1 (len := 3) (x := m.I 66 45) (pc2 := 38) rfl rfl (sh_s66 hT.st) rfl rfl rfl ?_
          refine sh_w (i := (.iload 4)) (len := 2) (pc2 := 40) (lv2 := [(0, .ref 67), (1, .int x1), (2, .int x2), (3, .int x3), (4, .int x4)]) (st2 := [.int x4, .int (m.I 66 45)]) (h2 := (sh_rep m.T m.I m.J)) rfl rfl rfl ?_
          exact kk
        rcases sh_ite e with ⟨c, e⟩ | ⟨c, e⟩
        · refine sh_Lk_lift (T := m.T) (I := m.I) (J := m.J) (s := m.s) (pc2 := 62) (lv2 := [(0, .ref 67), (1, .int x1), (2, .int x2), (3, .int x3), (4, .int x4)]) (st2 := []) (I2 := m.I) (J2 := m.J) (fun hT v kk => ?_) ?_
          · refine sh_jc (c := .eq) (off := (22)) (pc2 := 62) true rfl (sh_Beqt c) rfl ?_
            exact kk
          exact sh_Lk_sub (sh_sub_n) (sl_317_62 e tg)
        · refine sh_Lk_lift (T := m.T) (I := m.I) (J := m.J) (s := m.s) (pc2 := 43) (lv2 := [(0, .ref 67), (1, .int x1), (2, .int x2), (3, .int x3), (4, .int x4)]) (st2 := []) (I2 := m.I) (J2 := m.J) (fun hT v kk => ?_) ?_
          · refine sh_jc (c := .eq) (off := (22)) (pc2 := 43) false rfl (sh_Beqf c) rfl ?_
            exact kk
          exact sh_Lk_sub (sh_sub_c rfl (sh_sub_c rfl (sh_sub_n))) (sl_317_43 e tg)
      · refine sh_Lk_lift (T := m.T) (I := m.I) (J := m.J) (s := m.s) (pc2 := 43) (lv2 := [(0, .ref 67), (1, .int x1), (2, .int x2), (3, .int x3), (4, .int x4)]) (st2 := []) (I2 := m.I) (J2 := m.J) (fun hT v kk => ?_) ?_
        · refine sh_jc (c := .ne) (off := (12)) (pc2 := 43) true rfl (sh_Bnet c) rfl ?_
          exact kk
        exact sh_Lk_sub (sh_sub_c rfl (sh_sub_c rfl (sh_sub_n))) (sl_317_43 e tg)
    · refine sh_Lk_lift (T := m.T) (I := m.I) (J := m.J) (s := m.s) (pc2 := 43) (lv2 := [(0, .ref 67), (1, .int x1), (2, .int x2), (3, .int x3), (4, .int x4)]) (st2 := []) (I2 := m.I) (J2 := m.J) (fun hT v kk => ?_) ?_
      · refine sh_jc (c := .ne) (off := (20)) (pc2 := 43) true rfl (sh_Bnet c) rfl ?_
        exact kk
      exact sh_Lk_sub (sh_sub_c rfl (sh_sub_c rfl (sh_sub_n))) (sl_317_43 e tg)
theorem sl_318_162 {m m2 : sh_X} {o : Outcome} {z : (Unit × sh_X)} (e : sf_318_162 m = some z) (tg : (sh_tV o m2) z) : sh_Lk 318 162 [(0, .ref 67)] [] m o m2 8 200 := by
  unfold sf_318_162 at e
  refine sh_Lk_lift (T := m.T) (I := m.I) (J := m.J) (s := m.s) (pc2 := 172) (lv2 := [(0, .ref 67)]) (st2 := []) (I2 := sh_u2 m.I 66 53 ((m.I 66 53) + 1)) (J2 := m.J) (fun hT v kk => ?_) ?_
  · refine sh_w (i := (.aload_n 0)) (len := 1) (pc2 := 163) (lv2 := [(0, .ref 67)]) (st2 := [.ref 67]) (h2 := (sh_rep m.T m.I m.J)) rfl rfl rfl ?_
    refine sh_w (i := .dup) (len := 1) (pc2 := 164) (lv2 := [(0, .ref 67)]) (st2 := [.ref 67, .ref 67]) (h2 := (sh_rep m.T m.I m.J)) rfl rfl rfl ?_
    refine sh_gI1 (len := 3) (x := m.I 66 53) (pc2 := 167) rfl rfl (sh_s66 hT.st) rfl rfl rfl ?_
    refine sh_w (i := (.iconst 1)) (len := 1) (pc2 := 168) (lv2 := [(0, .ref 67)]) (st2 := [.int 1, .int (m.I 66 53), .ref 67]) (h2 := (sh_rep m.T m.I m.J)) rfl rfl rfl ?_
    refine sh_w (i := .iadd) (len := 1) (pc2 := 169) (lv2 := [(0, .ref 67)]) (st2 := [.int ((m.I 66 53) + 1), .ref 67]) (h2 := (sh_rep m.T m.I m.J)) rfl rfl rfl ?_
    refine sh_pI1 (x := (m.I 66 53) + 1) (pc2 := 172) rfl rfl (sh_s66 hT.st) rfl rfl rfl rfl ?_
    exact kk
  obtain rfl := Option.some.inj e
  obtain ⟨rfl, rfl⟩ := tg
  exact sh_Lk_ret (i := .return_) rfl rfl rfl (Nat.le_of_ble_eq_true rfl) (Nat.le_of_ble_eq_true rfl)
theorem sl_318_116s {x2 : Int32} {x3 : Int32} {m m2 : sh_X} {o : Outcome} {z : ((Int32 × sh_X) ⊕ (Unit × sh_X))} (e : sf_318_116s x2 x3 m = some z) (tg : (sh_el (fun q => sh_Lk 318 116 [(0, .ref 67), (2, .int x2), (3, .int q.1)] [] q.2 o m2 8 200) (sh_tV o m2)) z) : sh_Lk 318 116 [(0, .ref 67), (2, .int x2), (3, .int x3)] [] m o m2 8 200 := by
  unfold sf_318_116s at e
  refine sh_Lk_lift (T := m.T) (I := m.I) (J := m.J) (s := m.s) (pc2 := 121) (lv2 := [(0, .ref 67), (2, .int x2), (3, .int x3)]) (st2 := [.int (m.I 66 45), .int x3]) (I2 := m.I) (J2 := m.J) (fun hT v kk => ?_) ?_
  · refine sh_w (i := (.iload_n 3)) (len := 1) (pc2 := 117) (lv2 := [(0, .ref 67), (2, .int x2), (3, .int x3)]) (st2 := [.int x3]) (h2 := (sh_rep m.T m.I m.J)) rfl rfl rfl ?_
    refine sh_w (i := (.aload_n 0)) (len := 1) (pc2 := 118) (lv2 := [(0, .ref 67), (2, .int x2), (3, .int x3)]) (st2 := [.ref 67, .int x3]) (h2 := (sh_rep m.T m.I m.J)) rfl rfl rfl ?_
    refine sh_gI1 (len := 3) (x := m.I 66 45) (pc2 := 121) rfl rfl (sh_s66 hT.st) rfl rfl rfl ?_
    exact kk
  rcases sh_ite e with ⟨c, e⟩ | ⟨c, e⟩
  · refine sh_Lk_lift (T := m.T) (I := m.I) (J := m.J) (s := m.s) (pc2 := 141) (lv2 := [(0, .ref 67), (2, .int x2), (3, .int x3)]) (st2 := [.int (x2 + x3), .ref 93, .int ((m.I 66 41) + x3), .ref 93]) (I2 := m.I) (J2 := m.J) (fun hT v kk => ?_) ?_
    · refine sh_jc (c := .ge) (off := (28)) (pc2 := 124) false rfl (sh_Bgef c) rfl ?_
      refine sh_w (i := (.aload_n 0)) (len := 1) (pc2 := 125) (lv2 := [(0, .ref 67), (2, .int x2), (3, .int x3)]) (st2 := [.ref 67]) (h2 := (sh_rep m.T m.I m.J)) rfl rfl rfl ?_
      refine sh_gR1 (len := 3) (x := .ref 93) (pc2 := 128) rfl rfl (sh_s66 hT.st) rfl rfl ?_
      refine sh_w (i := (.aload_n 0)) (len := 1) (pc2 := 129) (lv2 := [(0, .ref 67), (2, .int x2), (3, .int x3)]) (st2 := [.ref 67, .ref 93]) (h2 := (sh_rep m.T m.I m.J)) rfl rfl rfl ?_
      refine sh_gI1 (len := 3) (x := m.I 66 41) (pc2 := 132) rfl rfl (sh_s66 hT.st) rfl rfl rfl ?_
      refine sh_w (i := (.iload_n 3)) (len := 1) (pc2 := 133) (lv2 := [(0, .ref 67), (2, .int x2), (3, .int x3)]) (st2 := [.int x3, .int (m.I 66 41), .ref 93]) (h2 := (sh_rep m.T m.I m.J)) rfl rfl rfl ?_
      refine sh_w (i := .iadd) (len := 1) (pc2 := 134) (lv2 := [(0, .ref 67), (2, .int x2), (3, .int x3)]) (st2 := [.int ((m.I 66 41) + x3), .ref 93]) (h2 := (sh_rep m.T m.I m.J)) rfl rfl rfl ?_
      refine sh_w (i := (.aload_n 0)) (len := 1) (pc2 := 135) (lv2 := [(0, .ref 67), (2, .int x2), (3, .int x3)]) (st2 := [.ref 67, .int ((m.I 66 41) + x3), .ref 93]) (h2 := (sh_rep m.T m.I m.J)) rfl rfl rfl ?_
      refine sh_gR1 (len := 3) (x := .ref 93) (pc2 := 138) rfl rfl (sh_s66 hT.st) rfl rfl ?_
      refine sh_w (i := (.iload_n 2)) (len := 1) (pc2 := 139) (lv2 := [(0, .ref 67), (2, .int x2), (3, .int x3)]) (st2 := [.int x2, .ref 93, .int ((m.I 66 41) + x3), .ref 93]) (h2 := (sh_rep m.T m.I m.J)) rfl rfl rfl ?_
      refine sh_w (i := (.iload_n 3)) (len := 1) (pc2 := 140) (lv2 := [(0, .ref 67), (2, .int x2), (3, .int x3)]) (st2 := [.int x3, .int x2, .ref 93, .int ((m.I 66 41) + x3), .ref 93]) (h2 := (sh_rep m.T m.I m.J)) rfl rfl rfl ?_
      refine sh_w (i := .iadd) (len := 1) (pc2 := 141) (lv2 := [(0, .ref 67), (2, .int x2), (3, .int x3)]) (st2 := [.int (x2 + x3), .ref 93, .int ((m.I 66 41) + x3), .ref 93]) (h2 := (sh_rep m.T m.I m.J)) rfl rfl rfl ?_
      exact kk
    obtain ⟨c, e⟩ := sh_gd e
    refine sh_Lk_lift (T := m.T) (I := m.I) (J := m.J) (s := m.s) (pc2 := 142) (lv2 := [(0, .ref 67), (2, .int x2), (3, .int x3)]) (st2 := [.long (m.J 92 (Int32.toNatClampNeg (x2 + x3))), .int ((m.I 66 41) + x3), .ref 93]) (I2 := m.I) (J2 := m.J) (fun hT v kk => ?_) ?_
    · refine sh_la1 (x := m.J 92 (Int32.toNatClampNeg (x2 + x3))) (pc2 := 142) rfl (sh_s92 hT.st) (sh_okb1 c) (sh_okb2 c) rfl rfl ?_
      exact kk
    obtain ⟨c, e⟩ := sh_gd e
    refine sh_Lk_lift (T := m.T) (I := m.I) (J := m.J) (s := m.s) (pc2 := 116) (lv2 := [(3, .int (x3 + 1)), (0, .ref 67), (2, .int x2)]) (st2 := []) (I2 := m.I) (J2 := sh_u2 m.J 92 (Int32.toNatClampNeg ((m.I 66 41) + x3)) (m.J 92 (Int32.toNatClampNeg (x2 + x3)))) (fun hT v kk => ?_) ?_
    · refine sh_ls1 (x := m.J 92 (Int32.toNatClampNeg (x2 + x3))) (i := (m.I 66 41) + x3) (pc2 := 143) rfl (sh_s92 hT.st) (sh_okb1 c) (sh_okb2 c) rfl ?_
      refine sh_w (i := (.iinc 3 1)) (len := 3) (pc2 := 146) (lv2 := [(3, .int (x3 + 1)), (0, .ref 67), (2, .int x2)]) (st2 := []) (h2 := (sh_rep m.T m.I (sh_u2 m.J 92 (Int32.toNatClampNeg ((m.I 66 41) + x3)) (m.J 92 (Int32.toNatClampNeg (x2 + x3)))))) rfl rfl rfl ?_
      refine sh_w (i := (.goto (-30))) (len := 3) (pc2 := 116) (lv2 := [(3, .int (x3 + 1)), (0, .ref 67), (2, .int x2)]) (st2 := []) (h2 := (sh_rep m.T m.I (sh_u2 m.J 92 (Int32.toNatClampNeg ((m.I 66 41) + x3)) (m.J 92 (Int32.toNatClampNeg (x2 + x3)))))) rfl rfl rfl ?_
      exact kk
    obtain rfl := Option.some.inj e
    exact sh_Lk_sub (sh_sub_c rfl (sh_sub_c rfl (sh_sub_c rfl (sh_sub_n)))) tg
  · refine sh_Lk_lift (T := m.T) (I := m.I) (J := m.J) (s := m.s) (pc2 := 162) (lv2 := [(0, .ref 67), (2, .int x2), (3, .int x3)]) (st2 := []) (I2 := sh_u2 m.I 66 41 ((m.I 66 41) + (m.I 66 45))) (J2 := m.J) (fun hT v kk => ?_) ?_
    · refine sh_jc (c := .ge) (off := (28)) (pc2 := 149) true rfl (sh_Bget c) rfl ?_
      refine sh_w (i := (.aload_n 0)) (len := 1) (pc2 := 150) (lv2 := [(0, .ref 67), (2, .int x2), (3, .int x3)]) (st2 := [.ref 67]) (h2 := (sh_rep m.T m.I m.J)) rfl rfl rfl ?_
      refine sh_w (i := .dup) (len := 1) (pc2 := 151) (lv2 := [(0, .ref 67), (2, .int x2), (3, .int x3)]) (st2 := [.ref 67, .ref 67]) (h2 := (sh_rep m.T m.I m.J)) rfl rfl rfl ?_
      refine sh_gI1 (len := 3) (x := m.I 66 41) (pc2 := 154) rfl rfl (sh_s66 hT.st) rfl rfl rfl ?_
      refine sh_w (i := (.aload_n 0)) (len := 1) (pc2 := 155) (lv2 := [(0, .ref 67), (2, .int x2), (3, .int x3)]) (st2 := [.ref 67, .int (m.I 66 41), .ref 67]) (h2 := (sh_rep m.T m.I m.J)) rfl rfl rfl ?_
      refine sh_gI1 (len := 3) (x := m.I 66 45) (pc2 := 158) rfl rfl (sh_s66 hT.st) rfl rfl rfl ?_
      refine sh_w (i := .iadd) (len := 1) (pc2 := 159) (lv2 := [(0, .ref 67), (2, .int x2), (3, .int x3)]) (st2 := [.int ((m.I 66 41) + (m.I 66 45)), .ref 67]) (h2 := (sh_rep m.T m.I m.J)) rfl rfl rfl ?_
      refine sh_pI1 (x := (m.I 66 41) + (m.I 66 45)) (pc2 := 162) rfl rfl (sh_s66 hT.st) rfl rfl rfl rfl ?_
      exact kk
    obtain ⟨_, eu, rfl⟩ := sh_up_e e
    exact sh_Lk_sub (sh_sub_c rfl (sh_sub_n)) (sl_318_162 eu tg)
theorem sl_318_116 {x2 : Int32} {x3 : Int32} {m m2 : sh_X} {o : Outcome} {z : (Unit × sh_X)} (e : sf_318_116 x2 x3 m = some z) (tg : (sh_tV o m2) z) : sh_Lk 318 116 [(0, .ref 67), (2, .int x2), (3, .int x3)] [] m o m2 8 200 := by
  unfold sf_318_116 at e
  exact sh_while_lk (P := fun q => sh_Lk 318 116 [(0, .ref 67), (2, .int x2), (3, .int q.1)] [] q.2 o m2 8 200) (Q := (sh_tV o m2)) (fun q z e tg => sl_318_116s (x2 := x2) (x3 := q.1) (m := q.2) e tg) (s := (x3, m)) e tg
theorem sl_318 {x1 : Int32} {m m2 : sh_X} {o : Outcome} {z : (Unit × sh_X)} (e : sf_318 x1 m = some z) (tg : (sh_tV o m2) z) : sh_Lk 318 0 [(0, .ref 67), (1, .int x1)] [] m o m2 8 200 := by
  unfold sf_318 at e
  refine sh_Lk_lift (T := m.T) (I := m.I) (J := m.J) (s := m.s) (pc2 := 9) (lv2 := [(0, .ref 67), (1, .int x1)]) (st2 := [.int x1, .int (m.I 66 53), .ref 94]) (I2 := m.I) (J2 := m.J) (fun hT v kk => ?_) ?_
  · refine sh_w (i := (.aload_n 0)) (len := 1) (pc2 := 1) (lv2 := [(0, .ref 67), (1, .int x1)]) (st2 := [.ref 67]) (h2 := (sh_rep m.T m.I m.J)) rfl rfl rfl ?_
    refine sh_gR1 (len := 3) (x := .ref 94) (pc2 := 4) rfl rfl (sh_s66 hT.st) rfl rfl ?_
    refine sh_w (i := (.aload_n 0)) (len := 1) (pc2 := 5) (lv2 := [(0, .ref 67), (1, .int x1)]) (st2 := [.ref 67, .ref 94]) (h2 := (sh_rep m.T m.I m.J)) rfl rfl rfl ?_
    refine sh_gI1 (len := 3) (x := m.I 66 53) (pc2 := 8) rfl rfl (sh_s66 hT.st) rfl rfl rfl ?_
    refine sh_w (i := (.iload_n 1)) (len := 1) (pc2 := 9) (lv2 := [(0, .ref 67), (1, .int x1)]) (st2 := [.int x1, .int (m.I 66 53), .ref 94]) (h2 := (sh_rep m.T m.I m.J)) rfl rfl rfl ?_
    exact kk
  obtain ⟨c, e⟩ := sh_gd e
  refine sh_Lk_lift (T := m.T) (I := m.I) (J := m.J) (s := m.s) (pc2 := 22) (lv2 := [(0, .ref 67), (1, .int x1)]) (st2 := [.int (m.I 66 43), .int (m.I 66 53), .ref 95]) (I2 := sh_u2 m.I 93 (Int32.toNatClampNeg (m.I 66 53)) x1) (J2 := m.J) (fun hT v kk => ?_) ?_
  · refine sh_is1 (x := x1) (i := m.I 66 53) (pc2 := 10) rfl (sh_s93 hT.st) (sh_okb1 c) (sh_okb2 c) rfl ?_
    refine sh_w (i := (.aload_n 0)) (len := 1) (pc2 := 11) (lv2 := [(0, .ref 67), (1, .int x1)]) (st2 := [.ref 67]) (h2 := (sh_rep m.T (sh_u2 m.I 93 (Int32.toNatClampNeg (m.I 66 53)) x1) m.J)) rfl rfl rfl ?_
    refine sh_gR1 (len := 3) (x := .ref 95) (pc2 := 14) rfl rfl (sh_s66 hT.st) rfl rfl ?_
    refine sh_w (i := (.aload_n 0)) (len := 1) (pc2 := 15) (lv2 := [(0, .ref 67), (1, .int x1)]) (st2 := [.ref 67, .ref 95]) (h2 := (sh_rep m.T (sh_u2 m.I 93 (Int32.toNatClampNeg (m.I 66 53)) x1) m.J)) rfl rfl rfl ?_
    refine sh_gI1 (len := 3) (x := m.I 66 53) (pc2 := 18) rfl rfl (sh_s66 hT.st) rfl rfl rfl ?_
    refine sh_w (i := (.aload_n 0)) (len := 1) (pc2 := 19) (lv2 := [(0, .ref 67), (1, .int x1)]) (st2 := [.ref 67, .int (m.I 66 53), .ref 95]) (h2 := (sh_rep m.T (sh_u2 m.I 93 (Int32.toNatClampNeg (m.I 66 53)) x1) m.J)) rfl rfl rfl ?_
    refine sh_gI1 (len := 3) (x := m.I 66 43) (pc2 := 22) rfl rfl (sh_s66 hT.st) rfl rfl rfl ?_
    exact kk
  obtain ⟨c, e⟩ := sh_gd e
  refine sh_Lk_lift (T := m.T) (I := sh_u2 m.I 93 (Int32.toNatClampNeg (m.I 66 53)) x1) (J := m.J) (s := m.s) (pc2 := 35) (lv2 := [(0, .ref 67), (1, .int x1)]) (st2 := [.int (m.I 66 44), .int (m.I 66 53), .ref 96]) (I2 := sh_u2 (sh_u2 m.I 93 (Int32.toNatClampNeg (m.I 66 53)) x1) 94 (Int32.toNatClampNeg (m.I 66 53)) (m.I 66 43)) (J2 := m.J) (fun hT v kk => ?_) ?_
  · refine sh_is1 (x := m.I 66 43) (i := m.I 66 53) (pc2 := 23) rfl (sh_s94 hT.st) (sh_okb1 c) (sh_okb2 c) rfl ?_
    refine sh_w (i := (.aload_n 0)) (len := 1) (pc2 := 24) (lv2 := [(0, .ref 67), (1, .int x1)]) (st2 := [.ref 67]) (h2 := (sh_rep m.T (sh_u2 (sh_u2 m.I 93 (Int32.toNatClampNeg (m.I 66 53)) x1) 94 (Int32.toNatClampNeg (m.I 66 53)) (m.I 66 43)) m.J)) rfl rfl rfl ?_
    refine sh_gR1 (len := 3) (x := .ref 96) (pc2 := 27) rfl rfl (sh_s66 hT.st) rfl rfl ?_
    refine sh_w (i := (.aload_n 0)) (len := 1) (pc2 := 28) (lv2 := [(0, .ref 67), (1, .int x1)]) (st2 := [.ref 67, .ref 96]) (h2 := (sh_rep m.T (sh_u2 (sh_u2 m.I 93 (Int32.toNatClampNeg (m.I 66 53)) x1) 94 (Int32.toNatClampNeg (m.I 66 53)) (m.I 66 43)) m.J)) rfl rfl rfl ?_
    refine sh_gI1 (len := 3) (x := m.I 66 53) (pc2 := 31) rfl rfl (sh_s66 hT.st) rfl rfl rfl ?_
    refine sh_w (i := (.aload_n 0)) (len := 1) (pc2 := 32) (lv2 := [(0, .ref 67), (1, .int x1)]) (st2 := [.ref 67, .int (m.I 66 53), .ref 96]) (h2 := (sh_rep m.T (sh_u2 (sh_u2 m.I 93 (Int32.toNatClampNeg (m.I 66 53)) x1) 94 (Int32.toNatClampNeg (m.I 66 53)) (m.I 66 43)) m.J)) rfl rfl rfl ?_
    refine sh_gI1 (len := 3) (x := m.I 66 44) (pc2 := 35) rfl rfl (sh_s66 hT.st) rfl rfl rfl ?_
    exact kk
  obtain ⟨c, e⟩ := sh_gd e
  refine sh_Lk_lift (T := m.T) (I := sh_u2 (sh_u2 m.I 93 (Int32.toNatClampNeg (m.I 66 53)) x1) 94 (Int32.toNatClampNeg (m.I 66 53)) (m.I 66 43)) (J := m.J) (s := m.s) (pc2 := 48) (lv2 := [(0, .ref 67), (1, .int x1)]) (st2 := [.int (m.I 66 45), .int (m.I 66 53), .ref 97]) (I2 := sh_u2 (sh_u2 (sh_u2 m.I 93 (Int32.toNatClampNeg (m.I 66 53)) x1) 94 (Int32.toNatClampNeg (m.I 66 53)) (m.I 66 43)) 95 (Int32.toNatClampNeg (m.I 66 53)) (m.I 66 44)) (J2 := m.J) (fun hT v kk => ?_) ?_
  · refine sh_is1 (x := m.I 66 44) (i := m.I 66 53) (pc2 := 36) rfl (sh_s95 hT.st) (sh_okb1 c) (sh_okb2 c) rfl ?_
    refine sh_w (i := (.aload_n 0)) (len := 1) (pc2 := 37) (lv2 := [(0, .ref 67), (1, .int x1)]) (st2 := [.ref 67]) (h2 := (sh_rep m.T (sh_u2 (sh_u2 (sh_u2 m.I 93 (Int32.toNatClampNeg (m.I 66 53)) x1) 94 (Int32.toNatClampNeg (m.I 66 53)) (m.I 66 43)) 95 (Int32.toNatClampNeg (m.I 66 53)) (m.I 66 44)) m.J)) rfl rfl rfl ?_
    refine sh_gR1 (len := 3) (x := .ref 97) (pc2 := 40) rfl rfl (sh_s66 hT.st) rfl rfl ?_
    refine sh_w (i := (.aload_n 0)) (len := 1) (pc2 := 41) (lv2 := [(0, .ref 67), (1, .int x1)]) (st2 := [.ref 67, .ref 97]) (h2 := (sh_rep m.T (sh_u2 (sh_u2 (sh_u2 m.I 93 (Int32.toNatClampNeg (m.I 66 53)) x1) 94 (Int32.toNatClampNeg (m.I 66 53)) (m.I 66 43)) 95 (Int32.toNatClampNeg (m.I 66 53)) (m.I 66 44)) m.J)) rfl rfl rfl ?_
    refine sh_gI1 (len := 3) (x := m.I 66 53) (pc2 := 44) rfl rfl (sh_s66 hT.st) rfl rfl rfl ?_
    refine sh_w (i := (.aload_n 0)) (len := 1) (pc2 := 45) (lv2 := [(0, .ref 67), (1, .int x1)]) (st2 := [.ref 67, .int (m.I 66 53), .ref 97]) (h2 := (sh_rep m.T (sh_u2 (sh_u2 (sh_u2 m.I 93 (Int32.toNatClampNeg (m.I 66 53)) x1) 94 (Int32.toNatClampNeg (m.I 66 53)) (m.I 66 43)) 95 (Int32.toNatClampNeg (m.I 66 53)) (m.I 66 44)) m.J)) rfl rfl rfl ?_
    refine sh_gI1 (len := 3) (x := m.I 66 45) (pc2 := 48) rfl rfl (sh_s66 hT.st) rfl rfl rfl ?_
    exact kk
  obtain ⟨c, e⟩ := sh_gd e
  refine sh_Lk_lift (T := m.T) (I := sh_u2 (sh_u2 (sh_u2 m.I 93 (Int32.toNatClampNeg (m.I 66 53)) x1) 94 (Int32.toNatClampNeg (m.I 66 53)) (m.I 66 43)) 95 (Int32.toNatClampNeg (m.I 66 53)) (m.I 66 44)) (J := m.J) (s := m.s) (pc2 := 61) (lv2 := [(0, .ref 67), (1, .int x1)]) (st2 := [.long (m.J 66 46), .int (m.I 66 53), .ref 99]) (I2 := sh_u2 (sh_u2 (sh_u2 (sh_u2 m.I 93 (Int32.toNatClampNeg (m.I 66 53)) x1) 94 (Int32.toNatClampNeg (m.I 66 53)) (m.I 66 43)) 95 (Int32.toNatClampNeg (m.I 66 53)) (m.I 66 44)) 96 (Int32.toNatClampNeg (m.I 66 53)) (m.I 66 45)) (J2 := m.J) (fun hT v kk => ?_) ?_
  · refine sh_is1 (x := m.I 66 45) (i := m.I 66 53) (pc2 := 49) rfl (sh_s96 hT.st) (sh_okb1 c) (sh_okb2 c) rfl ?_
    refine sh_w (i := (.aload_n 0)) (len := 1) (pc2 := 50) (lv2 := [(0, .ref 67), (1, .int x1)]) (st2 := [.ref 67]) (h2 := (sh_rep m.T (sh_u2 (sh_u2 (sh_u2 (sh_u2 m.I 93 (Int32.toNatClampNeg (m.I 66 53)) x1) 94 (Int32.toNatClampNeg (m.I 66 53)) (m.I 66 43)) 95 (Int32.toNatClampNeg (m.I 66 53)) (m.I 66 44)) 96 (Int32.toNatClampNeg (m.I 66 53)) (m.I 66 45)) m.J)) rfl rfl rfl ?_
    refine sh_gR1 (len := 3) (x := .ref 99) (pc2 := 53) rfl rfl (sh_s66 hT.st) rfl rfl ?_
    refine sh_w (i := (.aload_n 0)) (len := 1) (pc2 := 54) (lv2 := [(0, .ref 67), (1, .int x1)]) (st2 := [.ref 67, .ref 99]) (h2 := (sh_rep m.T (sh_u2 (sh_u2 (sh_u2 (sh_u2 m.I 93 (Int32.toNatClampNeg (m.I 66 53)) x1) 94 (Int32.toNatClampNeg (m.I 66 53)) (m.I 66 43)) 95 (Int32.toNatClampNeg (m.I 66 53)) (m.I 66 44)) 96 (Int32.toNatClampNeg (m.I 66 53)) (m.I 66 45)) m.J)) rfl rfl rfl ?_
    refine sh_gI1 (len := 3) (x := m.I 66 53) (pc2 := 57) rfl rfl (sh_s66 hT.st) rfl rfl rfl ?_
    refine sh_w (i := (.aload_n 0)) (len := 1) (pc2 := 58) (lv2 := [(0, .ref 67), (1, .int x1)]) (st2 := [.ref 67, .int (m.I 66 53), .ref 99]) (h2 := (sh_rep m.T (sh_u2 (sh_u2 (sh_u2 (sh_u2 m.I 93 (Int32.toNatClampNeg (m.I 66 53)) x1) 94 (Int32.toNatClampNeg (m.I 66 53)) (m.I 66 43)) 95 (Int32.toNatClampNeg (m.I 66 53)) (m.I 66 44)) 96 (Int32.toNatClampNeg (m.I 66 53)) (m.I 66 45)) m.J)) rfl rfl rfl ?_
    refine sh_gJ1 (len := 3) (x := m.J 66 46) (pc2 := 61) rfl rfl (sh_s66 hT.st) rfl rfl rfl ?_
    exact kk
  obtain ⟨c, e⟩ := sh_gd e
  refine sh_Lk_lift (T := m.T) (I := sh_u2 (sh_u2 (sh_u2 (sh_u2 m.I 93 (Int32.toNatClampNeg (m.I 66 53)) x1) 94 (Int32.toNatClampNeg (m.I 66 53)) (m.I 66 43)) 95 (Int32.toNatClampNeg (m.I 66 53)) (m.I 66 44)) 96 (Int32.toNatClampNeg (m.I 66 53)) (m.I 66 45)) (J := m.J) (s := m.s) (pc2 := 80) (lv2 := [(2, .int (Int64.toInt32 (m.J 66 46))), (0, .ref 67), (1, .int x1)]) (st2 := [.int (m.I 66 41), .int (m.I 66 53), .ref 98]) (I2 := sh_u2 (sh_u2 (sh_u2 (sh_u2 m.I 93 (Int32.toNatClampNeg (m.I 66 53)) x1) 94 (Int32.toNatClampNeg (m.I 66 53)) (m.I 66 43)) 95 (Int32.toNatClampNeg (m.I 66 53)) (m.I 66 44)) 96 (Int32.toNatClampNeg (m.I 66 53)) (m.I 66 45)) (J2 := sh_u2 m.J 98 (Int32.toNatClampNeg (m.I 66 53)) (m.J 66 46)) (fun hT v kk => ?_) ?_
  · refine sh_ls1 (x := m.J 66 46) (i := m.I 66 53) (pc2 := 62) rfl (sh_s98 hT.st) (sh_okb1 c) (sh_okb2 c) rfl ?_
    refine sh_w (i := (.aload_n 0)) (len := 1) (pc2 := 63) (lv2 := [(0, .ref 67), (1, .int x1)]) (st2 := [.ref 67]) (h2 := (sh_rep m.T (sh_u2 (sh_u2 (sh_u2 (sh_u2 m.I 93 (Int32.toNatClampNeg (m.I 66 53)) x1) 94 (Int32.toNatClampNeg (m.I 66 53)) (m.I 66 43)) 95 (Int32.toNatClampNeg (m.I 66 53)) (m.I 66 44)) 96 (Int32.toNatClampNeg (m.I 66 53)) (m.I 66 45)) (sh_u2 m.J 98 (Int32.toNatClampNeg (m.I 66 53)) (m.J 66 46)))) rfl rfl rfl ?_
    refine sh_gJ1 (len := 3) (x := m.J 66 46) (pc2 := 66) rfl rfl (sh_s66 hT.st) rfl rfl rfl ?_
    refine sh_w (i := .l2i) (len := 1) (pc2 := 67) (lv2 := [(0, .ref 67), (1, .int x1)]) (st2 := [.int (Int64.toInt32 (m.J 66 46))]) (h2 := (sh_rep m.T (sh_u2 (sh_u2 (sh_u2 (sh_u2 m.I 93 (Int32.toNatClampNeg (m.I 66 53)) x1) 94 (Int32.toNatClampNeg (m.I 66 53)) (m.I 66 43)) 95 (Int32.toNatClampNeg (m.I 66 53)) (m.I 66 44)) 96 (Int32.toNatClampNeg (m.I 66 53)) (m.I 66 45)) (sh_u2 m.J 98 (Int32.toNatClampNeg (m.I 66 53)) (m.J 66 46)))) rfl rfl rfl ?_
    refine sh_w (i := (.istore_n 2)) (len := 1) (pc2 := 68) (lv2 := [(2, .int (Int64.toInt32 (m.J 66 46))), (0, .ref 67), (1, .int x1)]) (st2 := []) (h2 := (sh_rep m.T (sh_u2 (sh_u2 (sh_u2 (sh_u2 m.I 93 (Int32.toNatClampNeg (m.I 66 53)) x1) 94 (Int32.toNatClampNeg (m.I 66 53)) (m.I 66 43)) 95 (Int32.toNatClampNeg (m.I 66 53)) (m.I 66 44)) 96 (Int32.toNatClampNeg (m.I 66 53)) (m.I 66 45)) (sh_u2 m.J 98 (Int32.toNatClampNeg (m.I 66 53)) (m.J 66 46)))) rfl rfl rfl ?_
    refine sh_w (i := (.aload_n 0)) (len := 1) (pc2 := 69) (lv2 := [(2, .int (Int64.toInt32 (m.J 66 46))), (0, .ref 67), (1, .int x1)]) (st2 := [.ref 67]) (h2 := (sh_rep m.T (sh_u2 (sh_u2 (sh_u2 (sh_u2 m.I 93 (Int32.toNatClampNeg (m.I 66 53)) x1) 94 (Int32.toNatClampNeg (m.I 66 53)) (m.I 66 43)) 95 (Int32.toNatClampNeg (m.I 66 53)) (m.I 66 44)) 96 (Int32.toNatClampNeg (m.I 66 53)) (m.I 66 45)) (sh_u2 m.J 98 (Int32.toNatClampNeg (m.I 66 53)) (m.J 66 46)))) rfl rfl rfl ?_
    refine sh_gR1 (len := 3) (x := .ref 98) (pc2 := 72) rfl rfl (sh_s66 hT.st) rfl rfl ?_
    refine sh_w (i := (.aload_n 0)) (len := 1) (pc2 := 73) (lv2 := [(2, .int (Int64.toInt32 (m.J 66 46))), (0, .ref 67), (1, .int x1)]) (st2 := [.ref 67, .ref 98]) (h2 := (sh_rep m.T (sh_u2 (sh_u2 (sh_u2 (sh_u2 m.I 93 (Int32.toNatClampNeg (m.I 66 53)) x1) 94 (Int32.toNatClampNeg (m.I 66 53)) (m.I 66 43)) 95 (Int32.toNatClampNeg (m.I 66 53)) (m.I 66 44)) 96 (Int32.toNatClampNeg (m.I 66 53)) (m.I 66 45)) (sh_u2 m.J 98 (Int32.toNatClampNeg (m.I 66 53)) (m.J 66 46)))) rfl rfl rfl ?_
    refine sh_gI1 (len := 3) (x := m.I 66 53) (pc2 := 76) rfl rfl (sh_s66 hT.st) rfl rfl rfl ?_
    refine sh_w (i := (.aload_n 0)) (len := 1) (pc2 := 77) (lv2 := [(2, .int (Int64.toInt32 (m.J 66 46))), (0, .ref 67), (1, .int x1)]) (st2 := [.ref 67, .int (m.I 66 53), .ref 98]) (h2 := (sh_rep m.T (sh_u2 (sh_u2 (sh_u2 (sh_u2 m.I 93 (Int32.toNatClampNeg (m.I 66 53)) x1) 94 (Int32.toNatClampNeg (m.I 66 53)) (m.I 66 43)) 95 (Int32.toNatClampNeg (m.I 66 53)) (m.I 66 44)) 96 (Int32.toNatClampNeg (m.I 66 53)) (m.I 66 45)) (sh_u2 m.J 98 (Int32.toNatClampNeg (m.I 66 53)) (m.J 66 46)))) rfl rfl rfl ?_
    refine sh_gI1 (len := 3) (x := m.I 66 41) (pc2 := 80) rfl rfl (sh_s66 hT.st) rfl rfl rfl ?_
    exact kk
  obtain ⟨c, e⟩ := sh_gd e
  refine sh_Lk_lift (T := m.T) (I := sh_u2 (sh_u2 (sh_u2 (sh_u2 m.I 93 (Int32.toNatClampNeg (m.I 66 53)) x1) 94 (Int32.toNatClampNeg (m.I 66 53)) (m.I 66 43)) 95 (Int32.toNatClampNeg (m.I 66 53)) (m.I 66 44)) 96 (Int32.toNatClampNeg (m.I 66 53)) (m.I 66 45)) (J := sh_u2 m.J 98 (Int32.toNatClampNeg (m.I 66 53)) (m.J 66 46)) (s := m.s) (pc2 := 85) (lv2 := [(2, .int (Int64.toInt32 (m.J 66 46))), (0, .ref 67), (1, .int x1)]) (st2 := [.int (m.I 66 45)]) (I2 := sh_u2 (sh_u2 (sh_u2 (sh_u2 (sh_u2 m.I 93 (Int32.toNatClampNeg (m.I 66 53)) x1) 94 (Int32.toNatClampNeg (m.I 66 53)) (m.I 66 43)) 95 (Int32.toNatClampNeg (m.I 66 53)) (m.I 66 44)) 96 (Int32.toNatClampNeg (m.I 66 53)) (m.I 66 45)) 97 (Int32.toNatClampNeg (m.I 66 53)) (m.I 66 41)) (J2 := sh_u2 m.J 98 (Int32.toNatClampNeg (m.I 66 53)) (m.J 66 46)) (fun hT v kk => ?_) ?_
  · refine sh_is1 (x := m.I 66 41) (i := m.I 66 53) (pc2 := 81) rfl (sh_s97 hT.st) (sh_okb1 c) (sh_okb2 c) rfl ?_
    refine sh_w (i := (.aload_n 0)) (len := 1) (pc2 := 82) (lv2 := [(2, .int (Int64.toInt32 (m.J 66 46))), (0, .ref 67), (1, .int x1)]) (st2 := [.ref 67]) (h2 := (sh_rep m.T (sh_u2 (sh_u2 (sh_u2 (sh_u2 (sh_u2 m.I 93 (Int32.toNatClampNeg (m.I 66 53)) x1) 94 (Int32.toNatClampNeg (m.I 66 53)) (m.I 66 43)) 95 (Int32.toNatClampNeg (m.I 66 53)) (m.I 66 44)) 96 (Int32.toNatClampNeg (m.I 66 53)) (m.I 66 45)) 97 (Int32.toNatClampNeg (m.I 66 53)) (m.I 66 41)) (sh_u2 m.J 98 (Int32.toNatClampNeg (m.I 66 53)) (m.J 66 46)))) rfl rfl rfl ?_
    refine sh_gI1 (len := 3) (x := m.I 66 45) (pc2 := 85) rfl rfl (sh_s66 hT.st) rfl rfl rfl ?_
    exact kk
  rcases sh_ite e with ⟨c, e⟩ | ⟨c, e⟩
  · refine sh_Lk_lift (T := m.T) (I := sh_u2 (sh_u2 (sh_u2 (sh_u2 (sh_u2 m.I 93 (Int32.toNatClampNeg (m.I 66 53)) x1) 94 (Int32.toNatClampNeg (m.I 66 53)) (m.I 66 43)) 95 (Int32.toNatClampNeg (m.I 66 53)) (m.I 66 44)) 96 (Int32.toNatClampNeg (m.I 66 53)) (m.I 66 45)) 97 (Int32.toNatClampNeg (m.I 66 53)) (m.I 66 41)) (J := sh_u2 m.J 98 (Int32.toNatClampNeg (m.I 66 53)) (m.J 66 46)) (s := m.s) (pc2 := 100) (lv2 := [(2, .int (Int64.toInt32 (m.J 66 46))), (0, .ref 67), (1, .int x1)]) (st2 := [.long (m.J 66 46), .int (m.I 66 41), .ref 93]) (I2 := sh_u2 (sh_u2 (sh_u2 (sh_u2 (sh_u2 m.I 93 (Int32.toNatClampNeg (m.I 66 53)) x1) 94 (Int32.toNatClampNeg (m.I 66 53)) (m.I 66 43)) 95 (Int32.toNatClampNeg (m.I 66 53)) (m.I 66 44)) 96 (Int32.toNatClampNeg (m.I 66 53)) (m.I 66 45)) 97 (Int32.toNatClampNeg (m.I 66 53)) (m.I 66 41)) (J2 := sh_u2 m.J 98 (Int32.toNatClampNeg (m.I 66 53)) (m.J 66 46)) (fun hT v kk => ?_) ?_
    · refine sh_j0 (c := .ne) (off := (29)) (pc2 := 88) false rfl (sh_Bnef c) rfl ?_
      refine sh_w (i := (.aload_n 0)) (len := 1) (pc2 := 89) (lv2 := [(2, .int (Int64.toInt32 (m.J 66 46))), (0, .ref 67), (1, .int x1)]) (st2 := [.ref 67]) (h2 := (sh_rep m.T (sh_u2 (sh_u2 (sh_u2 (sh_u2 (sh_u2 m.I 93 (Int32.toNatClampNeg (m.I 66 53)) x1) 94 (Int32.toNatClampNeg (m.I 66 53)) (m.I 66 43)) 95 (Int32.toNatClampNeg (m.I 66 53)) (m.I 66 44)) 96 (Int32.toNatClampNeg (m.I 66 53)) (m.I 66 45)) 97 (Int32.toNatClampNeg (m.I 66 53)) (m.I 66 41)) (sh_u2 m.J 98 (Int32.toNatClampNeg (m.I 66 53)) (m.J 66 46)))) rfl rfl rfl ?_
      refine sh_gR1 (len := 3) (x := .ref 93) (pc2 := 92) rfl rfl (sh_s66 hT.st) rfl rfl ?_
      refine sh_w (i := (.aload_n 0)) (len := 1) (pc2 := 93) (lv2 := [(2, .int (Int64.toInt32 (m.J 66 46))), (0, .ref 67), (1, .int x1)]) (st2 := [.ref 67, .ref 93]) (h2 := (sh_rep m.T (sh_u2 (sh_u2 (sh_u2 (sh_u2 (sh_u2 m.I 93 (Int32.toNatClampNeg (m.I 66 53)) x1) 94 (Int32.toNatClampNeg (m.I 66 53)) (m.I 66 43)) 95 (Int32.toNatClampNeg (m.I 66 53)) (m.I 66 44)) 96 (Int32.toNatClampNeg (m.I 66 53)) (m.I 66 45)) 97 (Int32.toNatClampNeg (m.I 66 53)) (m.I 66 41)) (sh_u2 m.J 98 (Int32.toNatClampNeg (m.I 66 53)) (m.J 66 46)))) rfl rfl rfl ?_
      refine sh_gI1 (len := 3) (x := m.I 66 41) (pc2 := 96) rfl rfl (sh_s66 hT.st) rfl rfl rfl ?_
      refine sh_w (i := (.aload_n 0)) (len := 1) (pc2 := 97) (lv2 := [(2, .int (Int64.toInt32 (m.J 66 46))), (0, .ref 67), (1, .int x1)]) (st2 := [.ref 67, .int (m.I 66 41), .ref 93]) (h2 := (sh_rep m.T (sh_u2 (sh_u2 (sh_u2 (sh_u2 (sh_u2 m.I 93 (Int32.toNatClampNeg (m.I 66 53)) x1) 94 (Int32.toNatClampNeg (m.I 66 53)) (m.I 66 43)) 95 (Int32.toNatClampNeg (m.I 66 53)) (m.I 66 44)) 96 (Int32.toNatClampNeg (m.I 66 53)) (m.I 66 45)) 97 (Int32.toNatClampNeg (m.I 66 53)) (m.I 66 41)) (sh_u2 m.J 98 (Int32.toNatClampNeg (m.I 66 53)) (m.J 66 46)))) rfl rfl rfl ?_
      refine sh_gJ1 (len := 3) (x := m.J 66 46) (pc2 := 100) rfl rfl (sh_s66 hT.st) rfl rfl rfl ?_
      exact kk
    obtain ⟨c, e⟩ := sh_gd e
    refine sh_Lk_lift (T := m.T) (I := sh_u2 (sh_u2 (sh_u2 (sh_u2 (sh_u2 m.I 93 (Int32.toNatClampNeg (m.I 66 53)) x1) 94 (Int32.toNatClampNeg (m.I 66 53)) (m.I 66 43)) 95 (Int32.toNatClampNeg (m.I 66 53)) (m.I 66 44)) 96 (Int32.toNatClampNeg (m.I 66 53)) (m.I 66 45)) 97 (Int32.toNatClampNeg (m.I 66 53)) (m.I 66 41)) (J := sh_u2 m.J 98 (Int32.toNatClampNeg (m.I 66 53)) (m.J 66 46)) (s := m.s) (pc2 := 162) (lv2 := [(2, .int (Int64.toInt32 (m.J 66 46))), (0, .ref 67), (1, .int x1)]) (st2 := []) (I2 := sh_u2 (sh_u2 (sh_u2 (sh_u2 (sh_u2 (sh_u2 m.I 93 (Int32.toNatClampNeg (m.I 66 53)) x1) 94 (Int32.toNatClampNeg (m.I 66 53)) (m.I 66 43)) 95 (Int32.toNatClampNeg (m.I 66 53)) (m.I 66 44)) 96 (Int32.toNatClampNeg (m.I 66 53)) (m.I 66 45)) 97 (Int32.toNatClampNeg (m.I 66 53)) (m.I 66 41)) 66 41 ((m.I 66 41) + 1)) (J2 := sh_u2 (sh_u2 m.J 98 (Int32.toNatClampNeg (m.I 66 53)) (m.J 66 46)) 92 (Int32.toNatClampNeg (m.I 66 41)) (m.J 66 46)) (fun hT v kk => ?_) ?_
    · refine sh_ls1 (x := m.J 66 46) (i := m.I 66 41) (pc2 := 101) rfl (sh_s92 hT.st) (sh_okb1 c) (sh_okb2 c) rfl ?_
      refine sh_w (i := (.aload_n 0)) (len := 1) (pc2 := 102) (lv2 := [(2, .int (Int64.toInt32 (m.J 66 46))), (0, .ref 67), (1, .int x1)]) (st2 := [.ref 67]) (h2 := (sh_rep m.T (sh_u2 (sh_u2 (sh_u2 (sh_u2 (sh_u2 m.I 93 (Int32.toNatClampNeg (m.I 66 53)) x1) 94 (Int32.toNatClampNeg (m.I 66 53)) (m.I 66 43)) 95 (Int32.toNatClampNeg (m.I 66 53)) (m.I 66 44)) 96 (Int32.toNatClampNeg (m.I 66 53)) (m.I 66 45)) 97 (Int32.toNatClampNeg (m.I 66 53)) (m.I 66 41)) (sh_u2 (sh_u2 m.J 98 (Int32.toNatClampNeg (m.I 66 53)) (m.J 66 46)) 92 (Int32.toNatClampNeg (m.I 66 41)) (m.J 66 46)))) rfl rfl rfl ?_
      refine sh_w (i := .dup) (len := 1) (pc2 := 103) (lv2 := [(2, .int (Int64.toInt32 (m.J 66 46))), (0, .ref 67), (1, .int x1)]) (st2 := [.ref 67, .ref 67]) (h2 := (sh_rep m.T (sh_u2 (sh_u2 (sh_u2 (sh_u2 (sh_u2 m.I 93 (Int32.toNatClampNeg (m.I 66 53)) x1) 94 (Int32.toNatClampNeg (m.I 66 53)) (m.I 66 43)) 95 (Int32.toNatClampNeg (m.I 66 53)) (m.I 66 44)) 96 (Int32.toNatClampNeg (m.I 66 53)) (m.I 66 45)) 97 (Int32.toNatClampNeg (m.I 66 53)) (m.I 66 41)) (sh_u2 (sh_u2 m.J 98 (Int32.toNatClampNeg (m.I 66 53)) (m.J 66 46)) 92 (Int32.toNatClampNeg (m.I 66 41)) (m.J 66 46)))) rfl rfl rfl ?_
      refine sh_gI1 (len := 3) (x := m.I 66 41) (pc2 := 106) rfl rfl (sh_s66 hT.st) rfl rfl rfl ?_
      refine sh_w (i := (.iconst 1)) (len := 1) (pc2 := 107) (lv2 := [(2, .int (Int64.toInt32 (m.J 66 46))), (0, .ref 67), (1, .int x1)]) (st2 := [.int 1, .int (m.I 66 41), .ref 67]) (h2 := (sh_rep m.T (sh_u2 (sh_u2 (sh_u2 (sh_u2 (sh_u2 m.I 93 (Int32.toNatClampNeg (m.I 66 53)) x1) 94 (Int32.toNatClampNeg (m.I 66 53)) (m.I 66 43)) 95 (Int32.toNatClampNeg (m.I 66 53)) (m.I 66 44)) 96 (Int32.toNatClampNeg (m.I 66 53)) (m.I 66 45)) 97 (Int32.toNatClampNeg (m.I 66 53)) (m.I 66 41)) (sh_u2 (sh_u2 m.J 98 (Int32.toNatClampNeg (m.I 66 53)) (m.J 66 46)) 92 (Int32.toNatClampNeg (m.I 66 41)) (m.J 66 46)))) rfl rfl rfl ?_
      refine sh_w (i := .iadd) (len := 1) (pc2 := 108) (lv2 := [(2, .int (Int64.toInt32 (m.J 66 46))), (0, .ref 67), (1, .int x1)]) (st2 := [.int ((m.I 66 41) + 1), .ref 67]) (h2 := (sh_rep m.T (sh_u2 (sh_u2 (sh_u2 (sh_u2 (sh_u2 m.I 93 (Int32.toNatClampNeg (m.I 66 53)) x1) 94 (Int32.toNatClampNeg (m.I 66 53)) (m.I 66 43)) 95 (Int32.toNatClampNeg (m.I 66 53)) (m.I 66 44)) 96 (Int32.toNatClampNeg (m.I 66 53)) (m.I 66 45)) 97 (Int32.toNatClampNeg (m.I 66 53)) (m.I 66 41)) (sh_u2 (sh_u2 m.J 98 (Int32.toNatClampNeg (m.I 66 53)) (m.J 66 46)) 92 (Int32.toNatClampNeg (m.I 66 41)) (m.J 66 46)))) rfl rfl rfl ?_
      refine sh_pI1 (x := (m.I 66 41) + 1) (pc2 := 111) rfl rfl (sh_s66 hT.st) rfl rfl rfl rfl ?_
      refine sh_w (i := (.goto 51)) (len := 3) (pc2 := 162) (lv2 := [(2, .int (Int64.toInt32 (m.J 66 46))), (0, .ref 67), (1, .int x1)]) (st2 := []) (h2 := (sh_rep m.T (sh_u2 (sh_u2 (sh_u2 (sh_u2 (sh_u2 (sh_u2 m.I 93 (Int32.toNatClampNeg (m.I 66 53)) x1) 94 (Int32.toNatClampNeg (m.I 66 53)) (m.I 66 43)) 95 (Int32.toNatClampNeg (m.I 66 53)) (m.I 66 44)) 96 (Int32.toNatClampNeg (m.I 66 53)) (m.I 66 45)) 97 (Int32.toNatClampNeg (m.I 66 53)) (m.I 66 41)) 66 41 ((m.I 66 41) + 1)) (sh_u2 (sh_u2 m.J 98 (Int32.toNatClampNeg (m.I 66 53)) (m.J 66 46)) 92 (Int32.toNatClampNeg (m.I 66 41)) (m.J 66 46)))) rfl rfl rfl ?_
      exact kk
    exact sh_Lk_sub (sh_sub_c rfl (sh_sub_n)) (sl_318_162 e tg)
  · refine sh_Lk_lift (T := m.T) (I := sh_u2 (sh_u2 (sh_u2 (sh_u2 (sh_u2 m.I 93 (Int32.toNatClampNeg (m.I 66 53)) x1) 94 (Int32.toNatClampNeg (m.I 66 53)) (m.I 66 43)) 95 (Int32.toNatClampNeg (m.I 66 53)) (m.I 66 44)) 96 (Int32.toNatClampNeg (m.I 66 53)) (m.I 66 45)) 97 (Int32.toNatClampNeg (m.I 66 53)) (m.I 66 41)) (J := sh_u2 m.J 98 (Int32.toNatClampNeg (m.I 66 53)) (m.J 66 46)) (s := m.s) (pc2 := 116) (lv2 := [(3, .int 0), (2, .int (Int64.toInt32 (m.J 66 46))), (0, .ref 67), (1, .int x1)]) (st2 := []) (I2 := sh_u2 (sh_u2 (sh_u2 (sh_u2 (sh_u2 m.I 93 (Int32.toNatClampNeg (m.I 66 53)) x1) 94 (Int32.toNatClampNeg (m.I 66 53)) (m.I 66 43)) 95 (Int32.toNatClampNeg (m.I 66 53)) (m.I 66 44)) 96 (Int32.toNatClampNeg (m.I 66 53)) (m.I 66 45)) 97 (Int32.toNatClampNeg (m.I 66 53)) (m.I 66 41)) (J2 := sh_u2 m.J 98 (Int32.toNatClampNeg (m.I 66 53)) (m.J 66 46)) (fun hT v kk => ?_) ?_
    · refine sh_j0 (c := .ne) (off := (29)) (pc2 := 114) true rfl (sh_Bnet c) rfl ?_
      refine sh_w (i := (.iconst 0)) (len := 1) (pc2 := 115) (lv2 := [(2, .int (Int64.toInt32 (m.J 66 46))), (0, .ref 67), (1, .int x1)]) (st2 := [.int 0]) (h2 := (sh_rep m.T (sh_u2 (sh_u2 (sh_u2 (sh_u2 (sh_u2 m.I 93 (Int32.toNatClampNeg (m.I 66 53)) x1) 94 (Int32.toNatClampNeg (m.I 66 53)) (m.I 66 43)) 95 (Int32.toNatClampNeg (m.I 66 53)) (m.I 66 44)) 96 (Int32.toNatClampNeg (m.I 66 53)) (m.I 66 45)) 97 (Int32.toNatClampNeg (m.I 66 53)) (m.I 66 41)) (sh_u2 m.J 98 (Int32.toNatClampNeg (m.I 66 53)) (m.J 66 46)))) rfl rfl rfl ?_
      refine sh_w (i := (.istore_n 3)) (len := 1) (pc2 := 116) (lv2 := [(3, .int 0), (2, .int (Int64.toInt32 (m.J 66 46))), (0, .ref 67), (1, .int x1)]) (st2 := []) (h2 := (sh_rep m.T (sh_u2 (sh_u2 (sh_u2 (sh_u2 (sh_u2 m.I 93 (Int32.toNatClampNeg (m.I 66 53)) x1) 94 (Int32.toNatClampNeg (m.I 66 53)) (m.I 66 43)) 95 (Int32.toNatClampNeg (m.I 66 53)) (m.I 66 44)) 96 (Int32.toNatClampNeg (m.I 66 53)) (m.I 66 45)) 97 (Int32.toNatClampNeg (m.I 66 53)) (m.I 66 41)) (sh_u2 m.J 98 (Int32.toNatClampNeg (m.I 66 53)) (m.J 66 46)))) rfl rfl rfl ?_
      exact kk
    exact sh_Lk_sub (sh_sub_c rfl (sh_sub_c rfl (sh_sub_c rfl (sh_sub_n)))) (sl_318_116 e tg)
def sh_QL279 (Q : sh_Q279) (d : Nat) : Prop := (∀ {x1 : Int32} {m m2 : sh_X} {o : Outcome} {z : (Bool × sh_X)}, Q.f290 x1 m = some z → (sh_tZ o m2) z → sh_Lk 290 0 [(0, .ref 67), (1, .int x1)] [] m o m2 (d + 15) (40 * d + 385)) ∧ (∀ {x1 : Int32} {m m2 : sh_X} {o : Outcome} {z : (Bool × sh_X)}, Q.f291 x1 m = some z → (sh_tZ o m2) z → sh_Lk 291 0 [(0, .ref 67), (1, .int x1)] [] m o m2 (d + 15) (40 * d + 385)) ∧ (∀ {x1 : Int32} {m m2 : sh_X} {o : Outcome} {z : (Bool × sh_X)}, Q.f293 x1 m = some z → (sh_tZ o m2) z → sh_Lk 293 0 [(0, .ref 67), (1, .int x1)] [] m o m2 (d + 15) (40 * d + 385)) ∧ (∀ {x1 : Int32} {m m2 : sh_X} {o : Outcome} {z : (Bool × sh_X)}, Q.f294 x1 m = some z → (sh_tZ o m2) z → sh_Lk 294 0 [(0, .ref 67), (1, .int x1)] [] m o m2 (d + 15) (40 * d + 385)) ∧ (∀ {x1 : Int32} {m m2 : sh_X} {o : Outcome} {z : (Bool × sh_X)}, Q.f313 x1 m = some z → (sh_tZ o m2) z → sh_Lk 313 0 [(0, .ref 67), (1, .int x1)] [] m o m2 (d + 15) (40 * d + 385)) ∧ (∀ {x1 : Int32} {m m2 : sh_X} {o : Outcome} {z : (Bool × sh_X)}, Q.f315 x1 m = some z → (sh_tZ o m2) z → sh_Lk 315 0 [(0, .ref 67), (1, .int x1)] [] m o m2 (d + 15) (40 * d + 385)) ∧ (∀ {x1 : Int32} {m m2 : sh_X} {o : Outcome} {z : (Bool × sh_X)}, Q.f319 x1 m = some z → (sh_tZ o m2) z → sh_Lk 319 0 [(0, .ref 67), (1, .int x1)] [] m o m2 (d + 15) (40 * d + 385)) ∧ (∀ {x1 : Int32} {m m2 : sh_X} {o : Outcome} {z : (Bool × sh_X)}, Q.f320 x1 m = some z → (sh_tZ o m2) z → sh_Lk 320 0 [(0, .ref 67), (1, .int x1)] [] m o m2 (d + 15) (40 * d + 385)) ∧ (∀ {x1 : Int32} {m m2 : sh_X} {o : Outcome} {z : (Bool × sh_X)}, Q.f321 x1 m = some z → (sh_tZ o m2) z → sh_Lk 321 0 [(0, .ref 67), (1, .int x1)] [] m o m2 (d + 15) (40 * d + 385)) ∧ (∀ {x1 : Int32} {m m2 : sh_X} {o : Outcome} {z : (Bool × sh_X)}, Q.f322 x1 m = some z → (sh_tZ o m2) z → sh_Lk 322 0 [(0, .ref 67), (1, .int x1)] [] m o m2 (d + 15) (40 * d + 385))
theorem sh_QL279.f290 {Q : sh_Q279} {d : Nat} (h : sh_QL279 Q d) : ∀ {x1 : Int32} {m m2 : sh_X} {o : Outcome} {z : (Bool × sh_X)}, Q.f290 x1 m = some z → (sh_tZ o m2) z → sh_Lk 290 0 [(0, .ref 67), (1, .int x1)] [] m o m2 (d + 15) (40 * d + 385) := h.1
theorem sh_QL279.f291 {Q : sh_Q279} {d : Nat} (h : sh_QL279 Q d) : ∀ {x1 : Int32} {m m2 : sh_X} {o : Outcome} {z : (Bool × sh_X)}, Q.f291 x1 m = some z → (sh_tZ o m2) z → sh_Lk 291 0 [(0, .ref 67), (1, .int x1)] [] m o m2 (d + 15) (40 * d + 385) := h.2.1
theorem sh_QL279.f293 {Q : sh_Q279} {d : Nat} (h : sh_QL279 Q d) : ∀ {x1 : Int32} {m m2 : sh_X} {o : Outcome} {z : (Bool × sh_X)}, Q.f293 x1 m = some z → (sh_tZ o m2) z → sh_Lk 293 0 [(0, .ref 67), (1, .int x1)] [] m o m2 (d + 15) (40 * d + 385) := h.2.2.1
theorem sh_QL279.f294 {Q : sh_Q279} {d : Nat} (h : sh_QL279 Q d) : ∀ {x1 : Int32} {m m2 : sh_X} {o : Outcome} {z : (Bool × sh_X)}, Q.f294 x1 m = some z → (sh_tZ o m2) z → sh_Lk 294 0 [(0, .ref 67), (1, .int x1)] [] m o m2 (d + 15) (40 * d + 385) := h.2.2.2.1
theorem sh_QL279.f313 {Q : sh_Q279} {d : Nat} (h : sh_QL279 Q d) : ∀ {x1 : Int32} {m m2 : sh_X} {o : Outcome} {z : (Bool × sh_X)}, Q.f313 x1 m = some z → (sh_tZ o m2) z → sh_Lk 313 0 [(0, .ref 67), (1, .int x1)] [] m o m2 (d + 15) (40 * d + 385) := h.2.2.2.2.1
theorem sh_QL279.f315 {Q : sh_Q279} {d : Nat} (h : sh_QL279 Q d) : ∀ {x1 : Int32} {m m2 : sh_X} {o : Outcome} {z : (Bool × sh_X)}, Q.f315 x1 m = some z → (sh_tZ o m2) z → sh_Lk 315 0 [(0, .ref 67), (1, .int x1)] [] m o m2 (d + 15) (40 * d + 385) := h.2.2.2.2.2.1
theorem sh_QL279.f319 {Q : sh_Q279} {d : Nat} (h : sh_QL279 Q d) : ∀ {x1 : Int32} {m m2 : sh_X} {o : Outcome} {z : (Bool × sh_X)}, Q.f319 x1 m = some z → (sh_tZ o m2) z → sh_Lk 319 0 [(0, .ref 67), (1, .int x1)] [] m o m2 (d + 15) (40 * d + 385) := h.2.2.2.2.2.2.1
theorem sh_QL279.f320 {Q : sh_Q279} {d : Nat} (h : sh_QL279 Q d) : ∀ {x1 : Int32} {m m2 : sh_X} {o : Outcome} {z : (Bool × sh_X)}, Q.f320 x1 m = some z → (sh_tZ o m2) z → sh_Lk 320 0 [(0, .ref 67), (1, .int x1)] [] m o m2 (d + 15) (40 * d + 385) := h.2.2.2.2.2.2.2.1
theorem sh_QL279.f321 {Q : sh_Q279} {d : Nat} (h : sh_QL279 Q d) : ∀ {x1 : Int32} {m m2 : sh_X} {o : Outcome} {z : (Bool × sh_X)}, Q.f321 x1 m = some z → (sh_tZ o m2) z → sh_Lk 321 0 [(0, .ref 67), (1, .int x1)] [] m o m2 (d + 15) (40 * d + 385) := h.2.2.2.2.2.2.2.2.1
theorem sh_QL279.f322 {Q : sh_Q279} {d : Nat} (h : sh_QL279 Q d) : ∀ {x1 : Int32} {m m2 : sh_X} {o : Outcome} {z : (Bool × sh_X)}, Q.f322 x1 m = some z → (sh_tZ o m2) z → sh_Lk 322 0 [(0, .ref 67), (1, .int x1)] [] m o m2 (d + 15) (40 * d + 385) := h.2.2.2.2.2.2.2.2.2
theorem sh_QL279.mk {Q : sh_Q279} {d : Nat} (f290 : ∀ {x1 : Int32} {m m2 : sh_X} {o : Outcome} {z : (Bool × sh_X)}, Q.f290 x1 m = some z → (sh_tZ o m2) z → sh_Lk 290 0 [(0, .ref 67), (1, .int x1)] [] m o m2 (d + 15) (40 * d + 385)) (f291 : ∀ {x1 : Int32} {m m2 : sh_X} {o : Outcome} {z : (Bool × sh_X)}, Q.f291 x1 m = some z → (sh_tZ o m2) z → sh_Lk 291 0 [(0, .ref 67), (1, .int x1)] [] m o m2 (d + 15) (40 * d + 385)) (f293 : ∀ {x1 : Int32} {m m2 : sh_X} {o : Outcome} {z : (Bool × sh_X)}, Q.f293 x1 m = some z → (sh_tZ o m2) z → sh_Lk 293 0 [(0, .ref 67), (1, .int x1)] [] m o m2 (d + 15) (40 * d + 385)) (f294 : ∀ {x1 : Int32} {m m2 : sh_X} {o : Outcome} {z : (Bool × sh_X)}, Q.f294 x1 m = some z → (sh_tZ o m2) z → sh_Lk 294 0 [(0, .ref 67), (1, .int x1)] [] m o m2 (d + 15) (40 * d + 385)) (f313 : ∀ {x1 : Int32} {m m2 : sh_X} {o : Outcome} {z : (Bool × sh_X)}, Q.f313 x1 m = some z → (sh_tZ o m2) z → sh_Lk 313 0 [(0, .ref 67), (1, .int x1)] [] m o m2 (d + 15) (40 * d + 385)) (f315 : ∀ {x1 : Int32} {m m2 : sh_X} {o : Outcome} {z : (Bool × sh_X)}, Q.f315 x1 m = some z → (sh_tZ o m2) z → sh_Lk 315 0 [(0, .ref 67), (1, .int x1)] [] m o m2 (d + 15) (40 * d + 385)) (f319 : ∀ {x1 : Int32} {m m2 : sh_X} {o : Outcome} {z : (Bool × sh_X)}, Q.f319 x1 m = some z → (sh_tZ o m2) z → sh_Lk 319 0 [(0, .ref 67), (1, .int x1)] [] m o m2 (d + 15) (40 * d + 385)) (f320 : ∀ {x1 : Int32} {m m2 : sh_X} {o : Outcome} {z : (Bool × sh_X)}, Q.f320 x1 m = some z → (sh_tZ o m2) z → sh_Lk 320 0 [(0, .ref 67), (1, .int x1)] [] m o m2 (d + 15) (40 * d + 385)) (f321 : ∀ {x1 : Int32} {m m2 : sh_X} {o : Outcome} {z : (Bool × sh_X)}, Q.f321 x1 m = some z → (sh_tZ o m2) z → sh_Lk 321 0 [(0, .ref 67), (1, .int x1)] [] m o m2 (d + 15) (40 * d + 385)) (f322 : ∀ {x1 : Int32} {m m2 : sh_X} {o : Outcome} {z : (Bool × sh_X)}, Q.f322 x1 m = some z → (sh_tZ o m2) z → sh_Lk 322 0 [(0, .ref 67), (1, .int x1)] [] m o m2 (d + 15) (40 * d + 385)) : sh_QL279 Q d := ⟨f290, f291, f293, f294, f313, f315, f319, f320, f321, f322⟩
theorem sl_290_2s {Q : sh_Q279} {d : Nat} {x2 : Int32} {m m2 : sh_X} {o : Outcome} {z : ((Int32 × sh_X) ⊕ (Bool × sh_X))} (hQ : sh_QL279 Q d) (e : sf_290_2s Q x2 m = some z) (tg : (sh_el (fun q => sh_Lk 290 2 [(0, .ref 67), (2, .int q.1)] [] q.2 o m2 (d + 1 + 15) (40 * (d + 1) + 385)) (sh_tZ o m2)) z) : sh_Lk 290 2 [(0, .ref 67), (2, .int x2)] [] m o m2 (d + 1 + 15) (40 * (d + 1) + 385) := by
  unfold sf_290_2s at e
  refine sh_Lk_lift (T := m.T) (I := m.I) (J := m.J) (s := m.s) (pc2 := 3) (lv2 := [(0, .ref 67), (2, .int x2)]) (st2 := [.int x2]) (I2 := m.I) (J2 := m.J) (fun hT v kk => ?_) ?_
  · refine sh_w (i := (.iload_n 2)) (len := 1) (pc2 := 3) (lv2 := [(0, .ref 67), (2, .int x2)]) (st2 := [.int x2]) (h2 := (sh_rep m.T m.I m.J)) rfl rfl rfl ?_
    exact kk
  rcases sh_ite e with ⟨c, e⟩ | ⟨c, e⟩
  · refine sh_Lk_lift (T := m.T) (I := m.I) (J := m.J) (s := m.s) (pc2 := 27) (lv2 := [(0, .ref 67), (2, .int x2)]) (st2 := [.int 1]) (I2 := m.I) (J2 := m.J) (fun hT v kk => ?_) ?_
    · refine sh_j0 (c := .lt) (off := (23)) (pc2 := 26) true rfl (sh_Bltt c) rfl ?_
      refine sh_w (i := (.iconst 1)) (len := 1) (pc2 := 27) (lv2 := [(0, .ref 67), (2, .int x2)]) (st2 := [.int 1]) (h2 := (sh_rep m.T m.I m.J)) rfl rfl rfl ?_
      exact kk
    obtain rfl := Option.some.inj e
    obtain ⟨rfl, rfl⟩ := tg
    exact sh_Lk_ret (i := .ireturn) rfl rfl rfl (by omega) (by omega)
  · refine sh_Lk_lift (T := m.T) (I := m.I) (J := m.J) (s := m.s) (pc2 := 8) (lv2 := [(0, .ref 67), (2, .int x2)]) (st2 := [.int x2, .ref 67]) (I2 := m.I) (J2 := m.J) (fun hT v kk => ?_) ?_
    · refine sh_j0 (c := .lt) (off := (23)) (pc2 := 6) false rfl (sh_Bltf c) rfl ?_
      refine sh_w (i := (.aload_n 0)) (len := 1) (pc2 := 7) (lv2 := [(0, .ref 67), (2, .int x2)]) (st2 := [.ref 67]) (h2 := (sh_rep m.T m.I m.J)) rfl rfl rfl ?_
      refine sh_w (i := (.iload_n 2)) (len := 1) (pc2 := 8) (lv2 := [(0, .ref 67), (2, .int x2)]) (st2 := [.int x2, .ref 67]) (h2 := (sh_rep m.T m.I m.J)) rfl rfl rfl ?_
      exact kk
    obtain ⟨r1, m11, e1, e⟩ := sh_bn_e e
    refine sh_Lk_cV (r := (some (.int (sh_b2 r1)))) (st2 := [.int (sh_b2 r1)]) (pc2 := 11) (k2 := 291) (a := 66) (as := [.ref 67, .int x2]) (rest := []) rfl rfl rfl (fun hT => (sh_s66 hT.st)) rfl rfl ⟨Nat.le_of_ble_eq_true rfl, Nat.le_of_ble_eq_true rfl⟩ (hQ.f291 e1 ⟨rfl, rfl⟩) rfl rfl (show d + 15 + 1 ≤ d + 1 + 15 by omega) (show 8 + (5 + 11) + (40 * d + 385) ≤ 40 * (d + 1) + 385 by omega) ?_
    rcases sh_ite e with ⟨c, e⟩ | ⟨c, e⟩
    · refine sh_Lk_lift (T := m11.T) (I := m11.I) (J := m11.J) (s := m11.s) (pc2 := 21) (lv2 := [(0, .ref 67), (2, .int x2)]) (st2 := [.int x2, .ref 78]) (I2 := m11.I) (J2 := m11.J) (fun hT v kk => ?_) ?_
      · refine sh_j0 (c := .ne) (off := (5)) (pc2 := 16) true rfl (sh_Znet c) rfl ?_
        refine sh_w (i := (.aload_n 0)) (len := 1) (pc2 := 17) (lv2 := [(0, .ref 67), (2, .int x2)]) (st2 := [.ref 67]) (h2 := (sh_rep m11.T m11.I m11.J)) rfl rfl rfl ?_
        refine sh_gR1 (len := 3) (x := .ref 78) (pc2 := 20) rfl rfl (sh_s66 hT.st) rfl rfl ?_
        refine sh_w (i := (.iload_n 2)) (len := 1) (pc2 := 21) (lv2 := [(0, .ref 67), (2, .int x2)]) (st2 := [.int x2, .ref 78]) (h2 := (sh_rep m11.T m11.I m11.J)) rfl rfl rfl ?_
        exact kk
      obtain ⟨c, e⟩ := sh_gd e
      refine sh_Lk_lift (T := m11.T) (I := m11.I) (J := m11.J) (s := m11.s) (pc2 := 2) (lv2 := [(2, .int (m11.I 77 (Int32.toNatClampNeg x2))), (0, .ref 67)]) (st2 := []) (I2 := m11.I) (J2 := m11.J) (fun hT v kk => ?_) ?_
      · refine sh_ia1 (x := m11.I 77 (Int32.toNatClampNeg x2)) (pc2 := 22) rfl (sh_s77 hT.st) (sh_okb1 c) (sh_okb2 c) rfl rfl ?_
        refine sh_w (i := (.istore_n 2)) (len := 1) (pc2 := 23) (lv2 := [(2, .int (m11.I 77 (Int32.toNatClampNeg x2))), (0, .ref 67)]) (st2 := []) (h2 := (sh_rep m11.T m11.I m11.J)) rfl rfl rfl ?_
        refine sh_w (i := (.goto (-21))) (len := 3) (pc2 := 2) (lv2 := [(2, .int (m11.I 77 (Int32.toNatClampNeg x2))), (0, .ref 67)]) (st2 := []) (h2 := (sh_rep m11.T m11.I m11.J)) rfl rfl rfl ?_
        exact kk
      obtain rfl := Option.some.inj e
      exact sh_Lk_sub (sh_sub_c rfl (sh_sub_c rfl (sh_sub_n))) tg
    · refine sh_Lk_lift (T := m11.T) (I := m11.I) (J := m11.J) (s := m11.s) (pc2 := 15) (lv2 := [(0, .ref 67), (2, .int x2)]) (st2 := [.int 0]) (I2 := m11.I) (J2 := m11.J) (fun hT v kk => ?_) ?_
      · refine sh_j0 (c := .ne) (off := (5)) (pc2 := 14) false rfl (sh_Znef c) rfl ?_
        refine sh_w (i := (.iconst 0)) (len := 1) (pc2 := 15) (lv2 := [(0, .ref 67), (2, .int x2)]) (st2 := [.int 0]) (h2 := (sh_rep m11.T m11.I m11.J)) rfl rfl rfl ?_
        exact kk
      obtain rfl := Option.some.inj e
      obtain ⟨rfl, rfl⟩ := tg
      exact sh_Lk_ret (i := .ireturn) rfl rfl rfl (by omega) (by omega)
theorem sl_290_2 {Q : sh_Q279} {d : Nat} {x2 : Int32} {m m2 : sh_X} {o : Outcome} {z : (Bool × sh_X)} (hQ : sh_QL279 Q d) (e : sf_290_2 Q x2 m = some z) (tg : (sh_tZ o m2) z) : sh_Lk 290 2 [(0, .ref 67), (2, .int x2)] [] m o m2 (d + 1 + 15) (40 * (d + 1) + 385) := by
  unfold sf_290_2 at e
  exact sh_while_lk (P := fun q => sh_Lk 290 2 [(0, .ref 67), (2, .int q.1)] [] q.2 o m2 (d + 1 + 15) (40 * (d + 1) + 385)) (Q := (sh_tZ o m2)) (fun q z e tg => sl_290_2s (x2 := q.1) (m := q.2) hQ e tg) (s := (x2, m)) e tg
theorem sl_290 {Q : sh_Q279} {d : Nat} {x1 : Int32} {m m2 : sh_X} {o : Outcome} {z : (Bool × sh_X)} (hQ : sh_QL279 Q d) (e : sf_290 Q x1 m = some z) (tg : (sh_tZ o m2) z) : sh_Lk 290 0 [(0, .ref 67), (1, .int x1)] [] m o m2 (d + 1 + 15) (40 * (d + 1) + 385) := by
  unfold sf_290 at e
  refine sh_Lk_lift (T := m.T) (I := m.I) (J := m.J) (s := m.s) (pc2 := 2) (lv2 := [(2, .int x1), (0, .ref 67), (1, .int x1)]) (st2 := []) (I2 := m.I) (J2 := m.J) (fun hT v kk => ?_) ?_
  · refine sh_w (i := (.iload_n 1)) (len := 1) (pc2 := 1) (lv2 := [(0, .ref 67), (1, .int x1)]) (st2 := [.int x1]) (h2 := (sh_rep m.T m.I m.J)) rfl rfl rfl ?_
    refine sh_w (i := (.istore_n 2)) (len := 1) (pc2 := 2) (lv2 := [(2, .int x1), (0, .ref 67), (1, .int x1)]) (st2 := []) (h2 := (sh_rep m.T m.I m.J)) rfl rfl rfl ?_
    exact kk
  exact sh_Lk_sub (sh_sub_c rfl (sh_sub_c rfl (sh_sub_n))) (sl_290_2 hQ e tg)
theorem sl_291_117 {Q : sh_Q279} {d : Nat} {x1 : Int32} {m m2 : sh_X} {o : Outcome} {z : (Bool × sh_X)} (hQ : sh_QL279 Q d) (e : sf_291_117 Q x1 m = some z) (tg : (sh_tZ o m2) z) : sh_Lk 291 117 [(0, .ref 67), (1, .int x1)] [] m o m2 (d + 1 + 15) (40 * (d + 1) + 385) := by
  unfold sf_291_117 at e
  refine sh_Lk_lift (T := m.T) (I := m.I) (J := m.J) (s := m.s) (pc2 := 132) (lv2 := [(0, .ref 67), (1, .int x1)]) (st2 := [.int x1, .ref 75, .ref 79, .ref 70, .int 4, .ref 67]) (I2 := m.I) (J2 := m.J) (fun hT v kk => ?_) ?_
  · refine sh_w (i := (.aload_n 0)) (len := 1) (pc2 := 118) (lv2 := [(0, .ref 67), (1, .int x1)]) (st2 := [.ref 67]) (h2 := (sh_rep m.T m.I m.J)) rfl rfl rfl ?_
    refine sh_w (i := (.iconst 4)) (len := 1) (pc2 := 119) (lv2 := [(0, .ref 67), (1, .int x1)]) (st2 := [.int 4, .ref 67]) (h2 := (sh_rep m.T m.I m.J)) rfl rfl rfl ?_
    refine sh_w (i := (.aload_n 0)) (len := 1) (pc2 := 120) (lv2 := [(0, .ref 67), (1, .int x1)]) (st2 := [.ref 67, .int 4, .ref 67]) (h2 := (sh_rep m.T m.I m.J)) rfl rfl rfl ?_
    refine sh_gR1 (len := 3) (x := .ref 70) (pc2 := 123) rfl rfl (sh_s66 hT.st) rfl rfl ?_
    refine sh_w (i := (.aload_n 0)) (len := 1) (pc2 := 124) (lv2 := [(0, .ref 67), (1, .int x1)]) (st2 := [.ref 67, .ref 70, .int 4, .ref 67]) (h2 := (sh_rep m.T m.I m.J)) rfl rfl rfl ?_
    refine sh_gR1 (len := 3) (x := .ref 79) (pc2 := 127) rfl rfl (sh_s66 hT.st) rfl rfl ?_
    refine sh_w (i := (.aload_n 0)) (len := 1) (pc2 := 128) (lv2 := [(0, .ref 67), (1, .int x1)]) (st2 := [.ref 67, .ref 79, .ref 70, .int 4, .ref 67]) (h2 := (sh_rep m.T m.I m.J)) rfl rfl rfl ?_
    refine sh_gR1 (len := 3) (x := .ref 75) (pc2 := 131) rfl rfl (sh_s66 hT.st) rfl rfl ?_
    refine sh_w (i := (.iload_n 1)) (len := 1) (pc2 := 132) (lv2 := [(0, .ref 67), (1, .int x1)]) (st2 := [.int x1, .ref 75, .ref 79, .ref 70, .int 4, .ref 67]) (h2 := (sh_rep m.T m.I m.J)) rfl rfl rfl ?_
    exact kk
  obtain ⟨c, e⟩ := sh_gd e
  refine sh_Lk_lift (T := m.T) (I := m.I) (J := m.J) (s := m.s) (pc2 := 133) (lv2 := [(0, .ref 67), (1, .int x1)]) (st2 := [.int (m.I 74 (Int32.toNatClampNeg x1)), .ref 79, .ref 70, .int 4, .ref 67]) (I2 := m.I) (J2 := m.J) (fun hT v kk => ?_) ?_
  · refine sh_ia1 (x := m.I 74 (Int32.toNatClampNeg x1)) (pc2 := 133) rfl (sh_s74 hT.st) (sh_okb1 c) (sh_okb2 c) rfl rfl ?_
    exact kk
  obtain ⟨c, e⟩ := sh_gd e
  refine sh_Lk_lift (T := m.T) (I := m.I) (J := m.J) (s := m.s) (pc2 := 134) (lv2 := [(0, .ref 67), (1, .int x1)]) (st2 := [.int (m.I 78 (Int32.toNatClampNeg (m.I 74 (Int32.toNatClampNeg x1)))), .ref 70, .int 4, .ref 67]) (I2 := m.I) (J2 := m.J) (fun hT v kk => ?_) ?_
  · refine sh_ia1 (x := m.I 78 (Int32.toNatClampNeg (m.I 74 (Int32.toNatClampNeg x1)))) (pc2 := 134) rfl (sh_s78 hT.st) (sh_okb1 c) (sh_okb2 c) rfl rfl ?_
    exact kk
  obtain ⟨c, e⟩ := sh_gd e
  refine sh_Lk_lift (T := m.T) (I := m.I) (J := m.J) (s := m.s) (pc2 := 135) (lv2 := [(0, .ref 67), (1, .int x1)]) (st2 := [.int (m.I 69 (Int32.toNatClampNeg (m.I 78 (Int32.toNatClampNeg (m.I 74 (Int32.toNatClampNeg x1)))))), .int 4, .ref 67]) (I2 := m.I) (J2 := m.J) (fun hT v kk => ?_) ?_
  · refine sh_ia1 (x := m.I 69 (Int32.toNatClampNeg (m.I 78 (Int32.toNatClampNeg (m.I 74 (Int32.toNatClampNeg x1)))))) (pc2 := 135) rfl (sh_s69 hT.st) (sh_okb1 c) (sh_okb2 c) rfl rfl ?_
    exact kk
  obtain ⟨r1, m11, e1, e⟩ := sh_bn_e e
  refine sh_Lk_cV (r := (some (.int (sh_b2 r1)))) (st2 := [.int (sh_b2 r1)]) (pc2 := 138) (k2 := 252) (a := 66) (as := [.ref 67, .int 4, .int (m.I 69 (Int32.toNatClampNeg (m.I 78 (Int32.toNatClampNeg (m.I 74 (Int32.toNatClampNeg x1))))))]) (rest := []) rfl rfl rfl (fun hT => (sh_s66 hT.st)) rfl rfl ⟨Nat.le_of_ble_eq_true rfl, Nat.le_of_ble_eq_true rfl⟩ (sl_252 e1 ⟨rfl, rfl⟩) rfl rfl (show 8 + 1 ≤ d + 1 + 15 by omega) (show 8 + (3 + 11) + (200) ≤ 40 * (d + 1) + 385 by omega) ?_
  obtain rfl := Option.some.inj e
  obtain ⟨rfl, rfl⟩ := tg
  exact sh_Lk_ret (i := .ireturn) rfl rfl (sh_rb rfl _) (by omega) (by omega)
theorem sl_291_223 {Q : sh_Q279} {d : Nat} {x1 : Int32} {x4 : Int32} {y1 : Bool} {m m2 : sh_X} {o : Outcome} {z : (Bool × sh_X)} (hQ : sh_QL279 Q d) (e : sf_291_223 Q x1 x4 y1 m = some z) (tg : (sh_tZ o m2) z) : sh_Lk 291 223 [(0, .ref 67), (1, .int x1), (4, .int x4)] [.int (sh_b2 y1), .ref 67] m o m2 (d + 1 + 15) (40 * (d + 1) + 385) := by
  unfold sf_291_223 at e
  refine sh_Lk_lift (T := m.T) (I := m.I) (J := m.J) (s := m.s) (pc2 := 232) (lv2 := [(0, .ref 67), (1, .int x1), (4, .int x4)]) (st2 := [.int x1, .ref 77, .ref 67]) (I2 := sh_u2 m.I 66 57 (sh_b2 y1)) (J2 := m.J) (fun hT v kk => ?_) ?_
  · refine sh_pI1 (x := sh_b2 y1) (pc2 := 226) rfl rfl (sh_s66 hT.st) rfl (sh_fb _) rfl rfl ?_
    refine sh_w (i := (.aload_n 0)) (len := 1) (pc2 := 227) (lv2 := [(0, .ref 67), (1, .int x1), (4, .int x4)]) (st2 := [.ref 67]) (h2 := (sh_rep m.T (sh_u2 m.I 66 57 (sh_b2 y1)) m.J)) rfl rfl rfl ?_
    refine sh_w (i := (.aload_n 0)) (len := 1) (pc2 := 228) (lv2 := [(0, .ref 67), (1, .int x1), (4, .int x4)]) (st2 := [.ref 67, .ref 67]) (h2 := (sh_rep m.T (sh_u2 m.I 66 57 (sh_b2 y1)) m.J)) rfl rfl rfl ?_
    refine sh_gR1 (len := 3) (x := .ref 77) (pc2 := 231) rfl rfl (sh_s66 hT.st) rfl rfl ?_
    refine sh_w (i := (.iload_n 1)) (len := 1) (pc2 := 232) (lv2 := [(0, .ref 67), (1, .int x1), (4, .int x4)]) (st2 := [.int x1, .ref 77, .ref 67]) (h2 := (sh_rep m.T (sh_u2 m.I 66 57 (sh_b2 y1)) m.J)) rfl rfl rfl ?_
    exact kk
  obtain ⟨c, e⟩ := sh_gd e
  refine sh_Lk_lift (T := m.T) (I := sh_u2 m.I 66 57 (sh_b2 y1)) (J := m.J) (s := m.s) (pc2 := 233) (lv2 := [(0, .ref 67), (1, .int x1), (4, .int x4)]) (st2 := [.int (m.I 76 (Int32.toNatClampNeg x1)), .ref 67]) (I2 := sh_u2 m.I 66 57 (sh_b2 y1)) (J2 := m.J) (fun hT v kk => ?_) ?_
  · refine sh_ia1 (x := m.I 76 (Int32.toNatClampNeg x1)) (pc2 := 233) rfl (sh_s76 hT.st) (sh_okb1 c) (sh_okb2 c) rfl rfl ?_
    exact kk
  obtain ⟨r1, m11, e1, e⟩ := sh_bn_e e
  refine sh_Lk_cV (r := (some (.int (sh_b2 r1)))) (st2 := [.int (sh_b2 r1)]) (pc2 := 236) (k2 := 320) (a := 66) (as := [.ref 67, .int (m.I 76 (Int32.toNatClampNeg x1))]) (rest := []) rfl rfl rfl (fun hT => (sh_s66 hT.st)) rfl rfl ⟨Nat.le_of_ble_eq_true rfl, Nat.le_of_ble_eq_true rfl⟩ (hQ.f320 e1 ⟨rfl, rfl⟩) rfl rfl (show d + 15 + 1 ≤ d + 1 + 15 by omega) (show 8 + (5 + 11) + (40 * d + 385) ≤ 40 * (d + 1) + 385 by omega) ?_
  rcases sh_ite e with ⟨c, e⟩ | ⟨c, e⟩
  · refine sh_Lk_lift (T := m11.T) (I := m11.I) (J := m11.J) (s := m11.s) (pc2 := 244) (lv2 := [(0, .ref 67), (1, .int x1), (4, .int x4)]) (st2 := [.int x4, .ref 67]) (I2 := m11.I) (J2 := m11.J) (fun hT v kk => ?_) ?_
    · refine sh_j0 (c := .ne) (off := (5)) (pc2 := 241) true rfl (sh_Znet c) rfl ?_
      refine sh_w (i := (.aload_n 0)) (len := 1) (pc2 := 242) (lv2 := [(0, .ref 67), (1, .int x1), (4, .int x4)]) (st2 := [.ref 67]) (h2 := (sh_rep m11.T m11.I m11.J)) rfl rfl rfl ?_
      refine sh_w (i := (.iload 4)) (len := 2) (pc2 := 244) (lv2 := [(0, .ref 67), (1, .int x1), (4, .int x4)]) (st2 := [.int x4, .ref 67]) (h2 := (sh_rep m11.T m11.I m11.J)) rfl rfl rfl ?_
      exact kk
    obtain ⟨c, e⟩ := sh_gd e
    refine sh_Lk_lift (T := m11.T) (I := m11.I) (J := m11.J) (s := m11.s) (pc2 := 258) (lv2 := [(0, .ref 67), (1, .int x1), (4, .int x4)]) (st2 := [.int 1]) (I2 := sh_u2 (sh_u2 m11.I 66 57 x4) 66 56 ((m11.I 66 56) - 1)) (J2 := m11.J) (fun hT v kk => ?_) ?_
    · refine sh_pI1 (x := x4) (pc2 := 247) rfl rfl (sh_s66 hT.st) rfl (sh_fb1 c) rfl rfl ?_
      refine sh_w (i := (.aload_n 0)) (len := 1) (pc2 := 248) (lv2 := [(0, .ref 67), (1, .int x1), (4, .int x4)]) (st2 := [.ref 67]) (h2 := (sh_rep m11.T (sh_u2 m11.I 66 57 x4) m11.J)) rfl rfl rfl ?_
      refine sh_w (i := .dup) (len := 1) (pc2 := 249) (lv2 := [(0, .ref 67), (1, .int x1), (4, .int x4)]) (st2 := [.ref 67, .ref 67]) (h2 := (sh_rep m11.T (sh_u2 m11.I 66 57 x4) m11.J)) rfl rfl rfl ?_
      refine sh_gI1 (len := 3) (x := m11.I 66 56) (pc2 := 252) rfl rfl (sh_s66 hT.st) rfl rfl rfl ?_
      refine sh_w (i := (.iconst 1)) (len := 1) (pc2 := 253) (lv2 := [(0, .ref 67), (1, .int x1), (4, .int x4)]) (st2 := [.int 1, .int (m11.I 66 56), .ref 67]) (h2 := (sh_rep m11.T (sh_u2 m11.I 66 57 x4) m11.J)) rfl rfl rfl ?_
      refine sh_w (i := .isub) (len := 1) (pc2 := 254) (lv2 := [(0, .ref 67), (1, .int x1), (4, .int x4)]) (st2 := [.int ((m11.I 66 56) - 1), .ref 67]) (h2 := (sh_rep m11.T (sh_u2 m11.I 66 57 x4) m11.J)) rfl rfl rfl ?_
      refine sh_pI1 (x := (m11.I 66 56) - 1) (pc2 := 257) rfl rfl (sh_s66 hT.st) rfl rfl rfl rfl ?_
      refine sh_w (i := (.iconst 1)) (len := 1) (pc2 := 258) (lv2 := [(0, .ref 67), (1, .int x1), (4, .int x4)]) (st2 := [.int 1]) (h2 := (sh_rep m11.T (sh_u2 (sh_u2 m11.I 66 57 x4) 66 56 ((m11.I 66 56) - 1)) m11.J)) rfl rfl rfl ?_
      exact kk
    obtain rfl := Option.some.inj e
    obtain ⟨rfl, rfl⟩ := tg
    exact sh_Lk_ret (i := .ireturn) rfl rfl rfl (by omega) (by omega)
  · refine sh_Lk_lift (T := m11.T) (I := m11.I) (J := m11.J) (s := m11.s) (pc2 := 240) (lv2 := [(0, .ref 67), (1, .int x1), (4, .int x4)]) (st2 := [.int 0]) (I2 := m11.I) (J2 := m11.J) (fun hT v kk => ?_) ?_
    · refine sh_j0 (c := .ne) (off := (5)) (pc2 := 239) false rfl (sh_Znef c) rfl ?_
      refine sh_w (i := (.iconst 0)) (len := 1) (pc2 := 240) (lv2 := [(0, .ref 67), (1, .int x1), (4, .int x4)]) (st2 := [.int 0]) (h2 := (sh_rep m11.T m11.I m11.J)) rfl rfl rfl ?_
      exact kk
    obtain rfl := Option.some.inj e
    obtain ⟨rfl, rfl⟩ := tg
    exact sh_Lk_ret (i := .ireturn) rfl rfl rfl (by omega) (by omega)
theorem sl_291_222 {Q : sh_Q279} {d : Nat} {x1 : Int32} {x4 : Int32} {m m2 : sh_X} {o : Outcome} {z : (Bool × sh_X)} (hQ : sh_QL279 Q d) (e : sf_291_222 Q x1 x4 m = some z) (tg : (sh_tZ o m2) z) : sh_Lk 291 222 [(0, .ref 67), (1, .int x1), (4, .int x4)] [.ref 67] m o m2 (d + 1 + 15) (40 * (d + 1) + 385) := by
  unfold sf_291_222 at e
  refine sh_Lk_lift (T := m.T) (I := m.I) (J := m.J) (s := m.s) (pc2 := 223) (lv2 := [(0, .ref 67), (1, .int x1), (4, .int x4)]) (st2 := [.int 0, .ref 67]) (I2 := m.I) (J2 := m.J) (fun hT v kk => ?_) ?_
  · refine sh_w (i := (.iconst 0)) (len := 1) (pc2 := 223) (lv2 := [(0, .ref 67), (1, .int x1), (4, .int x4)]) (st2 := [.int 0, .ref 67]) (h2 := (sh_rep m.T m.I m.J)) rfl rfl rfl ?_
    exact kk
  exact sh_Lk_sub (sh_sub_c rfl (sh_sub_c rfl (sh_sub_c rfl (sh_sub_n)))) (sl_291_223 hQ e tg)
theorem sl_291_190 {Q : sh_Q279} {d : Nat} {x1 : Int32} {x3 : Bool} {x4 : Int32} {y1 : Bool} {m m2 : sh_X} {o : Outcome} {z : (Bool × sh_X)} (hQ : sh_QL279 Q d) (e : sf_291_190 Q x1 x3 x4 y1 m = some z) (tg : (sh_tZ o m2) z) : sh_Lk 291 190 [(0, .ref 67), (1, .int x1), (3, .int (sh_b2 x3)), (4, .int x4)] [.int (sh_b2 y1), .ref 67] m o m2 (d + 1 + 15) (40 * (d + 1) + 385) := by
  unfold sf_291_190 at e
  refine sh_Lk_lift (T := m.T) (I := m.I) (J := m.J) (s := m.s) (pc2 := 199) (lv2 := [(0, .ref 67), (1, .int x1), (3, .int (sh_b2 x3)), (4, .int x4)]) (st2 := [.int x1, .ref 76, .ref 67]) (I2 := sh_u2 m.I 66 57 (sh_b2 y1)) (J2 := m.J) (fun hT v kk => ?_) ?_
  · refine sh_pI1 (x := sh_b2 y1) (pc2 := 193) rfl rfl (sh_s66 hT.st) rfl (sh_fb _) rfl rfl ?_
    refine sh_w (i := (.aload_n 0)) (len := 1) (pc2 := 194) (lv2 := [(0, .ref 67), (1, .int x1), (3, .int (sh_b2 x3)), (4, .int x4)]) (st2 := [.ref 67]) (h2 := (sh_rep m.T (sh_u2 m.I 66 57 (sh_b2 y1)) m.J)) rfl rfl rfl ?_
    refine sh_w (i := (.aload_n 0)) (len := 1) (pc2 := 195) (lv2 := [(0, .ref 67), (1, .int x1), (3, .int (sh_b2 x3)), (4, .int x4)]) (st2 := [.ref 67, .ref 67]) (h2 := (sh_rep m.T (sh_u2 m.I 66 57 (sh_b2 y1)) m.J)) rfl rfl rfl ?_
    refine sh_gR1 (len := 3) (x := .ref 76) (pc2 := 198) rfl rfl (sh_s66 hT.st) rfl rfl ?_
    refine sh_w (i := (.iload_n 1)) (len := 1) (pc2 := 199) (lv2 := [(0, .ref 67), (1, .int x1), (3, .int (sh_b2 x3)), (4, .int x4)]) (st2 := [.int x1, .ref 76, .ref 67]) (h2 := (sh_rep m.T (sh_u2 m.I 66 57 (sh_b2 y1)) m.J)) rfl rfl rfl ?_
    exact kk
  obtain ⟨c, e⟩ := sh_gd e
  refine sh_Lk_lift (T := m.T) (I := sh_u2 m.I 66 57 (sh_b2 y1)) (J := m.J) (s := m.s) (pc2 := 200) (lv2 := [(0, .ref 67), (1, .int x1), (3, .int (sh_b2 x3)), (4, .int x4)]) (st2 := [.int (m.I 75 (Int32.toNatClampNeg x1)), .ref 67]) (I2 := sh_u2 m.I 66 57 (sh_b2 y1)) (J2 := m.J) (fun hT v kk => ?_) ?_
  · refine sh_ia1 (x := m.I 75 (Int32.toNatClampNeg x1)) (pc2 := 200) rfl (sh_s75 hT.st) (sh_okb1 c) (sh_okb2 c) rfl rfl ?_
    exact kk
  obtain ⟨r1, m11, e1, e⟩ := sh_bn_e e
  refine sh_Lk_cV (r := (some (.int (sh_b2 r1)))) (st2 := [.int (sh_b2 r1)]) (pc2 := 203) (k2 := 320) (a := 66) (as := [.ref 67, .int (m.I 75 (Int32.toNatClampNeg x1))]) (rest := []) rfl rfl rfl (fun hT => (sh_s66 hT.st)) rfl rfl ⟨Nat.le_of_ble_eq_true rfl, Nat.le_of_ble_eq_true rfl⟩ (hQ.f320 e1 ⟨rfl, rfl⟩) rfl rfl (show d + 15 + 1 ≤ d + 1 + 15 by omega) (show 8 + (5 + 11) + (40 * d + 385) ≤ 40 * (d + 1) + 385 by omega) ?_
  rcases sh_ite e with ⟨c, e⟩ | ⟨c, e⟩
  · refine sh_Lk_lift (T := m11.T) (I := m11.I) (J := m11.J) (s := m11.s) (pc2 := 211) (lv2 := [(0, .ref 67), (1, .int x1), (3, .int (sh_b2 x3)), (4, .int x4)]) (st2 := [.int x4, .ref 67]) (I2 := m11.I) (J2 := m11.J) (fun hT v kk => ?_) ?_
    · refine sh_j0 (c := .ne) (off := (5)) (pc2 := 208) true rfl (sh_Znet c) rfl ?_
      refine sh_w (i := (.aload_n 0)) (len := 1) (pc2 := 209) (lv2 := [(0, .ref 67), (1, .int x1), (3, .int (sh_b2 x3)), (4, .int x4)]) (st2 := [.ref 67]) (h2 := (sh_rep m11.T m11.I m11.J)) rfl rfl rfl ?_
      refine sh_w (i := (.iload 4)) (len := 2) (pc2 := 211) (lv2 := [(0, .ref 67), (1, .int x1), (3, .int (sh_b2 x3)), (4, .int x4)]) (st2 := [.int x4, .ref 67]) (h2 := (sh_rep m11.T m11.I m11.J)) rfl rfl rfl ?_
      exact kk
    rcases sh_ite e with ⟨c, e⟩ | ⟨c, e⟩
    · refine sh_Lk_lift (T := m11.T) (I := m11.I) (J := m11.J) (s := m11.s) (pc2 := 222) (lv2 := [(0, .ref 67), (1, .int x1), (3, .int (sh_b2 x3)), (4, .int x4)]) (st2 := [.ref 67]) (I2 := m11.I) (J2 := m11.J) (fun hT v kk => ?_) ?_
      · refine sh_j0 (c := .eq) (off := (11)) (pc2 := 222) true rfl (sh_Beqt c) rfl ?_
        exact kk
      exact sh_Lk_sub (sh_sub_c rfl (sh_sub_c rfl (sh_sub_c rfl (sh_sub_n)))) (sl_291_222 hQ e tg)
    · refine sh_Lk_lift (T := m11.T) (I := m11.I) (J := m11.J) (s := m11.s) (pc2 := 215) (lv2 := [(0, .ref 67), (1, .int x1), (3, .int (sh_b2 x3)), (4, .int x4)]) (st2 := [.int (sh_b2 x3), .ref 67]) (I2 := m11.I) (J2 := m11.J) (fun hT v kk => ?_) ?_
      · refine sh_j0 (c := .eq) (off := (11)) (pc2 := 214) false rfl (sh_Beqf c) rfl ?_
        refine sh_w (i := (.iload_n 3)) (len := 1) (pc2 := 215) (lv2 := [(0, .ref 67), (1, .int x1), (3, .int (sh_b2 x3)), (4, .int x4)]) (st2 := [.int (sh_b2 x3), .ref 67]) (h2 := (sh_rep m11.T m11.I m11.J)) rfl rfl rfl ?_
        exact kk
      rcases sh_ite e with ⟨c, e⟩ | ⟨c, e⟩
      · refine sh_Lk_lift (T := m11.T) (I := m11.I) (J := m11.J) (s := m11.s) (pc2 := 222) (lv2 := [(0, .ref 67), (1, .int x1), (3, .int (sh_b2 x3)), (4, .int x4)]) (st2 := [.ref 67]) (I2 := m11.I) (J2 := m11.J) (fun hT v kk => ?_) ?_
        · refine sh_j0 (c := .ne) (off := (7)) (pc2 := 222) true rfl (sh_Znet c) rfl ?_
          exact kk
        exact sh_Lk_sub (sh_sub_c rfl (sh_sub_c rfl (sh_sub_c rfl (sh_sub_n)))) (sl_291_222 hQ e tg)
      · refine sh_Lk_lift (T := m11.T) (I := m11.I) (J := m11.J) (s := m11.s) (pc2 := 223) (lv2 := [(0, .ref 67), (1, .int x1), (3, .int (sh_b2 x3)), (4, .int x4)]) (st2 := [.int 1, .ref 67]) (I2 := m11.I) (J2 := m11.J) (fun hT v kk => ?_) ?_
        · refine sh_j0 (c := .ne) (off := (7)) (pc2 := 218) false rfl (sh_Znef c) rfl ?_
          refine sh_w (i := (.iconst 1)) (len := 1) (pc2 := 219) (lv2 := [(0, .ref 67), (1, .int x1), (3, .int (sh_b2 x3)), (4, .int x4)]) (st2 := [.int 1, .ref 67]) (h2 := (sh_rep m11.T m11.I m11.J)) rfl rfl rfl ?_
          refine sh_w (i := (.goto 4)) (len := 3) (pc2 := 223) (lv2 := [(0, .ref 67), (1, .int x1), (3, .int (sh_b2 x3)), (4, .int x4)]) (st2 := [.int 1, .ref 67]) (h2 := (sh_rep m11.T m11.I m11.J)) rfl rfl rfl ?_
          exact kk
        exact sh_Lk_sub (sh_sub_c rfl (sh_sub_c rfl (sh_sub_c rfl (sh_sub_n)))) (sl_291_223 hQ e tg)
  · refine sh_Lk_lift (T := m11.T) (I := m11.I) (J := m11.J) (s := m11.s) (pc2 := 207) (lv2 := [(0, .ref 67), (1, .int x1), (3, .int (sh_b2 x3)), (4, .int x4)]) (st2 := [.int 0]) (I2 := m11.I) (J2 := m11.J) (fun hT v kk => ?_) ?_
    · refine sh_j0 (c := .ne) (off := (5)) (pc2 := 206) false rfl (sh_Znef c) rfl ?_
      refine sh_w (i := (.iconst 0)) (len := 1) (pc2 := 207) (lv2 := [(0, .ref 67), (1, .int x1), (3, .int (sh_b2 x3)), (4, .int x4)]) (st2 := [.int 0]) (h2 := (sh_rep m11.T m11.I m11.J)) rfl rfl rfl ?_
      exact kk
    obtain rfl := Option.some.inj e
    obtain ⟨rfl, rfl⟩ := tg
    exact sh_Lk_ret (i := .ireturn) rfl rfl rfl (by omega) (by omega)
theorem sl_291_189 {Q : sh_Q279} {d : Nat} {x1 : Int32} {x3 : Bool} {x4 : Int32} {m m2 : sh_X} {o : Outcome} {z : (Bool × sh_X)} (hQ : sh_QL279 Q d) (e : sf_291_189 Q x1 x3 x4 m = some z) (tg : (sh_tZ o m2) z) : sh_Lk 291 189 [(0, .ref 67), (1, .int x1), (3, .int (sh_b2 x3)), (4, .int x4)] [.ref 67] m o m2 (d + 1 + 15) (40 * (d + 1) + 385) := by
  unfold sf_291_189 at e
  refine sh_Lk_lift (T := m.T) (I := m.I) (J := m.J) (s := m.s) (pc2 := 190) (lv2 := [(0, .ref 67), (1, .int x1), (3, .int (sh_b2 x3)), (4, .int x4)]) (st2 := [.int 0, .ref 67]) (I2 := m.I) (J2 := m.J) (fun hT v kk => ?_) ?_
  · refine sh_w (i := (.iconst 0)) (len := 1) (pc2 := 190) (lv2 := [(0, .ref 67), (1, .int x1), (3, .int (sh_b2 x3)), (4, .int x4)]) (st2 := [.int 0, .ref 67]) (h2 := (sh_rep m.T m.I m.J)) rfl rfl rfl ?_
    exact kk
  exact sh_Lk_sub (sh_sub_c rfl (sh_sub_c rfl (sh_sub_c rfl (sh_sub_c rfl (sh_sub_n))))) (sl_291_190 hQ e tg)
theorem sl_291_153 {Q : sh_Q279} {d : Nat} {x1 : Int32} {x2 : Int32} {y0 : Bool} {m m2 : sh_X} {o : Outcome} {z : (Bool × sh_X)} (hQ : sh_QL279 Q d) (e : sf_291_153 Q x1 x2 y0 m = some z) (tg : (sh_tZ o m2) z) : sh_Lk 291 153 [(0, .ref 67), (1, .int x1), (2, .int x2)] [.int (sh_b2 y0)] m o m2 (d + 1 + 15) (40 * (d + 1) + 385) := by
  unfold sf_291_153 at e
  refine sh_Lk_lift (T := m.T) (I := m.I) (J := m.J) (s := m.s) (pc2 := 178) (lv2 := [(4, .int (m.I 66 57)), (3, .int (sh_b2 y0)), (0, .ref 67), (1, .int x1), (2, .int x2)]) (st2 := [.int (m.I 66 57), .ref 67]) (I2 := sh_u2 (sh_u2 m.I 66 41 x2) 66 56 ((m.I 66 56) + 1)) (J2 := m.J) (fun hT v kk => ?_) ?_
  · refine sh_w (i := (.istore_n 3)) (len := 1) (pc2 := 154) (lv2 := [(3, .int (sh_b2 y0)), (0, .ref 67), (1, .int x1), (2, .int x2)]) (st2 := []) (h2 := (sh_rep m.T m.I m.J)) rfl rfl rfl ?_
    refine sh_w (i := (.aload_n 0)) (len := 1) (pc2 := 155) (lv2 := [(3, .int (sh_b2 y0)), (0, .ref 67), (1, .int x1), (2, .int x2)]) (st2 := [.ref 67]) (h2 := (sh_rep m.T m.I m.J)) rfl rfl rfl ?_
    refine sh_gI1 (len := 3) (x := m.I 66 57) (pc2 := 158) rfl rfl (sh_s66 hT.st) rfl rfl rfl ?_
    refine sh_w (i := (.istore 4)) (len := 2) (pc2 := 160) (lv2 := [(4, .int (m.I 66 57)), (3, .int (sh_b2 y0)), (0, .ref 67), (1, .int x1), (2, .int x2)]) (st2 := []) (h2 := (sh_rep m.T m.I m.J)) rfl rfl rfl ?_
    refine sh_w (i := (.aload_n 0)) (len := 1) (pc2 := 161) (lv2 := [(4, .int (m.I 66 57)), (3, .int (sh_b2 y0)), (0, .ref 67), (1, .int x1), (2, .int x2)]) (st2 := [.ref 67]) (h2 := (sh_rep m.T m.I m.J)) rfl rfl rfl ?_
    refine sh_w (i := (.iload_n 2)) (len := 1) (pc2 := 162) (lv2 := [(4, .int (m.I 66 57)), (3, .int (sh_b2 y0)), (0, .ref 67), (1, .int x1), (2, .int x2)]) (st2 := [.int x2, .ref 67]) (h2 := (sh_rep m.T m.I m.J)) rfl rfl rfl ?_
    refine sh_pI1 (x := x2) (pc2 := 165) rfl rfl (sh_s66 hT.st) rfl rfl rfl rfl ?_
    refine sh_w (i := (.aload_n 0)) (len := 1) (pc2 := 166) (lv2 := [(4, .int (m.I 66 57)), (3, .int (sh_b2 y0)), (0, .ref 67), (1, .int x1), (2, .int x2)]) (st2 := [.ref 67]) (h2 := (sh_rep m.T (sh_u2 m.I 66 41 x2) m.J)) rfl rfl rfl ?_
    refine sh_w (i := .dup) (len := 1) (pc2 := 167) (lv2 := [(4, .int (m.I 66 57)), (3, .int (sh_b2 y0)), (0, .ref 67), (1, .int x1), (2, .int x2)]) (st2 := [.ref 67, .ref 67]) (h2 := (sh_rep m.T (sh_u2 m.I 66 41 x2) m.J)) rfl rfl rfl ?_
    refine sh_gI1 (len := 3) (x := m.I 66 56) (pc2 := 170) rfl rfl (sh_s66 hT.st) rfl rfl rfl ?_
    refine sh_w (i := (.iconst 1)) (len := 1) (pc2 := 171) (lv2 := [(4, .int (m.I 66 57)), (3, .int (sh_b2 y0)), (0, .ref 67), (1, .int x1), (2, .int x2)]) (st2 := [.int 1, .int (m.I 66 56), .ref 67]) (h2 := (sh_rep m.T (sh_u2 m.I 66 41 x2) m.J)) rfl rfl rfl ?_
    refine sh_w (i := .iadd) (len := 1) (pc2 := 172) (lv2 := [(4, .int (m.I 66 57)), (3, .int (sh_b2 y0)), (0, .ref 67), (1, .int x1), (2, .int x2)]) (st2 := [.int ((m.I 66 56) + 1), .ref 67]) (h2 := (sh_rep m.T (sh_u2 m.I 66 41 x2) m.J)) rfl rfl rfl ?_
    refine sh_pI1 (x := (m.I 66 56) + 1) (pc2 := 175) rfl rfl (sh_s66 hT.st) rfl rfl rfl rfl ?_
    refine sh_w (i := (.aload_n 0)) (len := 1) (pc2 := 176) (lv2 := [(4, .int (m.I 66 57)), (3, .int (sh_b2 y0)), (0, .ref 67), (1, .int x1), (2, .int x2)]) (st2 := [.ref 67]) (h2 := (sh_rep m.T (sh_u2 (sh_u2 m.I 66 41 x2) 66 56 ((m.I 66 56) + 1)) m.J)) rfl rfl rfl ?_
    refine sh_w (i := (.iload 4)) (len := 2) (pc2 := 178) (lv2 := [(4, .int (m.I 66 57)), (3, .int (sh_b2 y0)), (0, .ref 67), (1, .int x1), (2, .int x2)]) (st2 := [.int (m.I 66 57), .ref 67]) (h2 := (sh_rep m.T (sh_u2 (sh_u2 m.I 66 41 x2) 66 56 ((m.I 66 56) + 1)) m.J)) rfl rfl rfl ?_
    exact kk
  rcases sh_ite e with ⟨c, e⟩ | ⟨c, e⟩
  · refine sh_Lk_lift (T := m.T) (I := sh_u2 (sh_u2 m.I 66 41 x2) 66 56 ((m.I 66 56) + 1)) (J := m.J) (s := m.s) (pc2 := 189) (lv2 := [(4, .int (m.I 66 57)), (3, .int (sh_b2 y0)), (0, .ref 67), (1, .int x1), (2, .int x2)]) (st2 := [.ref 67]) (I2 := sh_u2 (sh_u2 m.I 66 41 x2) 66 56 ((m.I 66 56) + 1)) (J2 := m.J) (fun hT v kk => ?_) ?_
    · refine sh_j0 (c := .eq) (off := (11)) (pc2 := 189) true rfl (sh_Beqt c) rfl ?_
      exact kk
    exact sh_Lk_sub (sh_sub_c rfl (sh_sub_c rfl (sh_sub_c rfl (sh_sub_c rfl (sh_sub_n))))) (sl_291_189 hQ e tg)
  · refine sh_Lk_lift (T := m.T) (I := sh_u2 (sh_u2 m.I 66 41 x2) 66 56 ((m.I 66 56) + 1)) (J := m.J) (s := m.s) (pc2 := 182) (lv2 := [(4, .int (m.I 66 57)), (3, .int (sh_b2 y0)), (0, .ref 67), (1, .int x1), (2, .int x2)]) (st2 := [.int (sh_b2 y0), .ref 67]) (I2 := sh_u2 (sh_u2 m.I 66 41 x2) 66 56 ((m.I 66 56) + 1)) (J2 := m.J) (fun hT v kk => ?_) ?_
    · refine sh_j0 (c := .eq) (off := (11)) (pc2 := 181) false rfl (sh_Beqf c) rfl ?_
      refine sh_w (i := (.iload_n 3)) (len := 1) (pc2 := 182) (lv2 := [(4, .int (m.I 66 57)), (3, .int (sh_b2 y0)), (0, .ref 67), (1, .int x1), (2, .int x2)]) (st2 := [.int (sh_b2 y0), .ref 67]) (h2 := (sh_rep m.T (sh_u2 (sh_u2 m.I 66 41 x2) 66 56 ((m.I 66 56) + 1)) m.J)) rfl rfl rfl ?_
      exact kk
    rcases sh_ite e with ⟨c, e⟩ | ⟨c, e⟩
    · refine sh_Lk_lift (T := m.T) (I := sh_u2 (sh_u2 m.I 66 41 x2) 66 56 ((m.I 66 56) + 1)) (J := m.J) (s := m.s) (pc2 := 190) (lv2 := [(4, .int (m.I 66 57)), (3, .int (sh_b2 y0)), (0, .ref 67), (1, .int x1), (2, .int x2)]) (st2 := [.int 1, .ref 67]) (I2 := sh_u2 (sh_u2 m.I 66 41 x2) 66 56 ((m.I 66 56) + 1)) (J2 := m.J) (fun hT v kk => ?_) ?_
      · refine sh_j0 (c := .eq) (off := (7)) (pc2 := 185) false rfl (sh_Zeqf c) rfl ?_
        refine sh_w (i := (.iconst 1)) (len := 1) (pc2 := 186) (lv2 := [(4, .int (m.I 66 57)), (3, .int (sh_b2 y0)), (0, .ref 67), (1, .int x1), (2, .int x2)]) (st2 := [.int 1, .ref 67]) (h2 := (sh_rep m.T (sh_u2 (sh_u2 m.I 66 41 x2) 66 56 ((m.I 66 56) + 1)) m.J)) rfl rfl rfl ?_
        refine sh_w (i := (.goto 4)) (len := 3) (pc2 := 190) (lv2 := [(4, .int (m.I 66 57)), (3, .int (sh_b2 y0)), (0, .ref 67), (1, .int x1), (2, .int x2)]) (st2 := [.int 1, .ref 67]) (h2 := (sh_rep m.T (sh_u2 (sh_u2 m.I 66 41 x2) 66 56 ((m.I 66 56) + 1)) m.J)) rfl rfl rfl ?_
        exact kk
      exact sh_Lk_sub (sh_sub_c rfl (sh_sub_c rfl (sh_sub_c rfl (sh_sub_c rfl (sh_sub_n))))) (sl_291_190 hQ e tg)
    · refine sh_Lk_lift (T := m.T) (I := sh_u2 (sh_u2 m.I 66 41 x2) 66 56 ((m.I 66 56) + 1)) (J := m.J) (s := m.s) (pc2 := 189) (lv2 := [(4, .int (m.I 66 57)), (3, .int (sh_b2 y0)), (0, .ref 67), (1, .int x1), (2, .int x2)]) (st2 := [.ref 67]) (I2 := sh_u2 (sh_u2 m.I 66 41 x2) 66 56 ((m.I 66 56) + 1)) (J2 := m.J) (fun hT v kk => ?_) ?_
      · refine sh_j0 (c := .eq) (off := (7)) (pc2 := 189) true rfl (sh_Zeqt c) rfl ?_
        exact kk
      exact sh_Lk_sub (sh_sub_c rfl (sh_sub_c rfl (sh_sub_c rfl (sh_sub_c rfl (sh_sub_n))))) (sl_291_189 hQ e tg)
theorem sl_291 {Q : sh_Q279} {d : Nat} {x1 : Int32} {m m2 : sh_X} {o : Outcome} {z : (Bool × sh_X)} (hQ : sh_QL279 Q d) (e : sf_291 Q x1 m = some z) (tg : (sh_tZ o m2) z) : sh_Lk 291 0 [(0, .ref 67), (1, .int x1)] [] m o m2 (d + 1 + 15) (40 * (d + 1) + 385) := by
  unfold sf_291 at e
  refine sh_Lk_lift (T := m.T) (I := m.I) (J := m.J) (s := m.s) (pc2 := 7) (lv2 := [(0, .ref 67), (1, .int x1)]) (st2 := [.int x1, .ref 74, .int 1, .ref 67]) (I2 := m.I) (J2 := m.J) (fun hT v kk => ?_) ?_
  · refine sh_w (i := (.aload_n 0)) (len := 1) (pc2 := 1) (lv2 := [(0, .ref 67), (1, .int x1)]) (st2 := [.ref 67]) (h2 := (sh_rep m.T m.I m.J)) rfl rfl rfl ?_
    refine sh_w (i := (.iconst 1)) (len := 1) (pc2 := 2) (lv2 := [(0, .ref 67), (1, .int x1)]) (st2 := [.int 1, .ref 67]) (h2 := (sh_rep m.T m.I m.J)) rfl rfl rfl ?_
    refine sh_w (i := (.aload_n 0)) (len := 1) (pc2 := 3) (lv2 := [(0, .ref 67), (1, .int x1)]) (st2 := [.ref 67, .int 1, .ref 67]) (h2 := (sh_rep m.T m.I m.J)) rfl rfl rfl ?_
    refine sh_gR1 (len := 3) (x := .ref 74) (pc2 := 6) rfl rfl (sh_s66 hT.st) rfl rfl ?_
    refine sh_w (i := (.iload_n 1)) (len := 1) (pc2 := 7) (lv2 := [(0, .ref 67), (1, .int x1)]) (st2 := [.int x1, .ref 74, .int 1, .ref 67]) (h2 := (sh_rep m.T m.I m.J)) rfl rfl rfl ?_
    exact kk
  obtain ⟨c, e⟩ := sh_gd e
  refine sh_Lk_lift (T := m.T) (I := m.I) (J := m.J) (s := m.s) (pc2 := 8) (lv2 := [(0, .ref 67), (1, .int x1)]) (st2 := [.int (m.I 73 (Int32.toNatClampNeg x1)), .int 1, .ref 67]) (I2 := m.I) (J2 := m.J) (fun hT v kk => ?_) ?_
  · refine sh_ia1 (x := m.I 73 (Int32.toNatClampNeg x1)) (pc2 := 8) rfl (sh_s73 hT.st) (sh_okb1 c) (sh_okb2 c) rfl rfl ?_
    exact kk
  obtain ⟨r1, m11, e1, e⟩ := sh_bn_e e
  refine sh_Lk_cV (r := (some (.int (sh_b2 r1)))) (st2 := [.int (sh_b2 r1)]) (pc2 := 11) (k2 := 292) (a := 66) (as := [.ref 67, .int 1, .int (m.I 73 (Int32.toNatClampNeg x1))]) (rest := []) rfl rfl rfl (fun hT => (sh_s66 hT.st)) rfl rfl ⟨Nat.le_of_ble_eq_true rfl, Nat.le_of_ble_eq_true rfl⟩ (sl_292 e1 ⟨rfl, rfl⟩) rfl rfl (show 9 + 1 ≤ d + 1 + 15 by omega) (show 8 + (3 + 11) + (222) ≤ 40 * (d + 1) + 385 by omega) ?_
  rcases sh_ite e with ⟨c, e⟩ | ⟨c, e⟩
  · refine sh_Lk_lift (T := m11.T) (I := m11.I) (J := m11.J) (s := m11.s) (pc2 := 26) (lv2 := [(2, .int (m11.I 66 41)), (0, .ref 67), (1, .int x1)]) (st2 := [.int x1, .ref 73]) (I2 := m11.I) (J2 := m11.J) (fun hT v kk => ?_) ?_
    · refine sh_j0 (c := .ne) (off := (5)) (pc2 := 16) true rfl (sh_Znet c) rfl ?_
      refine sh_w (i := (.aload_n 0)) (len := 1) (pc2 := 17) (lv2 := [(0, .ref 67), (1, .int x1)]) (st2 := [.ref 67]) (h2 := (sh_rep m11.T m11.I m11.J)) rfl rfl rfl ?_
      refine sh_gI1 (len := 3) (x := m11.I 66 41) (pc2 := 20) rfl rfl (sh_s66 hT.st) rfl rfl rfl ?_
      refine sh_w (i := (.istore_n 2)) (len := 1) (pc2 := 21) (lv2 := [(2, .int (m11.I 66 41)), (0, .ref 67), (1, .int x1)]) (st2 := []) (h2 := (sh_rep m11.T m11.I m11.J)) rfl rfl rfl ?_
      refine sh_w (i := (.aload_n 0)) (len := 1) (pc2 := 22) (lv2 := [(2, .int (m11.I 66 41)), (0, .ref 67), (1, .int x1)]) (st2 := [.ref 67]) (h2 := (sh_rep m11.T m11.I m11.J)) rfl rfl rfl ?_
      refine sh_gR1 (len := 3) (x := .ref 73) (pc2 := 25) rfl rfl (sh_s66 hT.st) rfl rfl ?_
      refine sh_w (i := (.iload_n 1)) (len := 1) (pc2 := 26) (lv2 := [(2, .int (m11.I 66 41)), (0, .ref 67), (1, .int x1)]) (st2 := [.int x1, .ref 73]) (h2 := (sh_rep m11.T m11.I m11.J)) rfl rfl rfl ?_
      exact kk
    obtain ⟨c, e⟩ := sh_gd e
    refine sh_Lk_lift (T := m11.T) (I := m11.I) (J := m11.J) (s := m11.s) (pc2 := 27) (lv2 := [(2, .int (m11.I 66 41)), (0, .ref 67), (1, .int x1)]) (st2 := [.int (m11.I 72 (Int32.toNatClampNeg x1))]) (I2 := m11.I) (J2 := m11.J) (fun hT v kk => ?_) ?_
    · refine sh_ia1 (x := m11.I 72 (Int32.toNatClampNeg x1)) (pc2 := 27) rfl (sh_s72 hT.st) (sh_okb1 c) (sh_okb2 c) rfl rfl ?_
      exact kk
    rcases sh_ite e with ⟨c, e⟩ | ⟨c0, e⟩
    · refine sh_Lk_lift (T := m11.T) (I := m11.I) (J := m11.J) (s := m11.s) (pc2 := 58) (lv2 := [(2, .int (m11.I 66 41)), (0, .ref 67), (1, .int x1)]) (st2 := [.int x1, .ref 67]) (I2 := m11.I) (J2 := m11.J) (fun hT v kk => ?_) ?_
      · refine sh_w (i := (.tableswitch 238 20 23 #[29, 35, 48, 232])) (len := 29) (pc2 := 56) (lv2 := [(2, .int (m11.I 66 41)), (0, .ref 67), (1, .int x1)]) (st2 := []) (h2 := (sh_rep m11.T m11.I m11.J)) rfl rfl (sh_sw c rfl) ?_
        refine sh_w (i := (.aload_n 0)) (len := 1) (pc2 := 57) (lv2 := [(2, .int (m11.I 66 41)), (0, .ref 67), (1, .int x1)]) (st2 := [.ref 67]) (h2 := (sh_rep m11.T m11.I m11.J)) rfl rfl rfl ?_
        refine sh_w (i := (.iload_n 1)) (len := 1) (pc2 := 58) (lv2 := [(2, .int (m11.I 66 41)), (0, .ref 67), (1, .int x1)]) (st2 := [.int x1, .ref 67]) (h2 := (sh_rep m11.T m11.I m11.J)) rfl rfl rfl ?_
        exact kk
      obtain ⟨r2, m12, e2, e⟩ := sh_bn_e e
      refine sh_Lk_cV (r := (some (.int (sh_b2 r2)))) (st2 := [.int (sh_b2 r2)]) (pc2 := 61) (k2 := 293) (a := 66) (as := [.ref 67, .int x1]) (rest := []) rfl rfl rfl (fun hT => (sh_s66 hT.st)) rfl rfl ⟨Nat.le_of_ble_eq_true rfl, Nat.le_of_ble_eq_true rfl⟩ (hQ.f293 e2 ⟨rfl, rfl⟩) rfl rfl (show d + 15 + 1 ≤ d + 1 + 15 by omega) (show 8 + (6 + 11) + (40 * d + 385) ≤ 40 * (d + 1) + 385 by omega) ?_
      obtain rfl := Option.some.inj e
      obtain ⟨rfl, rfl⟩ := tg
      exact sh_Lk_ret (i := .ireturn) rfl rfl (sh_rb rfl _) (by omega) (by omega)
    rcases sh_ite e with ⟨c, e⟩ | ⟨c1, e⟩
    · refine sh_Lk_lift (T := m11.T) (I := m11.I) (J := m11.J) (s := m11.s) (pc2 := 64) (lv2 := [(2, .int (m11.I 66 41)), (0, .ref 67), (1, .int x1)]) (st2 := [.int x1, .ref 67]) (I2 := m11.I) (J2 := m11.J) (fun hT v kk => ?_) ?_
      · refine sh_w (i := (.tableswitch 238 20 23 #[29, 35, 48, 232])) (len := 29) (pc2 := 62) (lv2 := [(2, .int (m11.I 66 41)), (0, .ref 67), (1, .int x1)]) (st2 := []) (h2 := (sh_rep m11.T m11.I m11.J)) rfl rfl (sh_sw c rfl) ?_
        refine sh_w (i := (.aload_n 0)) (len := 1) (pc2 := 63) (lv2 := [(2, .int (m11.I 66 41)), (0, .ref 67), (1, .int x1)]) (st2 := [.ref 67]) (h2 := (sh_rep m11.T m11.I m11.J)) rfl rfl rfl ?_
        refine sh_w (i := (.iload_n 1)) (len := 1) (pc2 := 64) (lv2 := [(2, .int (m11.I 66 41)), (0, .ref 67), (1, .int x1)]) (st2 := [.int x1, .ref 67]) (h2 := (sh_rep m11.T m11.I m11.J)) rfl rfl rfl ?_
        exact kk
      obtain ⟨r3, m13, e3, e⟩ := sh_bn_e e
      refine sh_Lk_cV (r := (some (.int (sh_b2 r3)))) (st2 := [.int (sh_b2 r3)]) (pc2 := 67) (k2 := 319) (a := 66) (as := [.ref 67, .int x1]) (rest := []) rfl rfl rfl (fun hT => (sh_s66 hT.st)) rfl rfl ⟨Nat.le_of_ble_eq_true rfl, Nat.le_of_ble_eq_true rfl⟩ (hQ.f319 e3 ⟨rfl, rfl⟩) rfl rfl (show d + 15 + 1 ≤ d + 1 + 15 by omega) (show 8 + (9 + 11) + (40 * d + 385) ≤ 40 * (d + 1) + 385 by omega) ?_
      refine sh_Lk_lift (T := m13.T) (I := m13.I) (J := m13.J) (s := m13.s) (pc2 := 74) (lv2 := [(3, .int (sh_b2 r3)), (2, .int (m11.I 66 41)), (0, .ref 67), (1, .int x1)]) (st2 := [.int (sh_b2 r3)]) (I2 := sh_u2 m13.I 66 41 (m11.I 66 41)) (J2 := m13.J) (fun hT v kk => ?_) ?_
      · refine sh_w (i := (.istore_n 3)) (len := 1) (pc2 := 68) (lv2 := [(3, .int (sh_b2 r3)), (2, .int (m11.I 66 41)), (0, .ref 67), (1, .int x1)]) (st2 := []) (h2 := (sh_rep m13.T m13.I m13.J)) rfl rfl rfl ?_
        refine sh_w (i := (.aload_n 0)) (len := 1) (pc2 := 69) (lv2 := [(3, .int (sh_b2 r3)), (2, .int (m11.I 66 41)), (0, .ref 67), (1, .int x1)]) (st2 := [.ref 67]) (h2 := (sh_rep m13.T m13.I m13.J)) rfl rfl rfl ?_
        refine sh_w (i := (.iload_n 2)) (len := 1) (pc2 := 70) (lv2 := [(3, .int (sh_b2 r3)), (2, .int (m11.I 66 41)), (0, .ref 67), (1, .int x1)]) (st2 := [.int (m11.I 66 41), .ref 67]) (h2 := (sh_rep m13.T m13.I m13.J)) rfl rfl rfl ?_
        refine sh_pI1 (x := m11.I 66 41) (pc2 := 73) rfl rfl (sh_s66 hT.st) rfl rfl rfl rfl ?_
        refine sh_w (i := (.iload_n 3)) (len := 1) (pc2 := 74) (lv2 := [(3, .int (sh_b2 r3)), (2, .int (m11.I 66 41)), (0, .ref 67), (1, .int x1)]) (st2 := [.int (sh_b2 r3)]) (h2 := (sh_rep m13.T (sh_u2 m13.I 66 41 (m11.I 66 41)) m13.J)) rfl rfl rfl ?_
        exact kk
      obtain rfl := Option.some.inj e
      obtain ⟨rfl, rfl⟩ := tg
      exact sh_Lk_ret (i := .ireturn) rfl rfl (sh_rb rfl _) (by omega) (by omega)
    rcases sh_ite e with ⟨c, e⟩ | ⟨c2, e⟩
    · refine sh_Lk_lift (T := m11.T) (I := m11.I) (J := m11.J) (s := m11.s) (pc2 := 81) (lv2 := [(2, .int (m11.I 66 41)), (0, .ref 67), (1, .int x1)]) (st2 := [.int x1, .ref 75, .ref 67]) (I2 := m11.I) (J2 := m11.J) (fun hT v kk => ?_) ?_
      · refine sh_w (i := (.tableswitch 238 20 23 #[29, 35, 48, 232])) (len := 29) (pc2 := 75) (lv2 := [(2, .int (m11.I 66 41)), (0, .ref 67), (1, .int x1)]) (st2 := []) (h2 := (sh_rep m11.T m11.I m11.J)) rfl rfl (sh_sw c rfl) ?_
        refine sh_w (i := (.aload_n 0)) (len := 1) (pc2 := 76) (lv2 := [(2, .int (m11.I 66 41)), (0, .ref 67), (1, .int x1)]) (st2 := [.ref 67]) (h2 := (sh_rep m11.T m11.I m11.J)) rfl rfl rfl ?_
        refine sh_w (i := (.aload_n 0)) (len := 1) (pc2 := 77) (lv2 := [(2, .int (m11.I 66 41)), (0, .ref 67), (1, .int x1)]) (st2 := [.ref 67, .ref 67]) (h2 := (sh_rep m11.T m11.I m11.J)) rfl rfl rfl ?_
        refine sh_gR1 (len := 3) (x := .ref 75) (pc2 := 80) rfl rfl (sh_s66 hT.st) rfl rfl ?_
        refine sh_w (i := (.iload_n 1)) (len := 1) (pc2 := 81) (lv2 := [(2, .int (m11.I 66 41)), (0, .ref 67), (1, .int x1)]) (st2 := [.int x1, .ref 75, .ref 67]) (h2 := (sh_rep m11.T m11.I m11.J)) rfl rfl rfl ?_
        exact kk
      obtain ⟨c, e⟩ := sh_gd e
      refine sh_Lk_lift (T := m11.T) (I := m11.I) (J := m11.J) (s := m11.s) (pc2 := 82) (lv2 := [(2, .int (m11.I 66 41)), (0, .ref 67), (1, .int x1)]) (st2 := [.int (m11.I 74 (Int32.toNatClampNeg x1)), .ref 67]) (I2 := m11.I) (J2 := m11.J) (fun hT v kk => ?_) ?_
      · refine sh_ia1 (x := m11.I 74 (Int32.toNatClampNeg x1)) (pc2 := 82) rfl (sh_s74 hT.st) (sh_okb1 c) (sh_okb2 c) rfl rfl ?_
        exact kk
      obtain ⟨r4, m14, e4, e⟩ := sh_bn_e e
      refine sh_Lk_cV (r := (some (.int (sh_b2 r4)))) (st2 := [.int (sh_b2 r4)]) (pc2 := 85) (k2 := 294) (a := 66) (as := [.ref 67, .int (m11.I 74 (Int32.toNatClampNeg x1))]) (rest := []) rfl rfl rfl (fun hT => (sh_s66 hT.st)) rfl rfl ⟨Nat.le_of_ble_eq_true rfl, Nat.le_of_ble_eq_true rfl⟩ (hQ.f294 e4 ⟨rfl, rfl⟩) rfl rfl (show d + 15 + 1 ≤ d + 1 + 15 by omega) (show 8 + (5 + 11) + (40 * d + 385) ≤ 40 * (d + 1) + 385 by omega) ?_
      rcases sh_ite e with ⟨c, e⟩ | ⟨c, e⟩
      · refine sh_Lk_lift (T := m14.T) (I := m14.I) (J := m14.J) (s := m14.s) (pc2 := 94) (lv2 := [(2, .int (m11.I 66 41)), (0, .ref 67), (1, .int x1)]) (st2 := [.int x1, .ref 75, .ref 67]) (I2 := m14.I) (J2 := m14.J) (fun hT v kk => ?_) ?_
        · refine sh_j0 (c := .eq) (off := (16)) (pc2 := 88) false rfl (sh_Zeqf c) rfl ?_
          refine sh_w (i := (.aload_n 0)) (len := 1) (pc2 := 89) (lv2 := [(2, .int (m11.I 66 41)), (0, .ref 67), (1, .int x1)]) (st2 := [.ref 67]) (h2 := (sh_rep m14.T m14.I m14.J)) rfl rfl rfl ?_
          refine sh_w (i := (.aload_n 0)) (len := 1) (pc2 := 90) (lv2 := [(2, .int (m11.I 66 41)), (0, .ref 67), (1, .int x1)]) (st2 := [.ref 67, .ref 67]) (h2 := (sh_rep m14.T m14.I m14.J)) rfl rfl rfl ?_
          refine sh_gR1 (len := 3) (x := .ref 75) (pc2 := 93) rfl rfl (sh_s66 hT.st) rfl rfl ?_
          refine sh_w (i := (.iload_n 1)) (len := 1) (pc2 := 94) (lv2 := [(2, .int (m11.I 66 41)), (0, .ref 67), (1, .int x1)]) (st2 := [.int x1, .ref 75, .ref 67]) (h2 := (sh_rep m14.T m14.I m14.J)) rfl rfl rfl ?_
          exact kk
        obtain ⟨c, e⟩ := sh_gd e
        refine sh_Lk_lift (T := m14.T) (I := m14.I) (J := m14.J) (s := m14.s) (pc2 := 95) (lv2 := [(2, .int (m11.I 66 41)), (0, .ref 67), (1, .int x1)]) (st2 := [.int (m14.I 74 (Int32.toNatClampNeg x1)), .ref 67]) (I2 := m14.I) (J2 := m14.J) (fun hT v kk => ?_) ?_
        · refine sh_ia1 (x := m14.I 74 (Int32.toNatClampNeg x1)) (pc2 := 95) rfl (sh_s74 hT.st) (sh_okb1 c) (sh_okb2 c) rfl rfl ?_
          exact kk
        obtain ⟨r5, m15, e5, e⟩ := sh_bn_e e
        refine sh_Lk_cV (r := (some (.int (sh_b2 r5)))) (st2 := [.int (sh_b2 r5)]) (pc2 := 98) (k2 := 298) (a := 66) (as := [.ref 67, .int (m14.I 74 (Int32.toNatClampNeg x1))]) (rest := []) rfl rfl rfl (fun hT => (sh_s66 hT.st)) rfl rfl ⟨Nat.le_of_ble_eq_true rfl, Nat.le_of_ble_eq_true rfl⟩ (sl_298 e5 ⟨rfl, rfl⟩) rfl rfl (show 11 + 1 ≤ d + 1 + 15 by omega) (show 8 + (2 + 11) + (268) ≤ 40 * (d + 1) + 385 by omega) ?_
        rcases sh_ite e with ⟨c, e⟩ | ⟨c, e⟩
        · refine sh_Lk_lift (T := m15.T) (I := m15.I) (J := m15.J) (s := m15.s) (pc2 := 107) (lv2 := [(2, .int (m11.I 66 41)), (0, .ref 67), (1, .int x1)]) (st2 := [.int (m15.I 66 43)]) (I2 := m15.I) (J2 := m15.J) (fun hT v kk => ?_) ?_
          · refine sh_j0 (c := .ne) (off := (5)) (pc2 := 103) true rfl (sh_Znet c) rfl ?_
            refine sh_w (i := (.aload_n 0)) (len := 1) (pc2 := 104) (lv2 := [(2, .int (m11.I 66 41)), (0, .ref 67), (1, .int x1)]) (st2 := [.ref 67]) (h2 := (sh_rep m15.T m15.I m15.J)) rfl rfl rfl ?_
            refine sh_gI1 (len := 3) (x := m15.I 66 43) (pc2 := 107) rfl rfl (sh_s66 hT.st) rfl rfl rfl ?_
            exact kk
          rcases sh_ite e with ⟨c, e⟩ | ⟨c, e⟩
          · refine sh_Lk_lift (T := m15.T) (I := m15.I) (J := m15.J) (s := m15.s) (pc2 := 114) (lv2 := [(2, .int (m11.I 66 41)), (0, .ref 67), (1, .int x1)]) (st2 := [.int (m15.I 66 45)]) (I2 := m15.I) (J2 := m15.J) (fun hT v kk => ?_) ?_
            · refine sh_j0 (c := .ne) (off := (10)) (pc2 := 110) false rfl (sh_Bnef c) rfl ?_
              refine sh_w (i := (.aload_n 0)) (len := 1) (pc2 := 111) (lv2 := [(2, .int (m11.I 66 41)), (0, .ref 67), (1, .int x1)]) (st2 := [.ref 67]) (h2 := (sh_rep m15.T m15.I m15.J)) rfl rfl rfl ?_
              refine sh_gI1 (len := 3) (x := m15.I 66 45) (pc2 := 114) rfl rfl (sh_s66 hT.st) rfl rfl rfl ?_
              exact kk
            rcases sh_ite e with ⟨c, e⟩ | ⟨c, e⟩
            · refine sh_Lk_lift (T := m15.T) (I := m15.I) (J := m15.J) (s := m15.s) (pc2 := 117) (lv2 := [(2, .int (m11.I 66 41)), (0, .ref 67), (1, .int x1)]) (st2 := []) (I2 := m15.I) (J2 := m15.J) (fun hT v kk => ?_) ?_
              · refine sh_j0 (c := .le) (off := (25)) (pc2 := 117) false rfl (sh_Blef c) rfl ?_
                exact kk
              exact sh_Lk_sub (sh_sub_c rfl (sh_sub_c rfl (sh_sub_n))) (sl_291_117 hQ e tg)
            · refine sh_Lk_lift (T := m15.T) (I := m15.I) (J := m15.J) (s := m15.s) (pc2 := 145) (lv2 := [(2, .int (m11.I 66 41)), (0, .ref 67), (1, .int x1)]) (st2 := [.int (lg_cmp (m15.J 66 46) 0)]) (I2 := m15.I) (J2 := m15.J) (fun hT v kk => ?_) ?_
              · refine sh_j0 (c := .le) (off := (25)) (pc2 := 139) true rfl (sh_Blet c) rfl ?_
                refine sh_w (i := (.aload_n 0)) (len := 1) (pc2 := 140) (lv2 := [(2, .int (m11.I 66 41)), (0, .ref 67), (1, .int x1)]) (st2 := [.ref 67]) (h2 := (sh_rep m15.T m15.I m15.J)) rfl rfl rfl ?_
                refine sh_gJ1 (len := 3) (x := m15.J 66 46) (pc2 := 143) rfl rfl (sh_s66 hT.st) rfl rfl rfl ?_
                refine sh_w (i := (.lconst 0)) (len := 1) (pc2 := 144) (lv2 := [(2, .int (m11.I 66 41)), (0, .ref 67), (1, .int x1)]) (st2 := [.long 0, .long (m15.J 66 46)]) (h2 := (sh_rep m15.T m15.I m15.J)) rfl rfl rfl ?_
                refine sh_w (i := .lcmp) (len := 1) (pc2 := 145) (lv2 := [(2, .int (m11.I 66 41)), (0, .ref 67), (1, .int x1)]) (st2 := [.int (lg_cmp (m15.J 66 46) 0)]) (h2 := (sh_rep m15.T m15.I m15.J)) rfl rfl rfl ?_
                exact kk
              rcases sh_ite e with ⟨c, e⟩ | ⟨c, e⟩
              · refine sh_Lk_lift (T := m15.T) (I := m15.I) (J := m15.J) (s := m15.s) (pc2 := 153) (lv2 := [(2, .int (m11.I 66 41)), (0, .ref 67), (1, .int x1)]) (st2 := [.int 0]) (I2 := m15.I) (J2 := m15.J) (fun hT v kk => ?_) ?_
                · refine sh_j0 (c := .eq) (off := (7)) (pc2 := 152) true rfl (sh_Ceqt c) rfl ?_
                  refine sh_w (i := (.iconst 0)) (len := 1) (pc2 := 153) (lv2 := [(2, .int (m11.I 66 41)), (0, .ref 67), (1, .int x1)]) (st2 := [.int 0]) (h2 := (sh_rep m15.T m15.I m15.J)) rfl rfl rfl ?_
                  exact kk
                exact sh_Lk_sub (sh_sub_c rfl (sh_sub_c rfl (sh_sub_c rfl (sh_sub_n)))) (sl_291_153 hQ e tg)
              · refine sh_Lk_lift (T := m15.T) (I := m15.I) (J := m15.J) (s := m15.s) (pc2 := 153) (lv2 := [(2, .int (m11.I 66 41)), (0, .ref 67), (1, .int x1)]) (st2 := [.int 1]) (I2 := m15.I) (J2 := m15.J) (fun hT v kk => ?_) ?_
                · refine sh_j0 (c := .eq) (off := (7)) (pc2 := 148) false rfl (sh_Ceqf c) rfl ?_
                  refine sh_w (i := (.iconst 1)) (len := 1) (pc2 := 149) (lv2 := [(2, .int (m11.I 66 41)), (0, .ref 67), (1, .int x1)]) (st2 := [.int 1]) (h2 := (sh_rep m15.T m15.I m15.J)) rfl rfl rfl ?_
                  refine sh_w (i := (.goto 4)) (len := 3) (pc2 := 153) (lv2 := [(2, .int (m11.I 66 41)), (0, .ref 67), (1, .int x1)]) (st2 := [.int 1]) (h2 := (sh_rep m15.T m15.I m15.J)) rfl rfl rfl ?_
                  exact kk
                exact sh_Lk_sub (sh_sub_c rfl (sh_sub_c rfl (sh_sub_c rfl (sh_sub_n)))) (sl_291_153 hQ e tg)
          · refine sh_Lk_lift (T := m15.T) (I := m15.I) (J := m15.J) (s := m15.s) (pc2 := 117) (lv2 := [(2, .int (m11.I 66 41)), (0, .ref 67), (1, .int x1)]) (st2 := []) (I2 := m15.I) (J2 := m15.J) (fun hT v kk => ?_) ?_
            · refine sh_j0 (c := .ne) (off := (10)) (pc2 := 117) true rfl (sh_Bnet c) rfl ?_
              exact kk
            exact sh_Lk_sub (sh_sub_c rfl (sh_sub_c rfl (sh_sub_n))) (sl_291_117 hQ e tg)
        · refine sh_Lk_lift (T := m15.T) (I := m15.I) (J := m15.J) (s := m15.s) (pc2 := 102) (lv2 := [(2, .int (m11.I 66 41)), (0, .ref 67), (1, .int x1)]) (st2 := [.int 0]) (I2 := m15.I) (J2 := m15.J) (fun hT v kk => ?_) ?_
          · refine sh_j0 (c := .ne) (off := (5)) (pc2 := 101) false rfl (sh_Znef c) rfl ?_
            refine sh_w (i := (.iconst 0)) (len := 1) (pc2 := 102) (lv2 := [(2, .int (m11.I 66 41)), (0, .ref 67), (1, .int x1)]) (st2 := [.int 0]) (h2 := (sh_rep m15.T m15.I m15.J)) rfl rfl rfl ?_
            exact kk
          obtain rfl := Option.some.inj e
          obtain ⟨rfl, rfl⟩ := tg
          exact sh_Lk_ret (i := .ireturn) rfl rfl rfl (by omega) (by omega)
      · refine sh_Lk_lift (T := m14.T) (I := m14.I) (J := m14.J) (s := m14.s) (pc2 := 102) (lv2 := [(2, .int (m11.I 66 41)), (0, .ref 67), (1, .int x1)]) (st2 := [.int 0]) (I2 := m14.I) (J2 := m14.J) (fun hT v kk => ?_) ?_
        · refine sh_j0 (c := .eq) (off := (16)) (pc2 := 101) true rfl (sh_Zeqt c) rfl ?_
          refine sh_w (i := (.iconst 0)) (len := 1) (pc2 := 102) (lv2 := [(2, .int (m11.I 66 41)), (0, .ref 67), (1, .int x1)]) (st2 := [.int 0]) (h2 := (sh_rep m14.T m14.I m14.J)) rfl rfl rfl ?_
          exact kk
        obtain rfl := Option.some.inj e
        obtain ⟨rfl, rfl⟩ := tg
        exact sh_Lk_ret (i := .ireturn) rfl rfl rfl (by omega) (by omega)
    rcases sh_ite e with ⟨c, e⟩ | ⟨c3, e⟩
    · refine sh_Lk_lift (T := m11.T) (I := m11.I) (J := m11.J) (s := m11.s) (pc2 := 261) (lv2 := [(2, .int (m11.I 66 41)), (0, .ref 67), (1, .int x1)]) (st2 := [.int x1, .ref 67]) (I2 := m11.I) (J2 := m11.J) (fun hT v kk => ?_) ?_
      · refine sh_w (i := (.tableswitch 238 20 23 #[29, 35, 48, 232])) (len := 29) (pc2 := 259) (lv2 := [(2, .int (m11.I 66 41)), (0, .ref 67), (1, .int x1)]) (st2 := []) (h2 := (sh_rep m11.T m11.I m11.J)) rfl rfl (sh_sw c rfl) ?_
        refine sh_w (i := (.aload_n 0)) (len := 1) (pc2 := 260) (lv2 := [(2, .int (m11.I 66 41)), (0, .ref 67), (1, .int x1)]) (st2 := [.ref 67]) (h2 := (sh_rep m11.T m11.I m11.J)) rfl rfl rfl ?_
        refine sh_w (i := (.iload_n 1)) (len := 1) (pc2 := 261) (lv2 := [(2, .int (m11.I 66 41)), (0, .ref 67), (1, .int x1)]) (st2 := [.int x1, .ref 67]) (h2 := (sh_rep m11.T m11.I m11.J)) rfl rfl rfl ?_
        exact kk
      obtain ⟨r6, m16, e6, e⟩ := sh_bn_e e
      refine sh_Lk_cV (r := (some (.int (sh_b2 r6)))) (st2 := [.int (sh_b2 r6)]) (pc2 := 264) (k2 := 321) (a := 66) (as := [.ref 67, .int x1]) (rest := []) rfl rfl rfl (fun hT => (sh_s66 hT.st)) rfl rfl ⟨Nat.le_of_ble_eq_true rfl, Nat.le_of_ble_eq_true rfl⟩ (hQ.f321 e6 ⟨rfl, rfl⟩) rfl rfl (show d + 15 + 1 ≤ d + 1 + 15 by omega) (show 8 + (11 + 11) + (40 * d + 385) ≤ 40 * (d + 1) + 385 by omega) ?_
      obtain rfl := Option.some.inj e
      obtain ⟨rfl, rfl⟩ := tg
      exact sh_Lk_ret (i := .ireturn) rfl rfl (sh_rb rfl _) (by omega) (by omega)
    refine sh_Lk_lift (T := m11.T) (I := m11.I) (J := m11.J) (s := m11.s) (pc2 := 267) (lv2 := [(2, .int (m11.I 66 41)), (0, .ref 67), (1, .int x1)]) (st2 := [.int x1, .ref 67]) (I2 := m11.I) (J2 := m11.J) (fun hT v kk => ?_) ?_
    · refine sh_w (i := (.tableswitch 238 20 23 #[29, 35, 48, 232])) (len := 29) (pc2 := 265) (lv2 := [(2, .int (m11.I 66 41)), (0, .ref 67), (1, .int x1)]) (st2 := []) (h2 := (sh_rep m11.T m11.I m11.J)) rfl rfl (sh_swt [20, 21, 22, 23] (by intro j h1 h2; simp; omega) (sh_fc (fun h => c0 (h)) (sh_fc (fun h => c1 (h)) (sh_fc (fun h => c2 (h)) (sh_fc (fun h => c3 (h)) sh_fn)))) rfl) ?_
      refine sh_w (i := (.aload_n 0)) (len := 1) (pc2 := 266) (lv2 := [(2, .int (m11.I 66 41)), (0, .ref 67), (1, .int x1)]) (st2 := [.ref 67]) (h2 := (sh_rep m11.T m11.I m11.J)) rfl rfl rfl ?_
      refine sh_w (i := (.iload_n 1)) (len := 1) (pc2 := 267) (lv2 := [(2, .int (m11.I 66 41)), (0, .ref 67), (1, .int x1)]) (st2 := [.int x1, .ref 67]) (h2 := (sh_rep m11.T m11.I m11.J)) rfl rfl rfl ?_
      exact kk
    obtain ⟨r7, m17, e7, e⟩ := sh_bn_e e
    refine sh_Lk_cV (r := (some (.int (sh_b2 r7)))) (st2 := [.int (sh_b2 r7)]) (pc2 := 270) (k2 := 322) (a := 66) (as := [.ref 67, .int x1]) (rest := []) rfl rfl rfl (fun hT => (sh_s66 hT.st)) rfl rfl ⟨Nat.le_of_ble_eq_true rfl, Nat.le_of_ble_eq_true rfl⟩ (hQ.f322 e7 ⟨rfl, rfl⟩) rfl rfl (show d + 15 + 1 ≤ d + 1 + 15 by omega) (show 8 + (5 + 11) + (40 * d + 385) ≤ 40 * (d + 1) + 385 by omega) ?_
    refine sh_Lk_lift (T := m17.T) (I := m17.I) (J := m17.J) (s := m17.s) (pc2 := 277) (lv2 := [(3, .int (sh_b2 r7)), (2, .int (m11.I 66 41)), (0, .ref 67), (1, .int x1)]) (st2 := [.int (sh_b2 r7)]) (I2 := sh_u2 m17.I 66 41 (m11.I 66 41)) (J2 := m17.J) (fun hT v kk => ?_) ?_
    · refine sh_w (i := (.istore_n 3)) (len := 1) (pc2 := 271) (lv2 := [(3, .int (sh_b2 r7)), (2, .int (m11.I 66 41)), (0, .ref 67), (1, .int x1)]) (st2 := []) (h2 := (sh_rep m17.T m17.I m17.J)) rfl rfl rfl ?_
      refine sh_w (i := (.aload_n 0)) (len := 1) (pc2 := 272) (lv2 := [(3, .int (sh_b2 r7)), (2, .int (m11.I 66 41)), (0, .ref 67), (1, .int x1)]) (st2 := [.ref 67]) (h2 := (sh_rep m17.T m17.I m17.J)) rfl rfl rfl ?_
      refine sh_w (i := (.iload_n 2)) (len := 1) (pc2 := 273) (lv2 := [(3, .int (sh_b2 r7)), (2, .int (m11.I 66 41)), (0, .ref 67), (1, .int x1)]) (st2 := [.int (m11.I 66 41), .ref 67]) (h2 := (sh_rep m17.T m17.I m17.J)) rfl rfl rfl ?_
      refine sh_pI1 (x := m11.I 66 41) (pc2 := 276) rfl rfl (sh_s66 hT.st) rfl rfl rfl rfl ?_
      refine sh_w (i := (.iload_n 3)) (len := 1) (pc2 := 277) (lv2 := [(3, .int (sh_b2 r7)), (2, .int (m11.I 66 41)), (0, .ref 67), (1, .int x1)]) (st2 := [.int (sh_b2 r7)]) (h2 := (sh_rep m17.T (sh_u2 m17.I 66 41 (m11.I 66 41)) m17.J)) rfl rfl rfl ?_
      exact kk
    obtain rfl := Option.some.inj e
    obtain ⟨rfl, rfl⟩ := tg
    exact sh_Lk_ret (i := .ireturn) rfl rfl (sh_rb rfl _) (by omega) (by omega)
  · refine sh_Lk_lift (T := m11.T) (I := m11.I) (J := m11.J) (s := m11.s) (pc2 := 15) (lv2 := [(0, .ref 67), (1, .int x1)]) (st2 := [.int 0]) (I2 := m11.I) (J2 := m11.J) (fun hT v kk => ?_) ?_
    · refine sh_j0 (c := .ne) (off := (5)) (pc2 := 14) false rfl (sh_Znef c) rfl ?_
      refine sh_w (i := (.iconst 0)) (len := 1) (pc2 := 15) (lv2 := [(0, .ref 67), (1, .int x1)]) (st2 := [.int 0]) (h2 := (sh_rep m11.T m11.I m11.J)) rfl rfl rfl ?_
      exact kk
    obtain rfl := Option.some.inj e
    obtain ⟨rfl, rfl⟩ := tg
    exact sh_Lk_ret (i := .ireturn) rfl rfl rfl (by omega) (by omega)
