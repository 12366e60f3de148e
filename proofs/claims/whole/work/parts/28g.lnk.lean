/-! LINKS, printed by gen27.py -/
theorem sl_233 {x1 : Int32} {x2 : Int64} {x4 : Int64} {m m2 : sh_X} {o : Outcome} {z : (Unit × sh_X)} (e : sf_233 x1 x2 x4 m = some z) (tg : (sh_tV o m2) z) : sh_Lk 233 0 [(0, .ref 62), (1, .int x1), (2, .long x2), (4, .long x4)] [] m o m2 10 247 := by
  unfold sf_233 at e
  refine sh_Lk_lift (T := m.T) (I := m.I) (J := m.J) (s := m.s) (pc2 := 17) (lv2 := [(6, .int (Int64.toInt32 (((2 : Int64) * (x2 &&& (1 : Int64))) + (x4 &&& (1 : Int64))))), (0, .ref 62), (1, .int x1), (2, .long x2), (4, .long x4)]) (st2 := [.int x1, .ref 62]) (I2 := m.I) (J2 := m.J) (fun hT v kk => ?_) ?_
  · refine sh_w (i := (.ldc2_w 7)) (len := 3) (pc2 := 3) (lv2 := [(0, .ref 62), (1, .int x1), (2, .long x2), (4, .long x4)]) (st2 := [.long 2]) (h2 := (sh_rep m.T m.I m.J)) rfl rfl rfl ?_
    refine sh_w (i := (.lload_n 2)) (len := 1) (pc2 := 4) (lv2 := [(0, .ref 62), (1, .int x1), (2, .long x2), (4, .long x4)]) (st2 := [.long x2, .long 2]) (h2 := (sh_rep m.T m.I m.J)) rfl rfl rfl ?_
    refine sh_w (i := (.lconst 1)) (len := 1) (pc2 := 5) (lv2 := [(0, .ref 62), (1, .int x1), (2, .long x2), (4, .long x4)]) (st2 := [.long 1, .long x2, .long 2]) (h2 := (sh_rep m.T m.I m.J)) rfl rfl rfl ?_
    refine sh_w (i := .land) (len := 1) (pc2 := 6) (lv2 := [(0, .ref 62), (1, .int x1), (2, .long x2), (4, .long x4)]) (st2 := [.long (x2 &&& (1 : Int64)), .long 2]) (h2 := (sh_rep m.T m.I m.J)) rfl rfl rfl ?_
    refine sh_w (i := .lmul) (len := 1) (pc2 := 7) (lv2 := [(0, .ref 62), (1, .int x1), (2, .long x2), (4, .long x4)]) (st2 := [.long ((2 : Int64) * (x2 &&& (1 : Int64)))]) (h2 := (sh_rep m.T m.I m.J)) rfl rfl rfl ?_
    refine sh_w (i := (.lload 4)) (len := 2) (pc2 := 9) (lv2 := [(0, .ref 62), (1, .int x1), (2, .long x2), (4, .long x4)]) (st2 := [.long x4, .long ((2 : Int64) * (x2 &&& (1 : Int64)))]) (h2 := (sh_rep m.T m.I m.J)) rfl rfl rfl ?_
    refine sh_w (i := (.lconst 1)) (len := 1) (pc2 := 10) (lv2 := [(0, .ref 62), (1, .int x1), (2, .long x2), (4, .long x4)]) (st2 := [.long 1, .long x4, .long ((2 : Int64) * (x2 &&& (1 : Int64)))]) (h2 := (sh_rep m.T m.I m.J)) rfl rfl rfl ?_
    refine sh_w (i := .land) (len := 1) (pc2 := 11) (lv2 := [(0, .ref 62), (1, .int x1), (2, .long x2), (4, .long x4)]) (st2 := [.long (x4 &&& (1 : Int64)), .long ((2 : Int64) * (x2 &&& (1 : Int64)))]) (h2 := (sh_rep m.T m.I m.J)) rfl rfl rfl ?_
    refine sh_w (i := .ladd) (len := 1) (pc2 := 12) (lv2 := [(0, .ref 62), (1, .int x1), (2, .long x2), (4, .long x4)]) (st2 := [.long (((2 : Int64) * (x2 &&& (1 : Int64))) + (x4 &&& (1 : Int64)))]) (h2 := (sh_rep m.T m.I m.J)) rfl rfl rfl ?_
    refine sh_w (i := .l2i) (len := 1) (pc2 := 13) (lv2 := [(0, .ref 62), (1, .int x1), (2, .long x2), (4, .long x4)]) (st2 := [.int (Int64.toInt32 (((2 : Int64) * (x2 &&& (1 : Int64))) + (x4 &&& (1 : Int64))))]) (h2 := (sh_rep m.T m.I m.J)) rfl rfl rfl ?_
    refine sh_w (i := (.istore 6)) (len := 2) (pc2 := 15) (lv2 := [(6, .int (Int64.toInt32 (((2 : Int64) * (x2 &&& (1 : Int64))) + (x4 &&& (1 : Int64))))), (0, .ref 62), (1, .int x1), (2, .long x2), (4, .long x4)]) (st2 := []) (h2 := (sh_rep m.T m.I m.J)) rfl rfl rfl ?_
    refine sh_w (i := (.aload_n 0)) (len := 1) (pc2 := 16) (lv2 := [(6, .int (Int64.toInt32 (((2 : Int64) * (x2 &&& (1 : Int64))) + (x4 &&& (1 : Int64))))), (0, .ref 62), (1, .int x1), (2, .long x2), (4, .long x4)]) (st2 := [.ref 62]) (h2 := (sh_rep m.T m.I m.J)) rfl rfl rfl ?_
    refine sh_w (i := (.iload_n 1)) (len := 1) (pc2 := 17) (lv2 := [(6, .int (Int64.toInt32 (((2 : Int64) * (x2 &&& (1 : Int64))) + (x4 &&& (1 : Int64))))), (0, .ref 62), (1, .int x1), (2, .long x2), (4, .long x4)]) (st2 := [.int x1, .ref 62]) (h2 := (sh_rep m.T m.I m.J)) rfl rfl rfl ?_
    exact kk
  obtain ⟨r1, e1, e⟩ := sh_bc_e e
  refine sh_Lk_cV (r := (some (.int (sh_b2 r1)))) (st2 := [.int (sh_b2 r1)]) (pc2 := 20) (k2 := 225) (a := 61) (as := [.ref 62, .int x1]) (rest := []) rfl rfl rfl (fun hT => hT.t61) rfl rfl ⟨Nat.le_of_ble_eq_true rfl, Nat.le_of_ble_eq_true rfl⟩ (sl_225 e1 ⟨rfl, rfl⟩) rfl rfl (Nat.le_of_ble_eq_true rfl) (Nat.le_of_ble_eq_true rfl) ?_
  rcases sh_ite e with ⟨c, e⟩ | ⟨c, e⟩
  · refine sh_Lk_lift (T := m.T) (I := m.I) (J := m.J) (s := m.s) (pc2 := 34) (lv2 := [(6, .int (Int64.toInt32 (((2 : Int64) * (x2 &&& (1 : Int64))) + (x4 &&& (1 : Int64))))), (0, .ref 62), (1, .int x1), (2, .long x2), (4, .long x4)]) (st2 := [.int (Int64.toInt32 (((2 : Int64) * (x2 &&& (1 : Int64))) + (x4 &&& (1 : Int64)))), .ref 64, .int x1, .ref ((sh_rf m.T 61 4) + 1)]) (I2 := m.I) (J2 := m.J) (fun hT v kk => ?_) ?_
    · refine sh_j0 (c := .eq) (off := (24)) (pc2 := 23) false rfl (sh_Zeqf c) rfl ?_
      refine sh_w (i := (.aload_n 0)) (len := 1) (pc2 := 24) (lv2 := [(6, .int (Int64.toInt32 (((2 : Int64) * (x2 &&& (1 : Int64))) + (x4 &&& (1 : Int64))))), (0, .ref 62), (1, .int x1), (2, .long x2), (4, .long x4)]) (st2 := [.ref 62]) (h2 := (sh_rep m.T m.I m.J)) rfl rfl rfl ?_
      refine sh_gR1 (len := 3) (x := .ref (sh_rf m.T 61 4 + 1)) (pc2 := 27) rfl rfl hT.t61 rfl rfl ?_
      refine sh_w (i := (.iload_n 1)) (len := 1) (pc2 := 28) (lv2 := [(6, .int (Int64.toInt32 (((2 : Int64) * (x2 &&& (1 : Int64))) + (x4 &&& (1 : Int64))))), (0, .ref 62), (1, .int x1), (2, .long x2), (4, .long x4)]) (st2 := [.int x1, .ref ((sh_rf m.T 61 4) + 1)]) (h2 := (sh_rep m.T m.I m.J)) rfl rfl rfl ?_
      refine sh_w (i := (.aload_n 0)) (len := 1) (pc2 := 29) (lv2 := [(6, .int (Int64.toInt32 (((2 : Int64) * (x2 &&& (1 : Int64))) + (x4 &&& (1 : Int64))))), (0, .ref 62), (1, .int x1), (2, .long x2), (4, .long x4)]) (st2 := [.ref 62, .int x1, .ref ((sh_rf m.T 61 4) + 1)]) (h2 := (sh_rep m.T m.I m.J)) rfl rfl rfl ?_
      refine sh_gR1 (len := 3) (x := .ref 64) (pc2 := 32) rfl rfl hT.t61 rfl rfl ?_
      refine sh_w (i := (.iload 6)) (len := 2) (pc2 := 34) (lv2 := [(6, .int (Int64.toInt32 (((2 : Int64) * (x2 &&& (1 : Int64))) + (x4 &&& (1 : Int64))))), (0, .ref 62), (1, .int x1), (2, .long x2), (4, .long x4)]) (st2 := [.int (Int64.toInt32 (((2 : Int64) * (x2 &&& (1 : Int64))) + (x4 &&& (1 : Int64)))), .ref 64, .int x1, .ref ((sh_rf m.T 61 4) + 1)]) (h2 := (sh_rep m.T m.I m.J)) rfl rfl rfl ?_
      exact kk
    obtain ⟨c, e⟩ := sh_gd e
    refine sh_Lk_lift (T := m.T) (I := m.I) (J := m.J) (s := m.s) (pc2 := 39) (lv2 := [(6, .int (Int64.toInt32 (((2 : Int64) * (x2 &&& (1 : Int64))) + (x4 &&& (1 : Int64))))), (0, .ref 62), (1, .int x1), (2, .long x2), (4, .long x4)]) (st2 := [.int x1, .long x4, .long x2, .long (m.J 63 (Int32.toNatClampNeg (Int64.toInt32 (((2 : Int64) * (x2 &&& (1 : Int64))) + (x4 &&& (1 : Int64)))))), .int x1, .ref ((sh_rf m.T 61 4) + 1)]) (I2 := m.I) (J2 := m.J) (fun hT v kk => ?_) ?_
    · refine sh_la1 (x := m.J 63 (Int32.toNatClampNeg (Int64.toInt32 (((2 : Int64) * (x2 &&& (1 : Int64))) + (x4 &&& (1 : Int64)))))) (pc2 := 35) rfl (sh_s63 hT.st) (sh_okb1 c) (sh_okb2 c) rfl rfl ?_
      refine sh_w (i := (.lload_n 2)) (len := 1) (pc2 := 36) (lv2 := [(6, .int (Int64.toInt32 (((2 : Int64) * (x2 &&& (1 : Int64))) + (x4 &&& (1 : Int64))))), (0, .ref 62), (1, .int x1), (2, .long x2), (4, .long x4)]) (st2 := [.long x2, .long (m.J 63 (Int32.toNatClampNeg (Int64.toInt32 (((2 : Int64) * (x2 &&& (1 : Int64))) + (x4 &&& (1 : Int64)))))), .int x1, .ref ((sh_rf m.T 61 4) + 1)]) (h2 := (sh_rep m.T m.I m.J)) rfl rfl rfl ?_
      refine sh_w (i := (.lload 4)) (len := 2) (pc2 := 38) (lv2 := [(6, .int (Int64.toInt32 (((2 : Int64) * (x2 &&& (1 : Int64))) + (x4 &&& (1 : Int64))))), (0, .ref 62), (1, .int x1), (2, .long x2), (4, .long x4)]) (st2 := [.long x4, .long x2, .long (m.J 63 (Int32.toNatClampNeg (Int64.toInt32 (((2 : Int64) * (x2 &&& (1 : Int64))) + (x4 &&& (1 : Int64)))))), .int x1, .ref ((sh_rf m.T 61 4) + 1)]) (h2 := (sh_rep m.T m.I m.J)) rfl rfl rfl ?_
      refine sh_w (i := (.iload_n 1)) (len := 1) (pc2 := 39) (lv2 := [(6, .int (Int64.toInt32 (((2 : Int64) * (x2 &&& (1 : Int64))) + (x4 &&& (1 : Int64))))), (0, .ref 62), (1, .int x1), (2, .long x2), (4, .long x4)]) (st2 := [.int x1, .long x4, .long x2, .long (m.J 63 (Int32.toNatClampNeg (Int64.toInt32 (((2 : Int64) * (x2 &&& (1 : Int64))) + (x4 &&& (1 : Int64)))))), .int x1, .ref ((sh_rf m.T 61 4) + 1)]) (h2 := (sh_rep m.T m.I m.J)) rfl rfl rfl ?_
      exact kk
    refine sh_Lk_cS (r := (some (.long (sf_232 x2 x4 x1)))) (st2 := [.long (sf_232 x2 x4 x1), .long (m.J 63 (Int32.toNatClampNeg (Int64.toInt32 (((2 : Int64) * (x2 &&& (1 : Int64))) + (x4 &&& (1 : Int64)))))), .int x1, .ref ((sh_rf m.T 61 4) + 1)]) (pc2 := 42) (k2 := 232) (as := [.long x2, .long x4, .int x1]) (rest := [.long (m.J 63 (Int32.toNatClampNeg (Int64.toInt32 (((2 : Int64) * (x2 &&& (1 : Int64))) + (x4 &&& (1 : Int64)))))), .int x1, .ref ((sh_rf m.T 61 4) + 1)]) rfl rfl (by decide) (Nat.le_of_ble_eq_true rfl) rfl rfl ⟨Nat.le_of_ble_eq_true rfl, Nat.le_of_ble_eq_true rfl⟩ (sl_232 (m := m) rfl ⟨rfl, rfl⟩) rfl rfl (Nat.le_of_ble_eq_true rfl) (Nat.le_of_ble_eq_true rfl) ?_
    refine sh_Lk_lift (T := m.T) (I := m.I) (J := m.J) (s := m.s) (pc2 := 43) (lv2 := [(6, .int (Int64.toInt32 (((2 : Int64) * (x2 &&& (1 : Int64))) + (x4 &&& (1 : Int64))))), (0, .ref 62), (1, .int x1), (2, .long x2), (4, .long x4)]) (st2 := [.long ((m.J 63 (Int32.toNatClampNeg (Int64.toInt32 (((2 : Int64) * (x2 &&& (1 : Int64))) + (x4 &&& (1 : Int64)))))) ^^^ (sf_232 x2 x4 x1)), .int x1, .ref ((sh_rf m.T 61 4) + 1)]) (I2 := m.I) (J2 := m.J) (fun hT v kk => ?_) ?_
    · refine sh_w (i := .lxor) (len := 1) (pc2 := 43) (lv2 := [(6, .int (Int64.toInt32 (((2 : Int64) * (x2 &&& (1 : Int64))) + (x4 &&& (1 : Int64))))), (0, .ref 62), (1, .int x1), (2, .long x2), (4, .long x4)]) (st2 := [.long ((m.J 63 (Int32.toNatClampNeg (Int64.toInt32 (((2 : Int64) * (x2 &&& (1 : Int64))) + (x4 &&& (1 : Int64)))))) ^^^ (sf_232 x2 x4 x1)), .int x1, .ref ((sh_rf m.T 61 4) + 1)]) (h2 := (sh_rep m.T m.I m.J)) rfl rfl rfl ?_
      exact kk
    obtain ⟨c, e⟩ := sh_gd e
    refine sh_Lk_lift (T := m.T) (I := m.I) (J := m.J) (s := m.s) (pc2 := 44) (lv2 := [(6, .int (Int64.toInt32 (((2 : Int64) * (x2 &&& (1 : Int64))) + (x4 &&& (1 : Int64))))), (0, .ref 62), (1, .int x1), (2, .long x2), (4, .long x4)]) (st2 := []) (I2 := m.I) (J2 := sh_u2 m.J (sh_rf m.T 61 4) (Int32.toNatClampNeg x1) ((m.J 63 (Int32.toNatClampNeg (Int64.toInt32 (((2 : Int64) * (x2 &&& (1 : Int64))) + (x4 &&& (1 : Int64)))))) ^^^ (sf_232 x2 x4 x1))) (fun hT v kk => ?_) ?_
    · refine sh_ls1 (x := (m.J 63 (Int32.toNatClampNeg (Int64.toInt32 (((2 : Int64) * (x2 &&& (1 : Int64))) + (x4 &&& (1 : Int64)))))) ^^^ (sf_232 x2 x4 x1)) (i := x1) (pc2 := 44) rfl hT.a61_4 (sh_okb1 c) (sh_okb2 c) rfl ?_
      exact kk
    obtain rfl := Option.some.inj e
    obtain ⟨rfl, rfl⟩ := tg
    exact sh_Lk_ret (i := .return_) rfl rfl rfl (Nat.le_of_ble_eq_true rfl) (Nat.le_of_ble_eq_true rfl)
  · refine sh_Lk_lift (T := m.T) (I := m.I) (J := m.J) (s := m.s) (pc2 := 44) (lv2 := [(6, .int (Int64.toInt32 (((2 : Int64) * (x2 &&& (1 : Int64))) + (x4 &&& (1 : Int64))))), (0, .ref 62), (1, .int x1), (2, .long x2), (4, .long x4)]) (st2 := []) (I2 := m.I) (J2 := m.J) (fun hT v kk => ?_) ?_
    · refine sh_j0 (c := .eq) (off := (24)) (pc2 := 44) true rfl (sh_Zeqt c) rfl ?_
      exact kk
    obtain rfl := Option.some.inj e
    obtain ⟨rfl, rfl⟩ := tg
    exact sh_Lk_ret (i := .return_) rfl rfl rfl (Nat.le_of_ble_eq_true rfl) (Nat.le_of_ble_eq_true rfl)
theorem sl_235_40 {x0 : Nat} {y1 : Int32} {y2 : Int64} {m m2 : sh_X} {o : Outcome} {z : (Unit × sh_X)} (hx0 : sh_isE x0) (e : sf_235_40 x0 y1 y2 m = some z) (tg : (sh_tV o m2) z) : sh_Lk 235 40 [(0, .ref (x0 + 1))] [.long y2, .int y1, .ref ((x0 + 3) + 1)] m o m2 9 221 := by
  unfold sf_235_40 at e
  rcases hx0 with rfl | rfl | rfl
  · obtain ⟨c, e⟩ := sh_gd e
    refine sh_Lk_lift (T := m.T) (I := m.I) (J := m.J) (s := m.s) (pc2 := 41) (lv2 := [(0, .ref 14)]) (st2 := []) (I2 := m.I) (J2 := sh_u2 m.J 16 (Int32.toNatClampNeg y1) y2) (fun hT v kk => ?_) ?_
    · refine sh_ls1 (x := y2) (i := y1) (pc2 := 41) rfl (sh_s16 hT.st) (sh_okb1 c) (sh_okb2 c) rfl ?_
      exact kk
    obtain rfl := Option.some.inj e
    obtain ⟨rfl, rfl⟩ := tg
    exact sh_Lk_ret (i := .return_) rfl rfl rfl (Nat.le_of_ble_eq_true rfl) (Nat.le_of_ble_eq_true rfl)
  · obtain ⟨c, e⟩ := sh_gd e
    refine sh_Lk_lift (T := m.T) (I := m.I) (J := m.J) (s := m.s) (pc2 := 41) (lv2 := [(0, .ref 19)]) (st2 := []) (I2 := m.I) (J2 := sh_u2 m.J 21 (Int32.toNatClampNeg y1) y2) (fun hT v kk => ?_) ?_
    · refine sh_ls1 (x := y2) (i := y1) (pc2 := 41) rfl (sh_s21 hT.st) (sh_okb1 c) (sh_okb2 c) rfl ?_
      exact kk
    obtain rfl := Option.some.inj e
    obtain ⟨rfl, rfl⟩ := tg
    exact sh_Lk_ret (i := .return_) rfl rfl rfl (Nat.le_of_ble_eq_true rfl) (Nat.le_of_ble_eq_true rfl)
  · obtain ⟨c, e⟩ := sh_gd e
    refine sh_Lk_lift (T := m.T) (I := m.I) (J := m.J) (s := m.s) (pc2 := 41) (lv2 := [(0, .ref 24)]) (st2 := []) (I2 := m.I) (J2 := sh_u2 m.J 26 (Int32.toNatClampNeg y1) y2) (fun hT v kk => ?_) ?_
    · refine sh_ls1 (x := y2) (i := y1) (pc2 := 41) rfl (sh_s26 hT.st) (sh_okb1 c) (sh_okb2 c) rfl ?_
      exact kk
    obtain rfl := Option.some.inj e
    obtain ⟨rfl, rfl⟩ := tg
    exact sh_Lk_ret (i := .return_) rfl rfl rfl (Nat.le_of_ble_eq_true rfl) (Nat.le_of_ble_eq_true rfl)
theorem sl_235 {x0 : Nat} {x1 : Int32} {x2 : Int64} {m m2 : sh_X} {o : Outcome} {z : (Unit × sh_X)} (hx0 : sh_isE x0) (e : sf_235 x0 x1 x2 m = some z) (tg : (sh_tV o m2) z) : sh_Lk 235 0 [(0, .ref (x0 + 1)), (1, .int x1), (2, .long x2)] [] m o m2 9 221 := by
  unfold sf_235 at e
  rcases hx0 with rfl | rfl | rfl
  · refine sh_Lk_lift (T := m.T) (I := m.I) (J := m.J) (s := m.s) (pc2 := 2) (lv2 := [(0, .ref 14), (1, .int x1), (2, .long x2)]) (st2 := [.int x1, .ref 14]) (I2 := m.I) (J2 := m.J) (fun hT v kk => ?_) ?_
    · refine sh_w (i := (.aload_n 0)) (len := 1) (pc2 := 1) (lv2 := [(0, .ref 14), (1, .int x1), (2, .long x2)]) (st2 := [.ref 14]) (h2 := (sh_rep m.T m.I m.J)) rfl rfl rfl ?_
      refine sh_w (i := (.iload_n 1)) (len := 1) (pc2 := 2) (lv2 := [(0, .ref 14), (1, .int x1), (2, .long x2)]) (st2 := [.int x1, .ref 14]) (h2 := (sh_rep m.T m.I m.J)) rfl rfl rfl ?_
      exact kk
    obtain ⟨r1, e1, e⟩ := sh_bc_e e
    refine sh_Lk_cV (r := (some (.int (sh_b2 r1)))) (st2 := [.int (sh_b2 r1)]) (pc2 := 5) (k2 := 228) (a := 13) (as := [.ref 14, .int x1]) (rest := []) rfl rfl rfl (fun hT => (sh_s13 hT.st)) rfl rfl ⟨Nat.le_of_ble_eq_true rfl, Nat.le_of_ble_eq_true rfl⟩ (sl_228 (by decide) e1 ⟨rfl, rfl⟩) rfl rfl (Nat.le_of_ble_eq_true rfl) (Nat.le_of_ble_eq_true rfl) ?_
    rcases sh_ite e with ⟨c, e⟩ | ⟨c, e⟩
    · refine sh_Lk_lift (T := m.T) (I := m.I) (J := m.J) (s := m.s) (pc2 := 18) (lv2 := [(0, .ref 14), (1, .int x1), (2, .long x2)]) (st2 := [.int x1, .ref 16, .int x1, .ref 17]) (I2 := m.I) (J2 := m.J) (fun hT v kk => ?_) ?_
      · refine sh_j0 (c := .eq) (off := (36)) (pc2 := 8) false rfl (sh_Zeqf c) rfl ?_
        refine sh_w (i := (.aload_n 0)) (len := 1) (pc2 := 9) (lv2 := [(0, .ref 14), (1, .int x1), (2, .long x2)]) (st2 := [.ref 14]) (h2 := (sh_rep m.T m.I m.J)) rfl rfl rfl ?_
        refine sh_gR1 (len := 3) (x := .ref 17) (pc2 := 12) rfl rfl (sh_s13 hT.st) rfl rfl ?_
        refine sh_w (i := (.iload_n 1)) (len := 1) (pc2 := 13) (lv2 := [(0, .ref 14), (1, .int x1), (2, .long x2)]) (st2 := [.int x1, .ref 17]) (h2 := (sh_rep m.T m.I m.J)) rfl rfl rfl ?_
        refine sh_w (i := (.aload_n 0)) (len := 1) (pc2 := 14) (lv2 := [(0, .ref 14), (1, .int x1), (2, .long x2)]) (st2 := [.ref 14, .int x1, .ref 17]) (h2 := (sh_rep m.T m.I m.J)) rfl rfl rfl ?_
        refine sh_gR1 (len := 3) (x := .ref 16) (pc2 := 17) rfl rfl (sh_s13 hT.st) rfl rfl ?_
        refine sh_w (i := (.iload_n 1)) (len := 1) (pc2 := 18) (lv2 := [(0, .ref 14), (1, .int x1), (2, .long x2)]) (st2 := [.int x1, .ref 16, .int x1, .ref 17]) (h2 := (sh_rep m.T m.I m.J)) rfl rfl rfl ?_
        exact kk
      obtain ⟨c, e⟩ := sh_gd e
      refine sh_Lk_lift (T := m.T) (I := m.I) (J := m.J) (s := m.s) (pc2 := 21) (lv2 := [(0, .ref 14), (1, .int x1), (2, .long x2)]) (st2 := [.int 64, .int (m.I 15 (Int32.toNatClampNeg x1)), .int x1, .ref 17]) (I2 := m.I) (J2 := m.J) (fun hT v kk => ?_) ?_
      · refine sh_ia1 (x := m.I 15 (Int32.toNatClampNeg x1)) (pc2 := 19) rfl (sh_s15 hT.st) (sh_okb1 c) (sh_okb2 c) rfl rfl ?_
        refine sh_w (i := (.bipush 64)) (len := 2) (pc2 := 21) (lv2 := [(0, .ref 14), (1, .int x1), (2, .long x2)]) (st2 := [.int 64, .int (m.I 15 (Int32.toNatClampNeg x1)), .int x1, .ref 17]) (h2 := (sh_rep m.T m.I m.J)) rfl rfl rfl ?_
        exact kk
      rcases sh_ite e with ⟨c, e⟩ | ⟨c, e⟩
      · refine sh_Lk_lift (T := m.T) (I := m.I) (J := m.J) (s := m.s) (pc2 := 35) (lv2 := [(0, .ref 14), (1, .int x1), (2, .long x2)]) (st2 := [.int x1, .ref 16, .long 1, .long x2, .int x1, .ref 17]) (I2 := m.I) (J2 := m.J) (fun hT v kk => ?_) ?_
        · refine sh_jc (c := .lt) (off := (7)) (pc2 := 28) true rfl (sh_Bltt c) rfl ?_
          refine sh_w (i := (.lload_n 2)) (len := 1) (pc2 := 29) (lv2 := [(0, .ref 14), (1, .int x1), (2, .long x2)]) (st2 := [.long x2, .int x1, .ref 17]) (h2 := (sh_rep m.T m.I m.J)) rfl rfl rfl ?_
          refine sh_w (i := (.lconst 1)) (len := 1) (pc2 := 30) (lv2 := [(0, .ref 14), (1, .int x1), (2, .long x2)]) (st2 := [.long 1, .long x2, .int x1, .ref 17]) (h2 := (sh_rep m.T m.I m.J)) rfl rfl rfl ?_
          refine sh_w (i := (.aload_n 0)) (len := 1) (pc2 := 31) (lv2 := [(0, .ref 14), (1, .int x1), (2, .long x2)]) (st2 := [.ref 14, .long 1, .long x2, .int x1, .ref 17]) (h2 := (sh_rep m.T m.I m.J)) rfl rfl rfl ?_
          refine sh_gR1 (len := 3) (x := .ref 16) (pc2 := 34) rfl rfl (sh_s13 hT.st) rfl rfl ?_
          refine sh_w (i := (.iload_n 1)) (len := 1) (pc2 := 35) (lv2 := [(0, .ref 14), (1, .int x1), (2, .long x2)]) (st2 := [.int x1, .ref 16, .long 1, .long x2, .int x1, .ref 17]) (h2 := (sh_rep m.T m.I m.J)) rfl rfl rfl ?_
          exact kk
        obtain ⟨c, e⟩ := sh_gd e
        refine sh_Lk_lift (T := m.T) (I := m.I) (J := m.J) (s := m.s) (pc2 := 40) (lv2 := [(0, .ref 14), (1, .int x1), (2, .long x2)]) (st2 := [.long (x2 &&& (((1 : Int64) <<< (Int32.toInt64 (m.I 15 (Int32.toNatClampNeg x1)) &&& 63)) - (1 : Int64))), .int x1, .ref 17]) (I2 := m.I) (J2 := m.J) (fun hT v kk => ?_) ?_
        · refine sh_ia1 (x := m.I 15 (Int32.toNatClampNeg x1)) (pc2 := 36) rfl (sh_s15 hT.st) (sh_okb1 c) (sh_okb2 c) rfl rfl ?_
          refine sh_w (i := .lshl) (len := 1) (pc2 := 37) (lv2 := [(0, .ref 14), (1, .int x1), (2, .long x2)]) (st2 := [.long ((1 : Int64) <<< (Int32.toInt64 (m.I 15 (Int32.toNatClampNeg x1)) &&& 63)), .long x2, .int x1, .ref 17]) (h2 := (sh_rep m.T m.I m.J)) rfl rfl rfl ?_
          refine sh_w (i := (.lconst 1)) (len := 1) (pc2 := 38) (lv2 := [(0, .ref 14), (1, .int x1), (2, .long x2)]) (st2 := [.long 1, .long ((1 : Int64) <<< (Int32.toInt64 (m.I 15 (Int32.toNatClampNeg x1)) &&& 63)), .long x2, .int x1, .ref 17]) (h2 := (sh_rep m.T m.I m.J)) rfl rfl rfl ?_
          refine sh_w (i := .lsub) (len := 1) (pc2 := 39) (lv2 := [(0, .ref 14), (1, .int x1), (2, .long x2)]) (st2 := [.long (((1 : Int64) <<< (Int32.toInt64 (m.I 15 (Int32.toNatClampNeg x1)) &&& 63)) - (1 : Int64)), .long x2, .int x1, .ref 17]) (h2 := (sh_rep m.T m.I m.J)) rfl rfl rfl ?_
          refine sh_w (i := .land) (len := 1) (pc2 := 40) (lv2 := [(0, .ref 14), (1, .int x1), (2, .long x2)]) (st2 := [.long (x2 &&& (((1 : Int64) <<< (Int32.toInt64 (m.I 15 (Int32.toNatClampNeg x1)) &&& 63)) - (1 : Int64))), .int x1, .ref 17]) (h2 := (sh_rep m.T m.I m.J)) rfl rfl rfl ?_
          exact kk
        exact sh_Lk_sub (sh_sub_c rfl (sh_sub_n)) (sl_235_40 (by decide) e tg)
      · refine sh_Lk_lift (T := m.T) (I := m.I) (J := m.J) (s := m.s) (pc2 := 40) (lv2 := [(0, .ref 14), (1, .int x1), (2, .long x2)]) (st2 := [.long x2, .int x1, .ref 17]) (I2 := m.I) (J2 := m.J) (fun hT v kk => ?_) ?_
        · refine sh_jc (c := .lt) (off := (7)) (pc2 := 24) false rfl (sh_Bltf c) rfl ?_
          refine sh_w (i := (.lload_n 2)) (len := 1) (pc2 := 25) (lv2 := [(0, .ref 14), (1, .int x1), (2, .long x2)]) (st2 := [.long x2, .int x1, .ref 17]) (h2 := (sh_rep m.T m.I m.J)) rfl rfl rfl ?_
          refine sh_w (i := (.goto 15)) (len := 3) (pc2 := 40) (lv2 := [(0, .ref 14), (1, .int x1), (2, .long x2)]) (st2 := [.long x2, .int x1, .ref 17]) (h2 := (sh_rep m.T m.I m.J)) rfl rfl rfl ?_
          exact kk
        exact sh_Lk_sub (sh_sub_c rfl (sh_sub_n)) (sl_235_40 (by decide) e tg)
    · refine sh_Lk_lift (T := m.T) (I := m.I) (J := m.J) (s := m.s) (pc2 := 41) (lv2 := [(0, .ref 14), (1, .int x1), (2, .long x2)]) (st2 := []) (I2 := m.I) (J2 := m.J) (fun hT v kk => ?_) ?_
      · refine sh_j0 (c := .eq) (off := (36)) (pc2 := 41) true rfl (sh_Zeqt c) rfl ?_
        exact kk
      obtain rfl := Option.some.inj e
      obtain ⟨rfl, rfl⟩ := tg
      exact sh_Lk_ret (i := .return_) rfl rfl rfl (Nat.le_of_ble_eq_true rfl) (Nat.le_of_ble_eq_true rfl)
  · refine sh_Lk_lift (T := m.T) (I := m.I) (J := m.J) (s := m.s) (pc2 := 2) (lv2 := [(0, .ref 19), (1, .int x1), (2, .long x2)]) (st2 := [.int x1, .ref 19]) (I2 := m.I) (J2 := m.J) (fun hT v kk => ?_) ?_
    · refine sh_w (i := (.aload_n 0)) (len := 1) (pc2 := 1) (lv2 := [(0, .ref 19), (1, .int x1), (2, .long x2)]) (st2 := [.ref 19]) (h2 := (sh_rep m.T m.I m.J)) rfl rfl rfl ?_
      refine sh_w (i := (.iload_n 1)) (len := 1) (pc2 := 2) (lv2 := [(0, .ref 19), (1, .int x1), (2, .long x2)]) (st2 := [.int x1, .ref 19]) (h2 := (sh_rep m.T m.I m.J)) rfl rfl rfl ?_
      exact kk
    obtain ⟨r1, e1, e⟩ := sh_bc_e e
    refine sh_Lk_cV (r := (some (.int (sh_b2 r1)))) (st2 := [.int (sh_b2 r1)]) (pc2 := 5) (k2 := 228) (a := 18) (as := [.ref 19, .int x1]) (rest := []) rfl rfl rfl (fun hT => (sh_s18 hT.st)) rfl rfl ⟨Nat.le_of_ble_eq_true rfl, Nat.le_of_ble_eq_true rfl⟩ (sl_228 (by decide) e1 ⟨rfl, rfl⟩) rfl rfl (Nat.le_of_ble_eq_true rfl) (Nat.le_of_ble_eq_true rfl) ?_
    rcases sh_ite e with ⟨c, e⟩ | ⟨c, e⟩
    · refine sh_Lk_lift (T := m.T) (I := m.I) (J := m.J) (s := m.s) (pc2 := 18) (lv2 := [(0, .ref 19), (1, .int x1), (2, .long x2)]) (st2 := [.int x1, .ref 21, .int x1, .ref 22]) (I2 := m.I) (J2 := m.J) (fun hT v kk => ?_) ?_
      · refine sh_j0 (c := .eq) (off := (36)) (pc2 := 8) false rfl (sh_Zeqf c) rfl ?_
        refine sh_w (i := (.aload_n 0)) (len := 1) (pc2 := 9) (lv2 := [(0, .ref 19), (1, .int x1), (2, .long x2)]) (st2 := [.ref 19]) (h2 := (sh_rep m.T m.I m.J)) rfl rfl rfl ?_
        refine sh_gR1 (len := 3) (x := .ref 22) (pc2 := 12) rfl rfl (sh_s18 hT.st) rfl rfl ?_
        refine sh_w (i := (.iload_n 1)) (len := 1) (pc2 := 13) (lv2 := [(0, .ref 19), (1, .int x1), (2, .long x2)]) (st2 := [.int x1, .ref 22]) (h2 := (sh_rep m.T m.I m.J)) rfl rfl rfl ?_
        refine sh_w (i := (.aload_n 0)) (len := 1) (pc2 := 14) (lv2 := [(0, .ref 19), (1, .int x1), (2, .long x2)]) (st2 := [.ref 19, .int x1, .ref 22]) (h2 := (sh_rep m.T m.I m.J)) rfl rfl rfl ?_
        refine sh_gR1 (len := 3) (x := .ref 21) (pc2 := 17) rfl rfl (sh_s18 hT.st) rfl rfl ?_
        refine sh_w (i := (.iload_n 1)) (len := 1) (pc2 := 18) (lv2 := [(0, .ref 19), (1, .int x1), (2, .long x2)]) (st2 := [.int x1, .ref 21, .int x1, .ref 22]) (h2 := (sh_rep m.T m.I m.J)) rfl rfl rfl ?_
        exact kk
      obtain ⟨c, e⟩ := sh_gd e
      refine sh_Lk_lift (T := m.T) (I := m.I) (J := m.J) (s := m.s) (pc2 := 21) (lv2 := [(0, .ref 19), (1, .int x1), (2, .long x2)]) (st2 := [.int 64, .int (m.I 20 (Int32.toNatClampNeg x1)), .int x1, .ref 22]) (I2 := m.I) (J2 := m.J) (fun hT v kk => ?_) ?_
      · refine sh_ia1 (x := m.I 20 (Int32.toNatClampNeg x1)) (pc2 := 19) rfl (sh_s20 hT.st) (sh_okb1 c) (sh_okb2 c) rfl rfl ?_
        refine sh_w (i := (.bipush 64)) (len := 2) (pc2 := 21) (lv2 := [(0, .ref 19), (1, .int x1), (2, .long x2)]) (st2 := [.int 64, .int (m.I 20 (Int32.toNatClampNeg x1)), .int x1, .ref 22]) (h2 := (sh_rep m.T m.I m.J)) rfl rfl rfl ?_
        exact kk
      rcases sh_ite e with ⟨c, e⟩ | ⟨c, e⟩
      · refine sh_Lk_lift (T := m.T) (I := m.I) (J := m.J) (s := m.s) (pc2 := 35) (lv2 := [(0, .ref 19), (1, .int x1), (2, .long x2)]) (st2 := [.int x1, .ref 21, .long 1, .long x2, .int x1, .ref 22]) (I2 := m.I) (J2 := m.J) (fun hT v kk => ?_) ?_
        · refine sh_jc (c := .lt) (off := (7)) (pc2 := 28) true rfl (sh_Bltt c) rfl ?_
          refine sh_w (i := (.lload_n 2)) (len := 1) (pc2 := 29) (lv2 := [(0, .ref 19), (1, .int x1), (2, .long x2)]) (st2 := [.long x2, .int x1, .ref 22]) (h2 := (sh_rep m.T m.I m.J)) rfl rfl rfl ?_
          refine sh_w (i := (.lconst 1)) (len := 1) (pc2 := 30) (lv2 := [(0, .ref 19), (1, .int x1), (2, .long x2)]) (st2 := [.long 1, .long x2, .int x1, .ref 22]) (h2 := (sh_rep m.T m.I m.J)) rfl rfl rfl ?_
          refine sh_w (i := (.aload_n 0)) (len := 1) (pc2 := 31) (lv2 := [(0, .ref 19), (1, .int x1), (2, .long x2)]) (st2 := [.ref 19, .long 1, .long x2, .int x1, .ref 22]) (h2 := (sh_rep m.T m.I m.J)) rfl rfl rfl ?_
          refine sh_gR1 (len := 3) (x := .ref 21) (pc2 := 34) rfl rfl (sh_s18 hT.st) rfl rfl ?_
          refine sh_w (i := (.iload_n 1)) (len := 1) (pc2 := 35) (lv2 := [(0, .ref 19), (1, .int x1), (2, .long x2)]) (st2 := [.int x1, .ref 21, .long 1, .long x2, .int x1, .ref 22]) (h2 := (sh_rep m.T m.I m.J)) rfl rfl rfl ?_
          exact kk
        obtain ⟨c, e⟩ := sh_gd e
        refine sh_Lk_lift (T := m.T) (I := m.I) (J := m.J) (s := m.s) (pc2 := 40) (lv2 := [(0, .ref 19), (1, .int x1), (2, .long x2)]) (st2 := [.long (x2 &&& (((1 : Int64) <<< (Int32.toInt64 (m.I 20 (Int32.toNatClampNeg x1)) &&& 63)) - (1 : Int64))), .int x1, .ref 22]) (I2 := m.I) (J2 := m.J) (fun hT v kk => ?_) ?_
        · refine sh_ia1 (x := m.I 20 (Int32.toNatClampNeg x1)) (pc2 := 36) rfl (sh_s20 hT.st) (sh_okb1 c) (sh_okb2 c) rfl rfl ?_
          refine sh_w (i := .lshl) (len := 1) (pc2 := 37) (lv2 := [(0, .ref 19), (1, .int x1), (2, .long x2)]) (st2 := [.long ((1 : Int64) <<< (Int32.toInt64 (m.I 20 (Int32.toNatClampNeg x1)) &&& 63)), .long x2, .int x1, .ref 22]) (h2 := (sh_rep m.T m.I m.J)) rfl rfl rfl ?_
          refine sh_w (i := (.lconst 1)) (len := 1) (pc2 := 38) (lv2 := [(0, .ref 19), (1, .int x1), (2, .long x2)]) (st2 := [.long 1, .long ((1 : Int64) <<< (Int32.toInt64 (m.I 20 (Int32.toNatClampNeg x1)) &&& 63)), .long x2, .int x1, .ref 22]) (h2 := (sh_rep m.T m.I m.J)) rfl rfl rfl ?_
          refine sh_w (i := .lsub) (len := 1) (pc2 := 39) (lv2 := [(0, .ref 19), (1, .int x1), (2, .long x2)]) (st2 := [.long (((1 : Int64) <<< (Int32.toInt64 (m.I 20 (Int32.toNatClampNeg x1)) &&& 63)) - (1 : Int64)), .long x2, .int x1, .ref 22]) (h2 := (sh_rep m.T m.I m.J)) rfl rfl rfl ?_
          refine sh_w (i := .land) (len := 1) (pc2 := 40) (lv2 := [(0, .ref 19), (1, .int x1), (2, .long x2)]) (st2 := [.long (x2 &&& (((1 : Int64) <<< (Int32.toInt64 (m.I 20 (Int32.toNatClampNeg x1)) &&& 63)) - (1 : Int64))), .int x1, .ref 22]) (h2 := (sh_rep m.T m.I m.J)) rfl rfl rfl ?_
          exact kk
        exact sh_Lk_sub (sh_sub_c rfl (sh_sub_n)) (sl_235_40 (by decide) e tg)
      · refine sh_Lk_lift (T := m.T) (I := m.I) (J := m.J) (s := m.s) (pc2 := 40) (lv2 := [(0, .ref 19), (1, .int x1), (2, .long x2)]) (st2 := [.long x2, .int x1, .ref 22]) (I2 := m.I) (J2 := m.J) (fun hT v kk => ?_) ?_
        · refine sh_jc (c := .lt) (off := (7)) (pc2 := 24) false rfl (sh_Bltf c) rfl ?_
          refine sh_w (i := (.lload_n 2)) (len := 1) (pc2 := 25) (lv2 := [(0, .ref 19), (1, .int x1), (2, .long x2)]) (st2 := [.long x2, .int x1, .ref 22]) (h2 := (sh_rep m.T m.I m.J)) rfl rfl rfl ?_
          refine sh_w (i := (.goto 15)) (len := 3) (pc2 := 40) (lv2 := [(0, .ref 19), (1, .int x1), (2, .long x2)]) (st2 := [.long x2, .int x1, .ref 22]) (h2 := (sh_rep m.T m.I m.J)) rfl rfl rfl ?_
          exact kk
        exact sh_Lk_sub (sh_sub_c rfl (sh_sub_n)) (sl_235_40 (by decide) e tg)
    · refine sh_Lk_lift (T := m.T) (I := m.I) (J := m.J) (s := m.s) (pc2 := 41) (lv2 := [(0, .ref 19), (1, .int x1), (2, .long x2)]) (st2 := []) (I2 := m.I) (J2 := m.J) (fun hT v kk => ?_) ?_
      · refine sh_j0 (c := .eq) (off := (36)) (pc2 := 41) true rfl (sh_Zeqt c) rfl ?_
        exact kk
      obtain rfl := Option.some.inj e
      obtain ⟨rfl, rfl⟩ := tg
      exact sh_Lk_ret (i := .return_) rfl rfl rfl (Nat.le_of_ble_eq_true rfl) (Nat.le_of_ble_eq_true rfl)
  · refine sh_Lk_lift (T := m.T) (I := m.I) (J := m.J) (s := m.s) (pc2 := 2) (lv2 := [(0, .ref 24), (1, .int x1), (2, .long x2)]) (st2 := [.int x1, .ref 24]) (I2 := m.I) (J2 := m.J) (fun hT v kk => ?_) ?_
    · refine sh_w (i := (.aload_n 0)) (len := 1) (pc2 := 1) (lv2 := [(0, .ref 24), (1, .int x1), (2, .long x2)]) (st2 := [.ref 24]) (h2 := (sh_rep m.T m.I m.J)) rfl rfl rfl ?_
      refine sh_w (i := (.iload_n 1)) (len := 1) (pc2 := 2) (lv2 := [(0, .ref 24), (1, .int x1), (2, .long x2)]) (st2 := [.int x1, .ref 24]) (h2 := (sh_rep m.T m.I m.J)) rfl rfl rfl ?_
      exact kk
    obtain ⟨r1, e1, e⟩ := sh_bc_e e
    refine sh_Lk_cV (r := (some (.int (sh_b2 r1)))) (st2 := [.int (sh_b2 r1)]) (pc2 := 5) (k2 := 228) (a := 23) (as := [.ref 24, .int x1]) (rest := []) rfl rfl rfl (fun hT => (sh_s23 hT.st)) rfl rfl ⟨Nat.le_of_ble_eq_true rfl, Nat.le_of_ble_eq_true rfl⟩ (sl_228 (by decide) e1 ⟨rfl, rfl⟩) rfl rfl (Nat.le_of_ble_eq_true rfl) (Nat.le_of_ble_eq_true rfl) ?_
    rcases sh_ite e with ⟨c, e⟩ | ⟨c, e⟩
    · refine sh_Lk_lift (T := m.T) (I := m.I) (J := m.J) (s := m.s) (pc2 := 18) (lv2 := [(0, .ref 24), (1, .int x1), (2, .long x2)]) (st2 := [.int x1, .ref 26, .int x1, .ref 27]) (I2 := m.I) (J2 := m.J) (fun hT v kk => ?_) ?_
      · refine sh_j0 (c := .eq) (off := (36)) (pc2 := 8) false rfl (sh_Zeqf c) rfl ?_
        refine sh_w (i := (.aload_n 0)) (len := 1) (pc2 := 9) (lv2 := [(0, .ref 24), (1, .int x1), (2, .long x2)]) (st2 := [.ref 24]) (h2 := (sh_rep m.T m.I m.J)) rfl rfl rfl ?_
        refine sh_gR1 (len := 3) (x := .ref 27) (pc2 := 12) rfl rfl (sh_s23 hT.st) rfl rfl ?_
        refine sh_w (i := (.iload_n 1)) (len := 1) (pc2 := 13) (lv2 := [(0, .ref 24), (1, .int x1), (2, .long x2)]) (st2 := [.int x1, .ref 27]) (h2 := (sh_rep m.T m.I m.J)) rfl rfl rfl ?_
        refine sh_w (i := (.aload_n 0)) (len := 1) (pc2 := 14) (lv2 := [(0, .ref 24), (1, .int x1), (2, .long x2)]) (st2 := [.ref 24, .int x1, .ref 27]) (h2 := (sh_rep m.T m.I m.J)) rfl rfl rfl ?_
        refine sh_gR1 (len := 3) (x := .ref 26) (pc2 := 17) rfl rfl (sh_s23 hT.st) rfl rfl ?_
        refine sh_w (i := (.iload_n 1)) (len := 1) (pc2 := 18) (lv2 := [(0, .ref 24), (1, .int x1), (2, .long x2)]) (st2 := [.int x1, .ref 26, .int x1, .ref 27]) (h2 := (sh_rep m.T m.I m.J)) rfl rfl rfl ?_
        exact kk
      obtain ⟨c, e⟩ := sh_gd e
      refine sh_Lk_lift (T := m.T) (I := m.I) (J := m.J) (s := m.s) (pc2 := 21) (lv2 := [(0, .ref 24), (1, .int x1), (2, .long x2)]) (st2 := [.int 64, .int (m.I 25 (Int32.toNatClampNeg x1)), .int x1, .ref 27]) (I2 := m.I) (J2 := m.J) (fun hT v kk => ?_) ?_
      · refine sh_ia1 (x := m.I 25 (Int32.toNatClampNeg x1)) (pc2 := 19) rfl (sh_s25 hT.st) (sh_okb1 c) (sh_okb2 c) rfl rfl ?_
        refine sh_w (i := (.bipush 64)) (len := 2) (pc2 := 21) (lv2 := [(0, .ref 24), (1, .int x1), (2, .long x2)]) (st2 := [.int 64, .int (m.I 25 (Int32.toNatClampNeg x1)), .int x1, .ref 27]) (h2 := (sh_rep m.T m.I m.J)) rfl rfl rfl ?_
        exact kk
      rcases sh_ite e with ⟨c, e⟩ | ⟨c, e⟩
      · refine sh_Lk_lift (T := m.T) (I := m.I) (J := m.J) (s := m.s) (pc2 := 35) (lv2 := [(0, .ref 24), (1, .int x1), (2, .long x2)]) (st2 := [.int x1, .ref 26, .long 1, .long x2, .int x1, .ref 27]) (I2 := m.I) (J2 := m.J) (fun hT v kk => ?_) ?_
        · refine sh_jc (c := .lt) (off := (7)) (pc2 := 28) true rfl (sh_Bltt c) rfl ?_
          refine sh_w (i := (.lload_n 2)) (len := 1) (pc2 := 29) (lv2 := [(0, .ref 24), (1, .int x1), (2, .long x2)]) (st2 := [.long x2, .int x1, .ref 27]) (h2 := (sh_rep m.T m.I m.J)) rfl rfl rfl ?_
          refine sh_w (i := (.lconst 1)) (len := 1) (pc2 := 30) (lv2 := [(0, .ref 24), (1, .int x1), (2, .long x2)]) (st2 := [.long 1, .long x2, .int x1, .ref 27]) (h2 := (sh_rep m.T m.I m.J)) rfl rfl rfl ?_
          refine sh_w (i := (.aload_n 0)) (len := 1) (pc2 := 31) (lv2 := [(0, .ref 24), (1, .int x1), (2, .long x2)]) (st2 := [.ref 24, .long 1, .long x2, .int x1, .ref 27]) (h2 := (sh_rep m.T m.I m.J)) rfl rfl rfl ?_
          refine sh_gR1 (len := 3) (x := .ref 26) (pc2 := 34) rfl rfl (sh_s23 hT.st) rfl rfl ?_
          refine sh_w (i := (.iload_n 1)) (len := 1) (pc2 := 35) (lv2 := [(0, .ref 24), (1, .int x1), (2, .long x2)]) (st2 := [.int x1, .ref 26, .long 1, .long x2, .int x1, .ref 27]) (h2 := (sh_rep m.T m.I m.J)) rfl rfl rfl ?_
          exact kk
        obtain ⟨c, e⟩ := sh_gd e
        refine sh_Lk_lift (T := m.T) (I := m.I) (J := m.J) (s := m.s) (pc2 := 40) (lv2 := [(0, .ref 24), (1, .int x1), (2, .long x2)]) (st2 := [.long (x2 &&& (((1 : Int64) <<< (Int32.toInt64 (m.I 25 (Int32.toNatClampNeg x1)) &&& 63)) - (1 : Int64))), .int x1, .ref 27]) (I2 := m.I) (J2 := m.J) (fun hT v kk => ?_) ?_
        · refine sh_ia1 (x := m.I 25 (Int32.toNatClampNeg x1)) (pc2 := 36) rfl (sh_s25 hT.st) (sh_okb1 c) (sh_okb2 c) rfl rfl ?_
          refine sh_w (i := .lshl) (len := 1) (pc2 := 37) (lv2 := [(0, .ref 24), (1, .int x1), (2, .long x2)]) (st2 := [.long ((1 : Int64) <<< (Int32.toInt64 (m.I 25 (Int32.toNatClampNeg x1)) &&& 63)), .long x2, .int x1, .ref 27]) (h2 := (sh_rep m.T m.I m.J)) rfl rfl rfl ?_
          refine sh_w (i := (.lconst 1)) (len := 1) (pc2 := 38) (lv2 := [(0, .ref 24), (1, .int x1), (2, .long x2)]) (st2 := [.long 1, .long ((1 : Int64) <<< (Int32.toInt64 (m.I 25 (Int32.toNatClampNeg x1)) &&& 63)), .long x2, .int x1, .ref 27]) (h2 := (sh_rep m.T m.I m.J)) rfl rfl rfl ?_
          refine sh_w (i := .lsub) (len := 1) (pc2 := 39) (lv2 := [(0, .ref 24), (1, .int x1), (2, .long x2)]) (st2 := [.long (((1 : Int64) <<< (Int32.toInt64 (m.I 25 (Int32.toNatClampNeg x1)) &&& 63)) - (1 : Int64)), .long x2, .int x1, .ref 27]) (h2 := (sh_rep m.T m.I m.J)) rfl rfl rfl ?_
          refine sh_w (i := .land) (len := 1) (pc2 := 40) (lv2 := [(0, .ref 24), (1, .int x1), (2, .long x2)]) (st2 := [.long (x2 &&& (((1 : Int64) <<< (Int32.toInt64 (m.I 25 (Int32.toNatClampNeg x1)) &&& 63)) - (1 : Int64))), .int x1, .ref 27]) (h2 := (sh_rep m.T m.I m.J)) rfl rfl rfl ?_
          exact kk
        exact sh_Lk_sub (sh_sub_c rfl (sh_sub_n)) (sl_235_40 (by decide) e tg)
      · refine sh_Lk_lift (T := m.T) (I := m.I) (J := m.J) (s := m.s) (pc2 := 40) (lv2 := [(0, .ref 24), (1, .int x1), (2, .long x2)]) (st2 := [.long x2, .int x1, .ref 27]) (I2 := m.I) (J2 := m.J) (fun hT v kk => ?_) ?_
        · refine sh_jc (c := .lt) (off := (7)) (pc2 := 24) false rfl (sh_Bltf c) rfl ?_
          refine sh_w (i := (.lload_n 2)) (len := 1) (pc2 := 25) (lv2 := [(0, .ref 24), (1, .int x1), (2, .long x2)]) (st2 := [.long x2, .int x1, .ref 27]) (h2 := (sh_rep m.T m.I m.J)) rfl rfl rfl ?_
          refine sh_w (i := (.goto 15)) (len := 3) (pc2 := 40) (lv2 := [(0, .ref 24), (1, .int x1), (2, .long x2)]) (st2 := [.long x2, .int x1, .ref 27]) (h2 := (sh_rep m.T m.I m.J)) rfl rfl rfl ?_
          exact kk
        exact sh_Lk_sub (sh_sub_c rfl (sh_sub_n)) (sl_235_40 (by decide) e tg)
    · refine sh_Lk_lift (T := m.T) (I := m.I) (J := m.J) (s := m.s) (pc2 := 41) (lv2 := [(0, .ref 24), (1, .int x1), (2, .long x2)]) (st2 := []) (I2 := m.I) (J2 := m.J) (fun hT v kk => ?_) ?_
      · refine sh_j0 (c := .eq) (off := (36)) (pc2 := 41) true rfl (sh_Zeqt c) rfl ?_
        exact kk
      obtain rfl := Option.some.inj e
      obtain ⟨rfl, rfl⟩ := tg
      exact sh_Lk_ret (i := .return_) rfl rfl rfl (Nat.le_of_ble_eq_true rfl) (Nat.le_of_ble_eq_true rfl)
theorem sl_234_67 {x2 : Int32} {x3 : Int64} {x5 : Int32} {m m2 : sh_X} {o : Outcome} {z : ((Int64 × Int32 × sh_X) ⊕ ((Int32 × sh_X) ⊕ (Unit × sh_X)))} (e : sf_234_67 x2 x3 x5 m = some z) (tg : (sh_el (fun q => sh_Lk 234 15 [(0, .ref 62), (1, .ref 24), (2, .int x2), (3, .long q.1), (5, .int q.2.1)] [] q.2.2 o m2 10 244) (sh_el (fun q => sh_Lk 234 2 [(0, .ref 62), (1, .ref 24), (2, .int q.1)] [] q.2 o m2 10 244) (sh_tV o m2))) z) : sh_Lk 234 67 [(0, .ref 62), (1, .ref 24), (2, .int x2), (3, .long x3), (5, .int x5)] [] m o m2 10 244 := by
  unfold sf_234_67 at e
  refine sh_Lk_lift (T := m.T) (I := m.I) (J := m.J) (s := m.s) (pc2 := 15) (lv2 := [(5, .int (x5 + 1)), (0, .ref 62), (1, .ref 24), (2, .int x2), (3, .long x3)]) (st2 := []) (I2 := m.I) (J2 := m.J) (fun hT v kk => ?_) ?_
  · refine sh_w (i := (.iinc 5 1)) (len := 3) (pc2 := 70) (lv2 := [(5, .int (x5 + 1)), (0, .ref 62), (1, .ref 24), (2, .int x2), (3, .long x3)]) (st2 := []) (h2 := (sh_rep m.T m.I m.J)) rfl rfl rfl ?_
    refine sh_w (i := (.goto (-55))) (len := 3) (pc2 := 15) (lv2 := [(5, .int (x5 + 1)), (0, .ref 62), (1, .ref 24), (2, .int x2), (3, .long x3)]) (st2 := []) (h2 := (sh_rep m.T m.I m.J)) rfl rfl rfl ?_
    exact kk
  obtain rfl := Option.some.inj e
  exact sh_Lk_sub (sh_sub_c rfl (sh_sub_c rfl (sh_sub_c rfl (sh_sub_c rfl (sh_sub_c rfl (sh_sub_n)))))) tg
theorem sl_234_15s {x2 : Int32} {x3 : Int64} {x5 : Int32} {m m2 : sh_X} {o : Outcome} {z : ((Int64 × Int32 × sh_X) ⊕ ((Int32 × sh_X) ⊕ (Unit × sh_X)))} (e : sf_234_15s x2 x3 x5 m = some z) (tg : (sh_el (fun q => sh_Lk 234 15 [(0, .ref 62), (1, .ref 24), (2, .int x2), (3, .long q.1), (5, .int q.2.1)] [] q.2.2 o m2 10 244) (sh_el (fun q => sh_Lk 234 2 [(0, .ref 62), (1, .ref 24), (2, .int q.1)] [] q.2 o m2 10 244) (sh_tV o m2))) z) : sh_Lk 234 15 [(0, .ref 62), (1, .ref 24), (2, .int x2), (3, .long x3), (5, .int x5)] [] m o m2 10 244 := by
  unfold sf_234_15s at e
  refine sh_Lk_lift (T := m.T) (I := m.I) (J := m.J) (s := m.s) (pc2 := 22) (lv2 := [(0, .ref 62), (1, .ref 24), (2, .int x2), (3, .long x3), (5, .int x5)]) (st2 := [.int x2, .ref 26, .int x5]) (I2 := m.I) (J2 := m.J) (fun hT v kk => ?_) ?_
  · refine sh_w (i := (.iload 5)) (len := 2) (pc2 := 17) (lv2 := [(0, .ref 62), (1, .ref 24), (2, .int x2), (3, .long x3), (5, .int x5)]) (st2 := [.int x5]) (h2 := (sh_rep m.T m.I m.J)) rfl rfl rfl ?_
    refine sh_w (i := (.aload_n 1)) (len := 1) (pc2 := 18) (lv2 := [(0, .ref 62), (1, .ref 24), (2, .int x2), (3, .long x3), (5, .int x5)]) (st2 := [.ref 24, .int x5]) (h2 := (sh_rep m.T m.I m.J)) rfl rfl rfl ?_
    refine sh_gR1 (len := 3) (x := .ref 26) (pc2 := 21) rfl rfl (sh_s23 hT.st) rfl rfl ?_
    refine sh_w (i := (.iload_n 2)) (len := 1) (pc2 := 22) (lv2 := [(0, .ref 62), (1, .ref 24), (2, .int x2), (3, .long x3), (5, .int x5)]) (st2 := [.int x2, .ref 26, .int x5]) (h2 := (sh_rep m.T m.I m.J)) rfl rfl rfl ?_
    exact kk
  obtain ⟨c, e⟩ := sh_gd e
  refine sh_Lk_lift (T := m.T) (I := m.I) (J := m.J) (s := m.s) (pc2 := 23) (lv2 := [(0, .ref 62), (1, .ref 24), (2, .int x2), (3, .long x3), (5, .int x5)]) (st2 := [.int (m.I 25 (Int32.toNatClampNeg x2)), .int x5]) (I2 := m.I) (J2 := m.J) (fun hT v kk => ?_) ?_
  · refine sh_ia1 (x := m.I 25 (Int32.toNatClampNeg x2)) (pc2 := 23) rfl (sh_s25 hT.st) (sh_okb1 c) (sh_okb2 c) rfl rfl ?_
    exact kk
  rcases sh_ite e with ⟨c, e⟩ | ⟨c, e⟩
  · refine sh_Lk_lift (T := m.T) (I := m.I) (J := m.J) (s := m.s) (pc2 := 30) (lv2 := [(0, .ref 62), (1, .ref 24), (2, .int x2), (3, .long x3), (5, .int x5)]) (st2 := [.int x5, .int x2, .ref 24]) (I2 := m.I) (J2 := m.J) (fun hT v kk => ?_) ?_
    · refine sh_jc (c := .ge) (off := (50)) (pc2 := 26) false rfl (sh_Bgef c) rfl ?_
      refine sh_w (i := (.aload_n 1)) (len := 1) (pc2 := 27) (lv2 := [(0, .ref 62), (1, .ref 24), (2, .int x2), (3, .long x3), (5, .int x5)]) (st2 := [.ref 24]) (h2 := (sh_rep m.T m.I m.J)) rfl rfl rfl ?_
      refine sh_w (i := (.iload_n 2)) (len := 1) (pc2 := 28) (lv2 := [(0, .ref 62), (1, .ref 24), (2, .int x2), (3, .long x3), (5, .int x5)]) (st2 := [.int x2, .ref 24]) (h2 := (sh_rep m.T m.I m.J)) rfl rfl rfl ?_
      refine sh_w (i := (.iload 5)) (len := 2) (pc2 := 30) (lv2 := [(0, .ref 62), (1, .ref 24), (2, .int x2), (3, .long x3), (5, .int x5)]) (st2 := [.int x5, .int x2, .ref 24]) (h2 := (sh_rep m.T m.I m.J)) rfl rfl rfl ?_
      exact kk
    obtain ⟨r1, e1, e⟩ := sh_bc_e e
    refine sh_Lk_cV (r := (some (.int r1))) (st2 := [.int r1]) (pc2 := 33) (k2 := 227) (a := 23) (as := [.ref 24, .int x2, .int x5]) (rest := []) rfl rfl rfl (fun hT => (sh_s23 hT.st)) rfl rfl ⟨Nat.le_of_ble_eq_true rfl, Nat.le_of_ble_eq_true rfl⟩ (sl_227 (by decide) e1 ⟨rfl, rfl⟩) rfl rfl (Nat.le_of_ble_eq_true rfl) (Nat.le_of_ble_eq_true rfl) ?_
    refine sh_Lk_lift (T := m.T) (I := m.I) (J := m.J) (s := m.s) (pc2 := 38) (lv2 := [(6, .int r1), (0, .ref 62), (1, .ref 24), (2, .int x2), (3, .long x3), (5, .int x5)]) (st2 := [.int r1, .ref 62]) (I2 := m.I) (J2 := m.J) (fun hT v kk => ?_) ?_
    · refine sh_w (i := (.istore 6)) (len := 2) (pc2 := 35) (lv2 := [(6, .int r1), (0, .ref 62), (1, .ref 24), (2, .int x2), (3, .long x3), (5, .int x5)]) (st2 := []) (h2 := (sh_rep m.T m.I m.J)) rfl rfl rfl ?_
      refine sh_w (i := (.aload_n 0)) (len := 1) (pc2 := 36) (lv2 := [(6, .int r1), (0, .ref 62), (1, .ref 24), (2, .int x2), (3, .long x3), (5, .int x5)]) (st2 := [.ref 62]) (h2 := (sh_rep m.T m.I m.J)) rfl rfl rfl ?_
      refine sh_w (i := (.iload 6)) (len := 2) (pc2 := 38) (lv2 := [(6, .int r1), (0, .ref 62), (1, .ref 24), (2, .int x2), (3, .long x3), (5, .int x5)]) (st2 := [.int r1, .ref 62]) (h2 := (sh_rep m.T m.I m.J)) rfl rfl rfl ?_
      exact kk
    obtain ⟨r2, e2, e⟩ := sh_bc_e e
    refine sh_Lk_cV (r := (some (.int (sh_b2 r2)))) (st2 := [.int (sh_b2 r2)]) (pc2 := 41) (k2 := 225) (a := 61) (as := [.ref 62, .int r1]) (rest := []) rfl rfl rfl (fun hT => hT.t61) rfl rfl ⟨Nat.le_of_ble_eq_true rfl, Nat.le_of_ble_eq_true rfl⟩ (sl_225 e2 ⟨rfl, rfl⟩) rfl rfl (Nat.le_of_ble_eq_true rfl) (Nat.le_of_ble_eq_true rfl) ?_
    rcases sh_ite e with ⟨c, e⟩ | ⟨c, e⟩
    · refine sh_Lk_lift (T := m.T) (I := m.I) (J := m.J) (s := m.s) (pc2 := 51) (lv2 := [(6, .int r1), (0, .ref 62), (1, .ref 24), (2, .int x2), (3, .long x3), (5, .int x5)]) (st2 := [.int r1, .ref ((sh_rf m.T 61 3) + 1), .long x3]) (I2 := m.I) (J2 := m.J) (fun hT v kk => ?_) ?_
      · refine sh_j0 (c := .eq) (off := (26)) (pc2 := 44) false rfl (sh_Zeqf c) rfl ?_
        refine sh_w (i := (.lload_n 3)) (len := 1) (pc2 := 45) (lv2 := [(6, .int r1), (0, .ref 62), (1, .ref 24), (2, .int x2), (3, .long x3), (5, .int x5)]) (st2 := [.long x3]) (h2 := (sh_rep m.T m.I m.J)) rfl rfl rfl ?_
        refine sh_w (i := (.aload_n 0)) (len := 1) (pc2 := 46) (lv2 := [(6, .int r1), (0, .ref 62), (1, .ref 24), (2, .int x2), (3, .long x3), (5, .int x5)]) (st2 := [.ref 62, .long x3]) (h2 := (sh_rep m.T m.I m.J)) rfl rfl rfl ?_
        refine sh_gR1 (len := 3) (x := .ref (sh_rf m.T 61 3 + 1)) (pc2 := 49) rfl rfl hT.t61 rfl rfl ?_
        refine sh_w (i := (.iload 6)) (len := 2) (pc2 := 51) (lv2 := [(6, .int r1), (0, .ref 62), (1, .ref 24), (2, .int x2), (3, .long x3), (5, .int x5)]) (st2 := [.int r1, .ref ((sh_rf m.T 61 3) + 1), .long x3]) (h2 := (sh_rep m.T m.I m.J)) rfl rfl rfl ?_
        exact kk
      obtain ⟨c, e⟩ := sh_gd e
      refine sh_Lk_lift (T := m.T) (I := m.I) (J := m.J) (s := m.s) (pc2 := 58) (lv2 := [(6, .int r1), (0, .ref 62), (1, .ref 24), (2, .int x2), (3, .long x3), (5, .int x5)]) (st2 := [.int r1, .ref ((sh_rf m.T 61 4) + 1), .long (m.J (sh_rf m.T 61 3) (Int32.toNatClampNeg r1)), .long x3]) (I2 := m.I) (J2 := m.J) (fun hT v kk => ?_) ?_
      · refine sh_la1 (x := m.J (sh_rf m.T 61 3) (Int32.toNatClampNeg r1)) (pc2 := 52) rfl hT.a61_3 (sh_okb1 c) (sh_okb2 c) rfl rfl ?_
        refine sh_w (i := (.aload_n 0)) (len := 1) (pc2 := 53) (lv2 := [(6, .int r1), (0, .ref 62), (1, .ref 24), (2, .int x2), (3, .long x3), (5, .int x5)]) (st2 := [.ref 62, .long (m.J (sh_rf m.T 61 3) (Int32.toNatClampNeg r1)), .long x3]) (h2 := (sh_rep m.T m.I m.J)) rfl rfl rfl ?_
        refine sh_gR1 (len := 3) (x := .ref (sh_rf m.T 61 4 + 1)) (pc2 := 56) rfl rfl hT.t61 rfl rfl ?_
        refine sh_w (i := (.iload 6)) (len := 2) (pc2 := 58) (lv2 := [(6, .int r1), (0, .ref 62), (1, .ref 24), (2, .int x2), (3, .long x3), (5, .int x5)]) (st2 := [.int r1, .ref ((sh_rf m.T 61 4) + 1), .long (m.J (sh_rf m.T 61 3) (Int32.toNatClampNeg r1)), .long x3]) (h2 := (sh_rep m.T m.I m.J)) rfl rfl rfl ?_
        exact kk
      obtain ⟨c, e⟩ := sh_gd e
      refine sh_Lk_lift (T := m.T) (I := m.I) (J := m.J) (s := m.s) (pc2 := 67) (lv2 := [(3, .long (x3 ||| ((((m.J (sh_rf m.T 61 3) (Int32.toNatClampNeg r1)) ^^^ (m.J (sh_rf m.T 61 4) (Int32.toNatClampNeg r1))) &&& (1 : Int64)) <<< (Int32.toInt64 x5 &&& 63)))), (6, .int r1), (0, .ref 62), (1, .ref 24), (2, .int x2), (5, .int x5)]) (st2 := []) (I2 := m.I) (J2 := m.J) (fun hT v kk => ?_) ?_
      · refine sh_la1 (x := m.J (sh_rf m.T 61 4) (Int32.toNatClampNeg r1)) (pc2 := 59) rfl hT.a61_4 (sh_okb1 c) (sh_okb2 c) rfl rfl ?_
        refine sh_w (i := .lxor) (len := 1) (pc2 := 60) (lv2 := [(6, .int r1), (0, .ref 62), (1, .ref 24), (2, .int x2), (3, .long x3), (5, .int x5)]) (st2 := [.long ((m.J (sh_rf m.T 61 3) (Int32.toNatClampNeg r1)) ^^^ (m.J (sh_rf m.T 61 4) (Int32.toNatClampNeg r1))), .long x3]) (h2 := (sh_rep m.T m.I m.J)) rfl rfl rfl ?_
        refine sh_w (i := (.lconst 1)) (len := 1) (pc2 := 61) (lv2 := [(6, .int r1), (0, .ref 62), (1, .ref 24), (2, .int x2), (3, .long x3), (5, .int x5)]) (st2 := [.long 1, .long ((m.J (sh_rf m.T 61 3) (Int32.toNatClampNeg r1)) ^^^ (m.J (sh_rf m.T 61 4) (Int32.toNatClampNeg r1))), .long x3]) (h2 := (sh_rep m.T m.I m.J)) rfl rfl rfl ?_
        refine sh_w (i := .land) (len := 1) (pc2 := 62) (lv2 := [(6, .int r1), (0, .ref 62), (1, .ref 24), (2, .int x2), (3, .long x3), (5, .int x5)]) (st2 := [.long (((m.J (sh_rf m.T 61 3) (Int32.toNatClampNeg r1)) ^^^ (m.J (sh_rf m.T 61 4) (Int32.toNatClampNeg r1))) &&& (1 : Int64)), .long x3]) (h2 := (sh_rep m.T m.I m.J)) rfl rfl rfl ?_
        refine sh_w (i := (.iload 5)) (len := 2) (pc2 := 64) (lv2 := [(6, .int r1), (0, .ref 62), (1, .ref 24), (2, .int x2), (3, .long x3), (5, .int x5)]) (st2 := [.int x5, .long (((m.J (sh_rf m.T 61 3) (Int32.toNatClampNeg r1)) ^^^ (m.J (sh_rf m.T 61 4) (Int32.toNatClampNeg r1))) &&& (1 : Int64)), .long x3]) (h2 := (sh_rep m.T m.I m.J)) rfl rfl rfl ?_
        refine sh_w (i := .lshl) (len := 1) (pc2 := 65) (lv2 := [(6, .int r1), (0, .ref 62), (1, .ref 24), (2, .int x2), (3, .long x3), (5, .int x5)]) (st2 := [.long ((((m.J (sh_rf m.T 61 3) (Int32.toNatClampNeg r1)) ^^^ (m.J (sh_rf m.T 61 4) (Int32.toNatClampNeg r1))) &&& (1 : Int64)) <<< (Int32.toInt64 x5 &&& 63)), .long x3]) (h2 := (sh_rep m.T m.I m.J)) rfl rfl rfl ?_
        refine sh_w (i := .lor) (len := 1) (pc2 := 66) (lv2 := [(6, .int r1), (0, .ref 62), (1, .ref 24), (2, .int x2), (3, .long x3), (5, .int x5)]) (st2 := [.long (x3 ||| ((((m.J (sh_rf m.T 61 3) (Int32.toNatClampNeg r1)) ^^^ (m.J (sh_rf m.T 61 4) (Int32.toNatClampNeg r1))) &&& (1 : Int64)) <<< (Int32.toInt64 x5 &&& 63)))]) (h2 := (sh_rep m.T m.I m.J)) rfl rfl rfl ?_
        refine sh_w (i := (.lstore_n 3)) (len := 1) (pc2 := 67) (lv2 := [(3, .long (x3 ||| ((((m.J (sh_rf m.T 61 3) (Int32.toNatClampNeg r1)) ^^^ (m.J (sh_rf m.T 61 4) (Int32.toNatClampNeg r1))) &&& (1 : Int64)) <<< (Int32.toInt64 x5 &&& 63)))), (6, .int r1), (0, .ref 62), (1, .ref 24), (2, .int x2), (5, .int x5)]) (st2 := []) (h2 := (sh_rep m.T m.I m.J)) rfl rfl rfl ?_
        exact kk
      exact sh_Lk_sub (sh_sub_c rfl (sh_sub_c rfl (sh_sub_c rfl (sh_sub_c rfl (sh_sub_c rfl (sh_sub_n)))))) (sl_234_67 e tg)
    · refine sh_Lk_lift (T := m.T) (I := m.I) (J := m.J) (s := m.s) (pc2 := 67) (lv2 := [(6, .int r1), (0, .ref 62), (1, .ref 24), (2, .int x2), (3, .long x3), (5, .int x5)]) (st2 := []) (I2 := m.I) (J2 := m.J) (fun hT v kk => ?_) ?_
      · refine sh_j0 (c := .eq) (off := (26)) (pc2 := 67) true rfl (sh_Zeqt c) rfl ?_
        exact kk
      exact sh_Lk_sub (sh_sub_c rfl (sh_sub_c rfl (sh_sub_c rfl (sh_sub_c rfl (sh_sub_c rfl (sh_sub_n)))))) (sl_234_67 e tg)
  · refine sh_Lk_lift (T := m.T) (I := m.I) (J := m.J) (s := m.s) (pc2 := 76) (lv2 := [(0, .ref 62), (1, .ref 24), (2, .int x2), (3, .long x3), (5, .int x5)]) (st2 := [.long x3, .int x2, .ref 24]) (I2 := m.I) (J2 := m.J) (fun hT v kk => ?_) ?_
    · refine sh_jc (c := .ge) (off := (50)) (pc2 := 73) true rfl (sh_Bget c) rfl ?_
      refine sh_w (i := (.aload_n 1)) (len := 1) (pc2 := 74) (lv2 := [(0, .ref 62), (1, .ref 24), (2, .int x2), (3, .long x3), (5, .int x5)]) (st2 := [.ref 24]) (h2 := (sh_rep m.T m.I m.J)) rfl rfl rfl ?_
      refine sh_w (i := (.iload_n 2)) (len := 1) (pc2 := 75) (lv2 := [(0, .ref 62), (1, .ref 24), (2, .int x2), (3, .long x3), (5, .int x5)]) (st2 := [.int x2, .ref 24]) (h2 := (sh_rep m.T m.I m.J)) rfl rfl rfl ?_
      refine sh_w (i := (.lload_n 3)) (len := 1) (pc2 := 76) (lv2 := [(0, .ref 62), (1, .ref 24), (2, .int x2), (3, .long x3), (5, .int x5)]) (st2 := [.long x3, .int x2, .ref 24]) (h2 := (sh_rep m.T m.I m.J)) rfl rfl rfl ?_
      exact kk
    obtain ⟨r3, m13, e3, e⟩ := sh_bn_e e
    refine sh_Lk_cV (r := none) (st2 := []) (pc2 := 79) (k2 := 235) (a := 23) (as := [.ref 24, .int x2, .long x3]) (rest := []) rfl rfl rfl (fun hT => (sh_s23 hT.st)) rfl rfl ⟨Nat.le_of_ble_eq_true rfl, Nat.le_of_ble_eq_true rfl⟩ (sl_235 (by decide) e3 ⟨rfl, rfl⟩) rfl rfl (Nat.le_of_ble_eq_true rfl) (Nat.le_of_ble_eq_true rfl) ?_
    refine sh_Lk_lift (T := m13.T) (I := m13.I) (J := m13.J) (s := m13.s) (pc2 := 2) (lv2 := [(2, .int (x2 + 1)), (0, .ref 62), (1, .ref 24), (3, .long x3), (5, .int x5)]) (st2 := []) (I2 := m13.I) (J2 := m13.J) (fun hT v kk => ?_) ?_
    · refine sh_w (i := (.iinc 2 1)) (len := 3) (pc2 := 82) (lv2 := [(2, .int (x2 + 1)), (0, .ref 62), (1, .ref 24), (3, .long x3), (5, .int x5)]) (st2 := []) (h2 := (sh_rep m13.T m13.I m13.J)) rfl rfl rfl ?_
      refine sh_w (i := (.goto (-80))) (len := 3) (pc2 := 2) (lv2 := [(2, .int (x2 + 1)), (0, .ref 62), (1, .ref 24), (3, .long x3), (5, .int x5)]) (st2 := []) (h2 := (sh_rep m13.T m13.I m13.J)) rfl rfl rfl ?_
      exact kk
    obtain rfl := Option.some.inj e
    exact sh_Lk_sub (sh_sub_c rfl (sh_sub_c rfl (sh_sub_c rfl (sh_sub_n)))) tg
theorem sl_234_15 {x2 : Int32} {x3 : Int64} {x5 : Int32} {m m2 : sh_X} {o : Outcome} {z : ((Int32 × sh_X) ⊕ (Unit × sh_X))} (e : sf_234_15 x2 x3 x5 m = some z) (tg : (sh_el (fun q => sh_Lk 234 2 [(0, .ref 62), (1, .ref 24), (2, .int q.1)] [] q.2 o m2 10 244) (sh_tV o m2)) z) : sh_Lk 234 15 [(0, .ref 62), (1, .ref 24), (2, .int x2), (3, .long x3), (5, .int x5)] [] m o m2 10 244 := by
  unfold sf_234_15 at e
  exact sh_while_lk (P := fun q => sh_Lk 234 15 [(0, .ref 62), (1, .ref 24), (2, .int x2), (3, .long q.1), (5, .int q.2.1)] [] q.2.2 o m2 10 244) (Q := (sh_el (fun q => sh_Lk 234 2 [(0, .ref 62), (1, .ref 24), (2, .int q.1)] [] q.2 o m2 10 244) (sh_tV o m2))) (fun q z e tg => sl_234_15s (x2 := x2) (x3 := q.1) (x5 := q.2.1) (m := q.2.2) e tg) (s := (x3, x5, m)) e tg
theorem sl_234_2s {x2 : Int32} {m m2 : sh_X} {o : Outcome} {z : ((Int32 × sh_X) ⊕ (Unit × sh_X))} (e : sf_234_2s x2 m = some z) (tg : (sh_el (fun q => sh_Lk 234 2 [(0, .ref 62), (1, .ref 24), (2, .int q.1)] [] q.2 o m2 10 244) (sh_tV o m2)) z) : sh_Lk 234 2 [(0, .ref 62), (1, .ref 24), (2, .int x2)] [] m o m2 10 244 := by
  unfold sf_234_2s at e
  refine sh_Lk_lift (T := m.T) (I := m.I) (J := m.J) (s := m.s) (pc2 := 7) (lv2 := [(0, .ref 62), (1, .ref 24), (2, .int x2)]) (st2 := [.int (m.I 23 4), .int x2]) (I2 := m.I) (J2 := m.J) (fun hT v kk => ?_) ?_
  · refine sh_w (i := (.iload_n 2)) (len := 1) (pc2 := 3) (lv2 := [(0, .ref 62), (1, .ref 24), (2, .int x2)]) (st2 := [.int x2]) (h2 := (sh_rep m.T m.I m.J)) rfl rfl rfl ?_
    refine sh_w (i := (.aload_n 1)) (len := 1) (pc2 := 4) (lv2 := [(0, .ref 62), (1, .ref 24), (2, .int x2)]) (st2 := [.ref 24, .int x2]) (h2 := (sh_rep m.T m.I m.J)) rfl rfl rfl ?_
    refine sh_gI1 (len := 3) (x := m.I 23 4) (pc2 := 7) rfl rfl (sh_s23 hT.st) rfl rfl rfl ?_
    exact kk
  rcases sh_ite e with ⟨c, e⟩ | ⟨c, e⟩
  · refine sh_Lk_lift (T := m.T) (I := m.I) (J := m.J) (s := m.s) (pc2 := 15) (lv2 := [(5, .int 0), (3, .long 0), (0, .ref 62), (1, .ref 24), (2, .int x2)]) (st2 := []) (I2 := m.I) (J2 := m.J) (fun hT v kk => ?_) ?_
    · refine sh_jc (c := .ge) (off := (78)) (pc2 := 10) false rfl (sh_Bgef c) rfl ?_
      refine sh_w (i := (.lconst 0)) (len := 1) (pc2 := 11) (lv2 := [(0, .ref 62), (1, .ref 24), (2, .int x2)]) (st2 := [.long 0]) (h2 := (sh_rep m.T m.I m.J)) rfl rfl rfl ?_
      refine sh_w (i := (.lstore_n 3)) (len := 1) (pc2 := 12) (lv2 := [(3, .long 0), (0, .ref 62), (1, .ref 24), (2, .int x2)]) (st2 := []) (h2 := (sh_rep m.T m.I m.J)) rfl rfl rfl ?_
      refine sh_w (i := (.iconst 0)) (len := 1) (pc2 := 13) (lv2 := [(3, .long 0), (0, .ref 62), (1, .ref 24), (2, .int x2)]) (st2 := [.int 0]) (h2 := (sh_rep m.T m.I m.J)) rfl rfl rfl ?_
      refine sh_w (i := (.istore 5)) (len := 2) (pc2 := 15) (lv2 := [(5, .int 0), (3, .long 0), (0, .ref 62), (1, .ref 24), (2, .int x2)]) (st2 := []) (h2 := (sh_rep m.T m.I m.J)) rfl rfl rfl ?_
      exact kk
    exact sh_Lk_sub (sh_sub_c rfl (sh_sub_c rfl (sh_sub_c rfl (sh_sub_c rfl (sh_sub_c rfl (sh_sub_n)))))) (sl_234_15 e tg)
  · refine sh_Lk_lift (T := m.T) (I := m.I) (J := m.J) (s := m.s) (pc2 := 85) (lv2 := [(0, .ref 62), (1, .ref 24), (2, .int x2)]) (st2 := []) (I2 := m.I) (J2 := m.J) (fun hT v kk => ?_) ?_
    · refine sh_jc (c := .ge) (off := (78)) (pc2 := 85) true rfl (sh_Bget c) rfl ?_
      exact kk
    obtain rfl := Option.some.inj e
    obtain ⟨rfl, rfl⟩ := tg
    exact sh_Lk_ret (i := .return_) rfl rfl rfl (Nat.le_of_ble_eq_true rfl) (Nat.le_of_ble_eq_true rfl)
theorem sl_234_2 {x2 : Int32} {m m2 : sh_X} {o : Outcome} {z : (Unit × sh_X)} (e : sf_234_2 x2 m = some z) (tg : (sh_tV o m2) z) : sh_Lk 234 2 [(0, .ref 62), (1, .ref 24), (2, .int x2)] [] m o m2 10 244 := by
  unfold sf_234_2 at e
  exact sh_while_lk (P := fun q => sh_Lk 234 2 [(0, .ref 62), (1, .ref 24), (2, .int q.1)] [] q.2 o m2 10 244) (Q := (sh_tV o m2)) (fun q z e tg => sl_234_2s (x2 := q.1) (m := q.2) e tg) (s := (x2, m)) e tg
theorem sl_234 {m m2 : sh_X} {o : Outcome} {z : (Unit × sh_X)} (e : sf_234 m = some z) (tg : (sh_tV o m2) z) : sh_Lk 234 0 [(0, .ref 62), (1, .ref 24)] [] m o m2 10 244 := by
  unfold sf_234 at e
  refine sh_Lk_lift (T := m.T) (I := m.I) (J := m.J) (s := m.s) (pc2 := 2) (lv2 := [(2, .int 0), (0, .ref 62), (1, .ref 24)]) (st2 := []) (I2 := m.I) (J2 := m.J) (fun hT v kk => ?_) ?_
  · refine sh_w (i := (.iconst 0)) (len := 1) (pc2 := 1) (lv2 := [(0, .ref 62), (1, .ref 24)]) (st2 := [.int 0]) (h2 := (sh_rep m.T m.I m.J)) rfl rfl rfl ?_
    refine sh_w (i := (.istore_n 2)) (len := 1) (pc2 := 2) (lv2 := [(2, .int 0), (0, .ref 62), (1, .ref 24)]) (st2 := []) (h2 := (sh_rep m.T m.I m.J)) rfl rfl rfl ?_
    exact kk
  exact sh_Lk_sub (sh_sub_c rfl (sh_sub_c rfl (sh_sub_c rfl (sh_sub_n)))) (sl_234_2 e tg)
theorem sl_220_219 {x4 : Int32} {m m2 : sh_X} {o : Outcome} {z : ((Int32 × sh_X) ⊕ (Unit × sh_X))} (e : sf_220_219 x4 m = some z) (tg : (sh_el (fun q => sh_Lk 220 32 [(0, .ref 62), (3, .ref 24), (4, .int q.1)] [] q.2 o m2 12 303) (sh_tV o m2)) z) : sh_Lk 220 219 [(0, .ref 62), (3, .ref 24), (4, .int x4)] [] m o m2 12 303 := by
  unfold sf_220_219 at e
  refine sh_Lk_lift (T := m.T) (I := m.I) (J := m.J) (s := m.s) (pc2 := 32) (lv2 := [(4, .int (x4 + 1)), (0, .ref 62), (3, .ref 24)]) (st2 := []) (I2 := m.I) (J2 := m.J) (fun hT v kk => ?_) ?_
  · refine sh_w (i := (.iinc 4 1)) (len := 3) (pc2 := 222) (lv2 := [(4, .int (x4 + 1)), (0, .ref 62), (3, .ref 24)]) (st2 := []) (h2 := (sh_rep m.T m.I m.J)) rfl rfl rfl ?_
    refine sh_w (i := (.goto (-190))) (len := 3) (pc2 := 32) (lv2 := [(4, .int (x4 + 1)), (0, .ref 62), (3, .ref 24)]) (st2 := []) (h2 := (sh_rep m.T m.I m.J)) rfl rfl rfl ?_
    exact kk
  obtain rfl := Option.some.inj e
  exact sh_Lk_sub (sh_sub_c rfl (sh_sub_c rfl (sh_sub_c rfl (sh_sub_n)))) tg
theorem sl_220_225 {m m2 : sh_X} {o : Outcome} {z : (Unit × sh_X)} (e : sf_220_225 m = some z) (tg : (sh_tV o m2) z) : sh_Lk 220 225 [(0, .ref 62), (3, .ref 24)] [] m o m2 12 303 := by
  unfold sf_220_225 at e
  refine sh_Lk_lift (T := m.T) (I := m.I) (J := m.J) (s := m.s) (pc2 := 227) (lv2 := [(0, .ref 62), (3, .ref 24)]) (st2 := [.ref 24, .ref 62]) (I2 := m.I) (J2 := m.J) (fun hT v kk => ?_) ?_
  · refine sh_w (i := (.aload_n 0)) (len := 1) (pc2 := 226) (lv2 := [(0, .ref 62), (3, .ref 24)]) (st2 := [.ref 62]) (h2 := (sh_rep m.T m.I m.J)) rfl rfl rfl ?_
    refine sh_w (i := (.aload_n 3)) (len := 1) (pc2 := 227) (lv2 := [(0, .ref 62), (3, .ref 24)]) (st2 := [.ref 24, .ref 62]) (h2 := (sh_rep m.T m.I m.J)) rfl rfl rfl ?_
    exact kk
  obtain ⟨r1, m11, e1, e⟩ := sh_bn_e e
  refine sh_Lk_cV (r := none) (st2 := []) (pc2 := 230) (k2 := 234) (a := 61) (as := [.ref 62, .ref 24]) (rest := []) rfl rfl rfl (fun hT => hT.t61) rfl rfl ⟨Nat.le_of_ble_eq_true rfl, Nat.le_of_ble_eq_true rfl⟩ (sl_234 e1 ⟨rfl, rfl⟩) rfl rfl (Nat.le_of_ble_eq_true rfl) (Nat.le_of_ble_eq_true rfl) ?_
  obtain rfl := Option.some.inj e
  obtain ⟨rfl, rfl⟩ := tg
  exact sh_Lk_ret (i := .return_) rfl rfl rfl (Nat.le_of_ble_eq_true rfl) (Nat.le_of_ble_eq_true rfl)
theorem sl_220_32s {x4 : Int32} {m m2 : sh_X} {o : Outcome} {z : ((Int32 × sh_X) ⊕ (Unit × sh_X))} (e : sf_220_32s x4 m = some z) (tg : (sh_el (fun q => sh_Lk 220 32 [(0, .ref 62), (3, .ref 24), (4, .int q.1)] [] q.2 o m2 12 303) (sh_tV o m2)) z) : sh_Lk 220 32 [(0, .ref 62), (3, .ref 24), (4, .int x4)] [] m o m2 12 303 := by
  unfold sf_220_32s at e
  refine sh_Lk_lift (T := m.T) (I := m.I) (J := m.J) (s := m.s) (pc2 := 41) (lv2 := [(0, .ref 62), (3, .ref 24), (4, .int x4)]) (st2 := [.int (m.I 9 3), .int x4]) (I2 := m.I) (J2 := m.J) (fun hT v kk => ?_) ?_
  · refine sh_w (i := (.iload 4)) (len := 2) (pc2 := 34) (lv2 := [(0, .ref 62), (3, .ref 24), (4, .int x4)]) (st2 := [.int x4]) (h2 := (sh_rep m.T m.I m.J)) rfl rfl rfl ?_
    refine sh_w (i := (.aload_n 0)) (len := 1) (pc2 := 35) (lv2 := [(0, .ref 62), (3, .ref 24), (4, .int x4)]) (st2 := [.ref 62, .int x4]) (h2 := (sh_rep m.T m.I m.J)) rfl rfl rfl ?_
    refine sh_gR1 (len := 3) (x := .ref 10) (pc2 := 38) rfl rfl hT.t61 rfl rfl ?_
    refine sh_gI1 (len := 3) (x := m.I 9 3) (pc2 := 41) rfl rfl hT.t9 rfl rfl rfl ?_
    exact kk
  rcases sh_ite e with ⟨c, e⟩ | ⟨c, e⟩
  · refine sh_Lk_lift (T := m.T) (I := m.I) (J := m.J) (s := m.s) (pc2 := 47) (lv2 := [(0, .ref 62), (3, .ref 24), (4, .int x4)]) (st2 := [.int x4, .ref 62]) (I2 := m.I) (J2 := m.J) (fun hT v kk => ?_) ?_
    · refine sh_jc (c := .ge) (off := (184)) (pc2 := 44) false rfl (sh_Bgef c) rfl ?_
      refine sh_w (i := (.aload_n 0)) (len := 1) (pc2 := 45) (lv2 := [(0, .ref 62), (3, .ref 24), (4, .int x4)]) (st2 := [.ref 62]) (h2 := (sh_rep m.T m.I m.J)) rfl rfl rfl ?_
      refine sh_w (i := (.iload 4)) (len := 2) (pc2 := 47) (lv2 := [(0, .ref 62), (3, .ref 24), (4, .int x4)]) (st2 := [.int x4, .ref 62]) (h2 := (sh_rep m.T m.I m.J)) rfl rfl rfl ?_
      exact kk
    obtain ⟨r1, e1, e⟩ := sh_bc_e e
    refine sh_Lk_cV (r := (some (.int (sh_b2 r1)))) (st2 := [.int (sh_b2 r1)]) (pc2 := 50) (k2 := 225) (a := 61) (as := [.ref 62, .int x4]) (rest := []) rfl rfl rfl (fun hT => hT.t61) rfl rfl ⟨Nat.le_of_ble_eq_true rfl, Nat.le_of_ble_eq_true rfl⟩ (sl_225 e1 ⟨rfl, rfl⟩) rfl rfl (Nat.le_of_ble_eq_true rfl) (Nat.le_of_ble_eq_true rfl) ?_
    rcases sh_ite e with ⟨c, e⟩ | ⟨c, e⟩
    · refine sh_Lk_lift (T := m.T) (I := m.I) (J := m.J) (s := m.s) (pc2 := 62) (lv2 := [(0, .ref 62), (3, .ref 24), (4, .int x4)]) (st2 := [.int x4, .ref ((sh_rf m.T 9 1) + 1)]) (I2 := m.I) (J2 := m.J) (fun hT v kk => ?_) ?_
      · refine sh_j0 (c := .eq) (off := (175)) (pc2 := 53) false rfl (sh_Zeqf c) rfl ?_
        refine sh_w (i := (.aload_n 0)) (len := 1) (pc2 := 54) (lv2 := [(0, .ref 62), (3, .ref 24), (4, .int x4)]) (st2 := [.ref 62]) (h2 := (sh_rep m.T m.I m.J)) rfl rfl rfl ?_
        refine sh_gR1 (len := 3) (x := .ref 10) (pc2 := 57) rfl rfl hT.t61 rfl rfl ?_
        refine sh_gR1 (len := 3) (x := .ref (sh_rf m.T 9 1 + 1)) (pc2 := 60) rfl rfl hT.t9 rfl rfl ?_
        refine sh_w (i := (.iload 4)) (len := 2) (pc2 := 62) (lv2 := [(0, .ref 62), (3, .ref 24), (4, .int x4)]) (st2 := [.int x4, .ref ((sh_rf m.T 9 1) + 1)]) (h2 := (sh_rep m.T m.I m.J)) rfl rfl rfl ?_
        exact kk
      obtain ⟨c, e⟩ := sh_gd e
      refine sh_Lk_lift (T := m.T) (I := m.I) (J := m.J) (s := m.s) (pc2 := 74) (lv2 := [(5, .int (m.I (sh_rf m.T 9 1) (Int32.toNatClampNeg x4))), (0, .ref 62), (3, .ref 24), (4, .int x4)]) (st2 := [.int x4, .ref ((sh_rf m.T 9 2) + 1)]) (I2 := m.I) (J2 := m.J) (fun hT v kk => ?_) ?_
      · refine sh_ia1 (x := m.I (sh_rf m.T 9 1) (Int32.toNatClampNeg x4)) (pc2 := 63) rfl hT.a9_1 (sh_okb1 c) (sh_okb2 c) rfl rfl ?_
        refine sh_w (i := (.istore 5)) (len := 2) (pc2 := 65) (lv2 := [(5, .int (m.I (sh_rf m.T 9 1) (Int32.toNatClampNeg x4))), (0, .ref 62), (3, .ref 24), (4, .int x4)]) (st2 := []) (h2 := (sh_rep m.T m.I m.J)) rfl rfl rfl ?_
        refine sh_w (i := (.aload_n 0)) (len := 1) (pc2 := 66) (lv2 := [(5, .int (m.I (sh_rf m.T 9 1) (Int32.toNatClampNeg x4))), (0, .ref 62), (3, .ref 24), (4, .int x4)]) (st2 := [.ref 62]) (h2 := (sh_rep m.T m.I m.J)) rfl rfl rfl ?_
        refine sh_gR1 (len := 3) (x := .ref 10) (pc2 := 69) rfl rfl hT.t61 rfl rfl ?_
        refine sh_gR1 (len := 3) (x := .ref (sh_rf m.T 9 2 + 1)) (pc2 := 72) rfl rfl hT.t9 rfl rfl ?_
        refine sh_w (i := (.iload 4)) (len := 2) (pc2 := 74) (lv2 := [(5, .int (m.I (sh_rf m.T 9 1) (Int32.toNatClampNeg x4))), (0, .ref 62), (3, .ref 24), (4, .int x4)]) (st2 := [.int x4, .ref ((sh_rf m.T 9 2) + 1)]) (h2 := (sh_rep m.T m.I m.J)) rfl rfl rfl ?_
        exact kk
      obtain ⟨c, e⟩ := sh_gd e
      refine sh_Lk_lift (T := m.T) (I := m.I) (J := m.J) (s := m.s) (pc2 := 79) (lv2 := [(6, .int (m.I (sh_rf m.T 9 2) (Int32.toNatClampNeg x4))), (5, .int (m.I (sh_rf m.T 9 1) (Int32.toNatClampNeg x4))), (0, .ref 62), (3, .ref 24), (4, .int x4)]) (st2 := [.int (m.I (sh_rf m.T 9 1) (Int32.toNatClampNeg x4))]) (I2 := m.I) (J2 := m.J) (fun hT v kk => ?_) ?_
      · refine sh_ia1 (x := m.I (sh_rf m.T 9 2) (Int32.toNatClampNeg x4)) (pc2 := 75) rfl hT.a9_2 (sh_okb1 c) (sh_okb2 c) rfl rfl ?_
        refine sh_w (i := (.istore 6)) (len := 2) (pc2 := 77) (lv2 := [(6, .int (m.I (sh_rf m.T 9 2) (Int32.toNatClampNeg x4))), (5, .int (m.I (sh_rf m.T 9 1) (Int32.toNatClampNeg x4))), (0, .ref 62), (3, .ref 24), (4, .int x4)]) (st2 := []) (h2 := (sh_rep m.T m.I m.J)) rfl rfl rfl ?_
        refine sh_w (i := (.iload 5)) (len := 2) (pc2 := 79) (lv2 := [(6, .int (m.I (sh_rf m.T 9 2) (Int32.toNatClampNeg x4))), (5, .int (m.I (sh_rf m.T 9 1) (Int32.toNatClampNeg x4))), (0, .ref 62), (3, .ref 24), (4, .int x4)]) (st2 := [.int (m.I (sh_rf m.T 9 1) (Int32.toNatClampNeg x4))]) (h2 := (sh_rep m.T m.I m.J)) rfl rfl rfl ?_
        exact kk
      rcases sh_ite e with ⟨c, e⟩ | ⟨c, e⟩
      · refine sh_Lk_lift (T := m.T) (I := m.I) (J := m.J) (s := m.s) (pc2 := 219) (lv2 := [(6, .int (m.I (sh_rf m.T 9 2) (Int32.toNatClampNeg x4))), (5, .int (m.I (sh_rf m.T 9 1) (Int32.toNatClampNeg x4))), (0, .ref 62), (3, .ref 24), (4, .int x4)]) (st2 := []) (I2 := m.I) (J2 := m.J) (fun hT v kk => ?_) ?_
        · refine sh_j0 (c := .lt) (off := (140)) (pc2 := 219) true rfl (sh_Bltt c) rfl ?_
          exact kk
        exact sh_Lk_sub (sh_sub_c rfl (sh_sub_c rfl (sh_sub_c rfl (sh_sub_n)))) (sl_220_219 e tg)
      · refine sh_Lk_lift (T := m.T) (I := m.I) (J := m.J) (s := m.s) (pc2 := 86) (lv2 := [(6, .int (m.I (sh_rf m.T 9 2) (Int32.toNatClampNeg x4))), (5, .int (m.I (sh_rf m.T 9 1) (Int32.toNatClampNeg x4))), (0, .ref 62), (3, .ref 24), (4, .int x4)]) (st2 := [.int x4, .int (m.I (sh_rf m.T 9 1) (Int32.toNatClampNeg x4))]) (I2 := m.I) (J2 := m.J) (fun hT v kk => ?_) ?_
        · refine sh_j0 (c := .lt) (off := (140)) (pc2 := 82) false rfl (sh_Bltf c) rfl ?_
          refine sh_w (i := (.iload 5)) (len := 2) (pc2 := 84) (lv2 := [(6, .int (m.I (sh_rf m.T 9 2) (Int32.toNatClampNeg x4))), (5, .int (m.I (sh_rf m.T 9 1) (Int32.toNatClampNeg x4))), (0, .ref 62), (3, .ref 24), (4, .int x4)]) (st2 := [.int (m.I (sh_rf m.T 9 1) (Int32.toNatClampNeg x4))]) (h2 := (sh_rep m.T m.I m.J)) rfl rfl rfl ?_
          refine sh_w (i := (.iload 4)) (len := 2) (pc2 := 86) (lv2 := [(6, .int (m.I (sh_rf m.T 9 2) (Int32.toNatClampNeg x4))), (5, .int (m.I (sh_rf m.T 9 1) (Int32.toNatClampNeg x4))), (0, .ref 62), (3, .ref 24), (4, .int x4)]) (st2 := [.int x4, .int (m.I (sh_rf m.T 9 1) (Int32.toNatClampNeg x4))]) (h2 := (sh_rep m.T m.I m.J)) rfl rfl rfl ?_
          exact kk
        rcases sh_ite e with ⟨c, e⟩ | ⟨c, e⟩
        · refine sh_Lk_lift (T := m.T) (I := m.I) (J := m.J) (s := m.s) (pc2 := 91) (lv2 := [(6, .int (m.I (sh_rf m.T 9 2) (Int32.toNatClampNeg x4))), (5, .int (m.I (sh_rf m.T 9 1) (Int32.toNatClampNeg x4))), (0, .ref 62), (3, .ref 24), (4, .int x4)]) (st2 := [.int (m.I (sh_rf m.T 9 2) (Int32.toNatClampNeg x4))]) (I2 := m.I) (J2 := m.J) (fun hT v kk => ?_) ?_
          · refine sh_jc (c := .ge) (off := (133)) (pc2 := 89) false rfl (sh_Bgef c) rfl ?_
            refine sh_w (i := (.iload 6)) (len := 2) (pc2 := 91) (lv2 := [(6, .int (m.I (sh_rf m.T 9 2) (Int32.toNatClampNeg x4))), (5, .int (m.I (sh_rf m.T 9 1) (Int32.toNatClampNeg x4))), (0, .ref 62), (3, .ref 24), (4, .int x4)]) (st2 := [.int (m.I (sh_rf m.T 9 2) (Int32.toNatClampNeg x4))]) (h2 := (sh_rep m.T m.I m.J)) rfl rfl rfl ?_
            exact kk
          rcases sh_ite e with ⟨c, e⟩ | ⟨c, e⟩
          · refine sh_Lk_lift (T := m.T) (I := m.I) (J := m.J) (s := m.s) (pc2 := 219) (lv2 := [(6, .int (m.I (sh_rf m.T 9 2) (Int32.toNatClampNeg x4))), (5, .int (m.I (sh_rf m.T 9 1) (Int32.toNatClampNeg x4))), (0, .ref 62), (3, .ref 24), (4, .int x4)]) (st2 := []) (I2 := m.I) (J2 := m.J) (fun hT v kk => ?_) ?_
            · refine sh_j0 (c := .lt) (off := (128)) (pc2 := 219) true rfl (sh_Bltt c) rfl ?_
              exact kk
            exact sh_Lk_sub (sh_sub_c rfl (sh_sub_c rfl (sh_sub_c rfl (sh_sub_n)))) (sl_220_219 e tg)
          · refine sh_Lk_lift (T := m.T) (I := m.I) (J := m.J) (s := m.s) (pc2 := 98) (lv2 := [(6, .int (m.I (sh_rf m.T 9 2) (Int32.toNatClampNeg x4))), (5, .int (m.I (sh_rf m.T 9 1) (Int32.toNatClampNeg x4))), (0, .ref 62), (3, .ref 24), (4, .int x4)]) (st2 := [.int x4, .int (m.I (sh_rf m.T 9 2) (Int32.toNatClampNeg x4))]) (I2 := m.I) (J2 := m.J) (fun hT v kk => ?_) ?_
            · refine sh_j0 (c := .lt) (off := (128)) (pc2 := 94) false rfl (sh_Bltf c) rfl ?_
              refine sh_w (i := (.iload 6)) (len := 2) (pc2 := 96) (lv2 := [(6, .int (m.I (sh_rf m.T 9 2) (Int32.toNatClampNeg x4))), (5, .int (m.I (sh_rf m.T 9 1) (Int32.toNatClampNeg x4))), (0, .ref 62), (3, .ref 24), (4, .int x4)]) (st2 := [.int (m.I (sh_rf m.T 9 2) (Int32.toNatClampNeg x4))]) (h2 := (sh_rep m.T m.I m.J)) rfl rfl rfl ?_
              refine sh_w (i := (.iload 4)) (len := 2) (pc2 := 98) (lv2 := [(6, .int (m.I (sh_rf m.T 9 2) (Int32.toNatClampNeg x4))), (5, .int (m.I (sh_rf m.T 9 1) (Int32.toNatClampNeg x4))), (0, .ref 62), (3, .ref 24), (4, .int x4)]) (st2 := [.int x4, .int (m.I (sh_rf m.T 9 2) (Int32.toNatClampNeg x4))]) (h2 := (sh_rep m.T m.I m.J)) rfl rfl rfl ?_
              exact kk
            rcases sh_ite e with ⟨c, e⟩ | ⟨c, e⟩
            · refine sh_Lk_lift (T := m.T) (I := m.I) (J := m.J) (s := m.s) (pc2 := 113) (lv2 := [(6, .int (m.I (sh_rf m.T 9 2) (Int32.toNatClampNeg x4))), (5, .int (m.I (sh_rf m.T 9 1) (Int32.toNatClampNeg x4))), (0, .ref 62), (3, .ref 24), (4, .int x4)]) (st2 := [.int x4, .ref ((sh_rf m.T 9 0) + 1)]) (I2 := m.I) (J2 := m.J) (fun hT v kk => ?_) ?_
              · refine sh_jc (c := .lt) (off := (6)) (pc2 := 104) true rfl (sh_Bltt c) rfl ?_
                refine sh_w (i := (.aload_n 0)) (len := 1) (pc2 := 105) (lv2 := [(6, .int (m.I (sh_rf m.T 9 2) (Int32.toNatClampNeg x4))), (5, .int (m.I (sh_rf m.T 9 1) (Int32.toNatClampNeg x4))), (0, .ref 62), (3, .ref 24), (4, .int x4)]) (st2 := [.ref 62]) (h2 := (sh_rep m.T m.I m.J)) rfl rfl rfl ?_
                refine sh_gR1 (len := 3) (x := .ref 10) (pc2 := 108) rfl rfl hT.t61 rfl rfl ?_
                refine sh_gR1 (len := 3) (x := .ref (sh_rf m.T 9 0 + 1)) (pc2 := 111) rfl rfl hT.t9 rfl rfl ?_
                refine sh_w (i := (.iload 4)) (len := 2) (pc2 := 113) (lv2 := [(6, .int (m.I (sh_rf m.T 9 2) (Int32.toNatClampNeg x4))), (5, .int (m.I (sh_rf m.T 9 1) (Int32.toNatClampNeg x4))), (0, .ref 62), (3, .ref 24), (4, .int x4)]) (st2 := [.int x4, .ref ((sh_rf m.T 9 0) + 1)]) (h2 := (sh_rep m.T m.I m.J)) rfl rfl rfl ?_
                exact kk
              obtain ⟨c, e⟩ := sh_gd e
              refine sh_Lk_lift (T := m.T) (I := m.I) (J := m.J) (s := m.s) (pc2 := 115) (lv2 := [(6, .int (m.I (sh_rf m.T 9 2) (Int32.toNatClampNeg x4))), (5, .int (m.I (sh_rf m.T 9 1) (Int32.toNatClampNeg x4))), (0, .ref 62), (3, .ref 24), (4, .int x4)]) (st2 := [.int 1, .int (m.I (sh_rf m.T 9 0) (Int32.toNatClampNeg x4))]) (I2 := m.I) (J2 := m.J) (fun hT v kk => ?_) ?_
              · refine sh_ba1 (x := m.I (sh_rf m.T 9 0) (Int32.toNatClampNeg x4)) (pc2 := 114) rfl hT.a9_0 (Or.inl rfl) (sh_okb1 c) (sh_okb2 c) rfl rfl ?_
                refine sh_w (i := (.iconst 1)) (len := 1) (pc2 := 115) (lv2 := [(6, .int (m.I (sh_rf m.T 9 2) (Int32.toNatClampNeg x4))), (5, .int (m.I (sh_rf m.T 9 1) (Int32.toNatClampNeg x4))), (0, .ref 62), (3, .ref 24), (4, .int x4)]) (st2 := [.int 1, .int (m.I (sh_rf m.T 9 0) (Int32.toNatClampNeg x4))]) (h2 := (sh_rep m.T m.I m.J)) rfl rfl rfl ?_
                exact kk
              rcases sh_ite e with ⟨c, e⟩ | ⟨c, e⟩
              · refine sh_Lk_lift (T := m.T) (I := m.I) (J := m.J) (s := m.s) (pc2 := 130) (lv2 := [(6, .int (m.I (sh_rf m.T 9 2) (Int32.toNatClampNeg x4))), (5, .int (m.I (sh_rf m.T 9 1) (Int32.toNatClampNeg x4))), (0, .ref 62), (3, .ref 24), (4, .int x4)]) (st2 := [.int (m.I (sh_rf m.T 9 1) (Int32.toNatClampNeg x4)), .ref ((sh_rf m.T 61 3) + 1), .int x4, .ref ((sh_rf m.T 61 3) + 1)]) (I2 := m.I) (J2 := m.J) (fun hT v kk => ?_) ?_
                · refine sh_jc (c := .ne) (off := (50)) (pc2 := 118) false rfl (sh_Bnef c) rfl ?_
                  refine sh_w (i := (.aload_n 0)) (len := 1) (pc2 := 119) (lv2 := [(6, .int (m.I (sh_rf m.T 9 2) (Int32.toNatClampNeg x4))), (5, .int (m.I (sh_rf m.T 9 1) (Int32.toNatClampNeg x4))), (0, .ref 62), (3, .ref 24), (4, .int x4)]) (st2 := [.ref 62]) (h2 := (sh_rep m.T m.I m.J)) rfl rfl rfl ?_
                  refine sh_gR1 (len := 3) (x := .ref (sh_rf m.T 61 3 + 1)) (pc2 := 122) rfl rfl hT.t61 rfl rfl ?_
                  refine sh_w (i := (.iload 4)) (len := 2) (pc2 := 124) (lv2 := [(6, .int (m.I (sh_rf m.T 9 2) (Int32.toNatClampNeg x4))), (5, .int (m.I (sh_rf m.T 9 1) (Int32.toNatClampNeg x4))), (0, .ref 62), (3, .ref 24), (4, .int x4)]) (st2 := [.int x4, .ref ((sh_rf m.T 61 3) + 1)]) (h2 := (sh_rep m.T m.I m.J)) rfl rfl rfl ?_
                  refine sh_w (i := (.aload_n 0)) (len := 1) (pc2 := 125) (lv2 := [(6, .int (m.I (sh_rf m.T 9 2) (Int32.toNatClampNeg x4))), (5, .int (m.I (sh_rf m.T 9 1) (Int32.toNatClampNeg x4))), (0, .ref 62), (3, .ref 24), (4, .int x4)]) (st2 := [.ref 62, .int x4, .ref ((sh_rf m.T 61 3) + 1)]) (h2 := (sh_rep m.T m.I m.J)) rfl rfl rfl ?_
                  refine sh_gR1 (len := 3) (x := .ref (sh_rf m.T 61 3 + 1)) (pc2 := 128) rfl rfl hT.t61 rfl rfl ?_
                  refine sh_w (i := (.iload 5)) (len := 2) (pc2 := 130) (lv2 := [(6, .int (m.I (sh_rf m.T 9 2) (Int32.toNatClampNeg x4))), (5, .int (m.I (sh_rf m.T 9 1) (Int32.toNatClampNeg x4))), (0, .ref 62), (3, .ref 24), (4, .int x4)]) (st2 := [.int (m.I (sh_rf m.T 9 1) (Int32.toNatClampNeg x4)), .ref ((sh_rf m.T 61 3) + 1), .int x4, .ref ((sh_rf m.T 61 3) + 1)]) (h2 := (sh_rep m.T m.I m.J)) rfl rfl rfl ?_
                  exact kk
                obtain ⟨c, e⟩ := sh_gd e
                refine sh_Lk_lift (T := m.T) (I := m.I) (J := m.J) (s := m.s) (pc2 := 137) (lv2 := [(6, .int (m.I (sh_rf m.T 9 2) (Int32.toNatClampNeg x4))), (5, .int (m.I (sh_rf m.T 9 1) (Int32.toNatClampNeg x4))), (0, .ref 62), (3, .ref 24), (4, .int x4)]) (st2 := [.int (m.I (sh_rf m.T 9 2) (Int32.toNatClampNeg x4)), .ref ((sh_rf m.T 61 3) + 1), .long (m.J (sh_rf m.T 61 3) (Int32.toNatClampNeg (m.I (sh_rf m.T 9 1) (Int32.toNatClampNeg x4)))), .int x4, .ref ((sh_rf m.T 61 3) + 1)]) (I2 := m.I) (J2 := m.J) (fun hT v kk => ?_) ?_
                · refine sh_la1 (x := m.J (sh_rf m.T 61 3) (Int32.toNatClampNeg (m.I (sh_rf m.T 9 1) (Int32.toNatClampNeg x4)))) (pc2 := 131) rfl hT.a61_3 (sh_okb1 c) (sh_okb2 c) rfl rfl ?_
                  refine sh_w (i := (.aload_n 0)) (len := 1) (pc2 := 132) (lv2 := [(6, .int (m.I (sh_rf m.T 9 2) (Int32.toNatClampNeg x4))), (5, .int (m.I (sh_rf m.T 9 1) (Int32.toNatClampNeg x4))), (0, .ref 62), (3, .ref 24), (4, .int x4)]) (st2 := [.ref 62, .long (m.J (sh_rf m.T 61 3) (Int32.toNatClampNeg (m.I (sh_rf m.T 9 1) (Int32.toNatClampNeg x4)))), .int x4, .ref ((sh_rf m.T 61 3) + 1)]) (h2 := (sh_rep m.T m.I m.J)) rfl rfl rfl ?_
                  refine sh_gR1 (len := 3) (x := .ref (sh_rf m.T 61 3 + 1)) (pc2 := 135) rfl rfl hT.t61 rfl rfl ?_
                  refine sh_w (i := (.iload 6)) (len := 2) (pc2 := 137) (lv2 := [(6, .int (m.I (sh_rf m.T 9 2) (Int32.toNatClampNeg x4))), (5, .int (m.I (sh_rf m.T 9 1) (Int32.toNatClampNeg x4))), (0, .ref 62), (3, .ref 24), (4, .int x4)]) (st2 := [.int (m.I (sh_rf m.T 9 2) (Int32.toNatClampNeg x4)), .ref ((sh_rf m.T 61 3) + 1), .long (m.J (sh_rf m.T 61 3) (Int32.toNatClampNeg (m.I (sh_rf m.T 9 1) (Int32.toNatClampNeg x4)))), .int x4, .ref ((sh_rf m.T 61 3) + 1)]) (h2 := (sh_rep m.T m.I m.J)) rfl rfl rfl ?_
                  exact kk
                obtain ⟨c, e⟩ := sh_gd e
                refine sh_Lk_lift (T := m.T) (I := m.I) (J := m.J) (s := m.s) (pc2 := 139) (lv2 := [(6, .int (m.I (sh_rf m.T 9 2) (Int32.toNatClampNeg x4))), (5, .int (m.I (sh_rf m.T 9 1) (Int32.toNatClampNeg x4))), (0, .ref 62), (3, .ref 24), (4, .int x4)]) (st2 := [.long ((m.J (sh_rf m.T 61 3) (Int32.toNatClampNeg (m.I (sh_rf m.T 9 1) (Int32.toNatClampNeg x4)))) ^^^ (m.J (sh_rf m.T 61 3) (Int32.toNatClampNeg (m.I (sh_rf m.T 9 2) (Int32.toNatClampNeg x4))))), .int x4, .ref ((sh_rf m.T 61 3) + 1)]) (I2 := m.I) (J2 := m.J) (fun hT v kk => ?_) ?_
                · refine sh_la1 (x := m.J (sh_rf m.T 61 3) (Int32.toNatClampNeg (m.I (sh_rf m.T 9 2) (Int32.toNatClampNeg x4)))) (pc2 := 138) rfl hT.a61_3 (sh_okb1 c) (sh_okb2 c) rfl rfl ?_
                  refine sh_w (i := .lxor) (len := 1) (pc2 := 139) (lv2 := [(6, .int (m.I (sh_rf m.T 9 2) (Int32.toNatClampNeg x4))), (5, .int (m.I (sh_rf m.T 9 1) (Int32.toNatClampNeg x4))), (0, .ref 62), (3, .ref 24), (4, .int x4)]) (st2 := [.long ((m.J (sh_rf m.T 61 3) (Int32.toNatClampNeg (m.I (sh_rf m.T 9 1) (Int32.toNatClampNeg x4)))) ^^^ (m.J (sh_rf m.T 61 3) (Int32.toNatClampNeg (m.I (sh_rf m.T 9 2) (Int32.toNatClampNeg x4))))), .int x4, .ref ((sh_rf m.T 61 3) + 1)]) (h2 := (sh_rep m.T m.I m.J)) rfl rfl rfl ?_
                  exact kk
                obtain ⟨c, e⟩ := sh_gd e
                refine sh_Lk_lift (T := m.T) (I := m.I) (J := m.J) (s := m.s) (pc2 := 152) (lv2 := [(6, .int (m.I (sh_rf m.T 9 2) (Int32.toNatClampNeg x4))), (5, .int (m.I (sh_rf m.T 9 1) (Int32.toNatClampNeg x4))), (0, .ref 62), (3, .ref 24), (4, .int x4)]) (st2 := [.int (m.I (sh_rf m.T 9 1) (Int32.toNatClampNeg x4)), .ref ((sh_rf m.T 61 4) + 1), .int x4, .ref ((sh_rf m.T 61 4) + 1)]) (I2 := m.I) (J2 := sh_u2 m.J (sh_rf m.T 61 3) (Int32.toNatClampNeg x4) ((m.J (sh_rf m.T 61 3) (Int32.toNatClampNeg (m.I (sh_rf m.T 9 1) (Int32.toNatClampNeg x4)))) ^^^ (m.J (sh_rf m.T 61 3) (Int32.toNatClampNeg (m.I (sh_rf m.T 9 2) (Int32.toNatClampNeg x4)))))) (fun hT v kk => ?_) ?_
                · refine sh_ls1 (x := (m.J (sh_rf m.T 61 3) (Int32.toNatClampNeg (m.I (sh_rf m.T 9 1) (Int32.toNatClampNeg x4)))) ^^^ (m.J (sh_rf m.T 61 3) (Int32.toNatClampNeg (m.I (sh_rf m.T 9 2) (Int32.toNatClampNeg x4))))) (i := x4) (pc2 := 140) rfl hT.a61_3 (sh_okb1 c) (sh_okb2 c) rfl ?_
                  refine sh_w (i := (.aload_n 0)) (len := 1) (pc2 := 141) (lv2 := [(6, .int (m.I (sh_rf m.T 9 2) (Int32.toNatClampNeg x4))), (5, .int (m.I (sh_rf m.T 9 1) (Int32.toNatClampNeg x4))), (0, .ref 62), (3, .ref 24), (4, .int x4)]) (st2 := [.ref 62]) (h2 := (sh_rep m.T m.I (sh_u2 m.J (sh_rf m.T 61 3) (Int32.toNatClampNeg x4) ((m.J (sh_rf m.T 61 3) (Int32.toNatClampNeg (m.I (sh_rf m.T 9 1) (Int32.toNatClampNeg x4)))) ^^^ (m.J (sh_rf m.T 61 3) (Int32.toNatClampNeg (m.I (sh_rf m.T 9 2) (Int32.toNatClampNeg x4)))))))) rfl rfl rfl ?_
                  refine sh_gR1 (len := 3) (x := .ref (sh_rf m.T 61 4 + 1)) (pc2 := 144) rfl rfl hT.t61 rfl rfl ?_
                  refine sh_w (i := (.iload 4)) (len := 2) (pc2 := 146) (lv2 := [(6, .int (m.I (sh_rf m.T 9 2) (Int32.toNatClampNeg x4))), (5, .int (m.I (sh_rf m.T 9 1) (Int32.toNatClampNeg x4))), (0, .ref 62), (3, .ref 24), (4, .int x4)]) (st2 := [.int x4, .ref ((sh_rf m.T 61 4) + 1)]) (h2 := (sh_rep m.T m.I (sh_u2 m.J (sh_rf m.T 61 3) (Int32.toNatClampNeg x4) ((m.J (sh_rf m.T 61 3) (Int32.toNatClampNeg (m.I (sh_rf m.T 9 1) (Int32.toNatClampNeg x4)))) ^^^ (m.J (sh_rf m.T 61 3) (Int32.toNatClampNeg (m.I (sh_rf m.T 9 2) (Int32.toNatClampNeg x4)))))))) rfl rfl rfl ?_
                  refine sh_w (i := (.aload_n 0)) (len := 1) (pc2 := 147) (lv2 := [(6, .int (m.I (sh_rf m.T 9 2) (Int32.toNatClampNeg x4))), (5, .int (m.I (sh_rf m.T 9 1) (Int32.toNatClampNeg x4))), (0, .ref 62), (3, .ref 24), (4, .int x4)]) (st2 := [.ref 62, .int x4, .ref ((sh_rf m.T 61 4) + 1)]) (h2 := (sh_rep m.T m.I (sh_u2 m.J (sh_rf m.T 61 3) (Int32.toNatClampNeg x4) ((m.J (sh_rf m.T 61 3) (Int32.toNatClampNeg (m.I (sh_rf m.T 9 1) (Int32.toNatClampNeg x4)))) ^^^ (m.J (sh_rf m.T 61 3) (Int32.toNatClampNeg (m.I (sh_rf m.T 9 2) (Int32.toNatClampNeg x4)))))))) rfl rfl rfl ?_
                  refine sh_gR1 (len := 3) (x := .ref (sh_rf m.T 61 4 + 1)) (pc2 := 150) rfl rfl hT.t61 rfl rfl ?_
                  refine sh_w (i := (.iload 5)) (len := 2) (pc2 := 152) (lv2 := [(6, .int (m.I (sh_rf m.T 9 2) (Int32.toNatClampNeg x4))), (5, .int (m.I (sh_rf m.T 9 1) (Int32.toNatClampNeg x4))), (0, .ref 62), (3, .ref 24), (4, .int x4)]) (st2 := [.int (m.I (sh_rf m.T 9 1) (Int32.toNatClampNeg x4)), .ref ((sh_rf m.T 61 4) + 1), .int x4, .ref ((sh_rf m.T 61 4) + 1)]) (h2 := (sh_rep m.T m.I (sh_u2 m.J (sh_rf m.T 61 3) (Int32.toNatClampNeg x4) ((m.J (sh_rf m.T 61 3) (Int32.toNatClampNeg (m.I (sh_rf m.T 9 1) (Int32.toNatClampNeg x4)))) ^^^ (m.J (sh_rf m.T 61 3) (Int32.toNatClampNeg (m.I (sh_rf m.T 9 2) (Int32.toNatClampNeg x4)))))))) rfl rfl rfl ?_
                  exact kk
                obtain ⟨c, e⟩ := sh_gd e
                refine sh_Lk_lift (T := m.T) (I := m.I) (J := sh_u2 m.J (sh_rf m.T 61 3) (Int32.toNatClampNeg x4) ((m.J (sh_rf m.T 61 3) (Int32.toNatClampNeg (m.I (sh_rf m.T 9 1) (Int32.toNatClampNeg x4)))) ^^^ (m.J (sh_rf m.T 61 3) (Int32.toNatClampNeg (m.I (sh_rf m.T 9 2) (Int32.toNatClampNeg x4)))))) (s := m.s) (pc2 := 159) (lv2 := [(6, .int (m.I (sh_rf m.T 9 2) (Int32.toNatClampNeg x4))), (5, .int (m.I (sh_rf m.T 9 1) (Int32.toNatClampNeg x4))), (0, .ref 62), (3, .ref 24), (4, .int x4)]) (st2 := [.int (m.I (sh_rf m.T 9 2) (Int32.toNatClampNeg x4)), .ref ((sh_rf m.T 61 4) + 1), .long ((sh_u2 m.J (sh_rf m.T 61 3) (Int32.toNatClampNeg x4) ((m.J (sh_rf m.T 61 3) (Int32.toNatClampNeg (m.I (sh_rf m.T 9 1) (Int32.toNatClampNeg x4)))) ^^^ (m.J (sh_rf m.T 61 3) (Int32.toNatClampNeg (m.I (sh_rf m.T 9 2) (Int32.toNatClampNeg x4)))))) (sh_rf m.T 61 4) (Int32.toNatClampNeg (m.I (sh_rf m.T 9 1) (Int32.toNatClampNeg x4)))), .int x4, .ref ((sh_rf m.T 61 4) + 1)]) (I2 := m.I) (J2 := sh_u2 m.J (sh_rf m.T 61 3) (Int32.toNatClampNeg x4) ((m.J (sh_rf m.T 61 3) (Int32.toNatClampNeg (m.I (sh_rf m.T 9 1) (Int32.toNatClampNeg x4)))) ^^^ (m.J (sh_rf m.T 61 3) (Int32.toNatClampNeg (m.I (sh_rf m.T 9 2) (Int32.toNatClampNeg x4)))))) (fun hT v kk => ?_) ?_
                · refine sh_la1 (x := (sh_u2 m.J (sh_rf m.T 61 3) (Int32.toNatClampNeg x4) ((m.J (sh_rf m.T 61 3) (Int32.toNatClampNeg (m.I (sh_rf m.T 9 1) (Int32.toNatClampNeg x4)))) ^^^ (m.J (sh_rf m.T 61 3) (Int32.toNatClampNeg (m.I (sh_rf m.T 9 2) (Int32.toNatClampNeg x4)))))) (sh_rf m.T 61 4) (Int32.toNatClampNeg (m.I (sh_rf m.T 9 1) (Int32.toNatClampNeg x4)))) (pc2 := 153) rfl hT.a61_4 (sh_okb1 c) (sh_okb2 c) rfl rfl ?_
                  refine sh_w (i := (.aload_n 0)) (len := 1) (pc2 := 154) (lv2 := [(6, .int (m.I (sh_rf m.T 9 2) (Int32.toNatClampNeg x4))), (5, .int (m.I (sh_rf m.T 9 1) (Int32.toNatClampNeg x4))), (0, .ref 62), (3, .ref 24), (4, .int x4)]) (st2 := [.ref 62, .long ((sh_u2 m.J (sh_rf m.T 61 3) (Int32.toNatClampNeg x4) ((m.J (sh_rf m.T 61 3) (Int32.toNatClampNeg (m.I (sh_rf m.T 9 1) (Int32.toNatClampNeg x4)))) ^^^ (m.J (sh_rf m.T 61 3) (Int32.toNatClampNeg (m.I (sh_rf m.T 9 2) (Int32.toNatClampNeg x4)))))) (sh_rf m.T 61 4) (Int32.toNatClampNeg (m.I (sh_rf m.T 9 1) (Int32.toNatClampNeg x4)))), .int x4, .ref ((sh_rf m.T 61 4) + 1)]) (h2 := (sh_rep m.T m.I (sh_u2 m.J (sh_rf m.T 61 3) (Int32.toNatClampNeg x4) ((m.J (sh_rf m.T 61 3) (Int32.toNatClampNeg (m.I (sh_rf m.T 9 1) (Int32.toNatClampNeg x4)))) ^^^ (m.J (sh_rf m.T 61 3) (Int32.toNatClampNeg (m.I (sh_rf m.T 9 2) (Int32.toNatClampNeg x4)))))))) rfl rfl rfl ?_
                  refine sh_gR1 (len := 3) (x := .ref (sh_rf m.T 61 4 + 1)) (pc2 := 157) rfl rfl hT.t61 rfl rfl ?_
                  refine sh_w (i := (.iload 6)) (len := 2) (pc2 := 159) (lv2 := [(6, .int (m.I (sh_rf m.T 9 2) (Int32.toNatClampNeg x4))), (5, .int (m.I (sh_rf m.T 9 1) (Int32.toNatClampNeg x4))), (0, .ref 62), (3, .ref 24), (4, .int x4)]) (st2 := [.int (m.I (sh_rf m.T 9 2) (Int32.toNatClampNeg x4)), .ref ((sh_rf m.T 61 4) + 1), .long ((sh_u2 m.J (sh_rf m.T 61 3) (Int32.toNatClampNeg x4) ((m.J (sh_rf m.T 61 3) (Int32.toNatClampNeg (m.I (sh_rf m.T 9 1) (Int32.toNatClampNeg x4)))) ^^^ (m.J (sh_rf m.T 61 3) (Int32.toNatClampNeg (m.I (sh_rf m.T 9 2) (Int32.toNatClampNeg x4)))))) (sh_rf m.T 61 4) (Int32.toNatClampNeg (m.I (sh_rf m.T 9 1) (Int32.toNatClampNeg x4)))), .int x4, .ref ((sh_rf m.T 61 4) + 1)]) (h2 := (sh_rep m.T m.I (sh_u2 m.J (sh_rf m.T 61 3) (Int32.toNatClampNeg x4) ((m.J (sh_rf m.T 61 3) (Int32.toNatClampNeg (m.I (sh_rf m.T 9 1) (Int32.toNatClampNeg x4)))) ^^^ (m.J (sh_rf m.T 61 3) (Int32.toNatClampNeg (m.I (sh_rf m.T 9 2) (Int32.toNatClampNeg x4)))))))) rfl rfl rfl ?_
                  exact kk
                obtain ⟨c, e⟩ := sh_gd e
                refine sh_Lk_lift (T := m.T) (I := m.I) (J := sh_u2 m.J (sh_rf m.T 61 3) (Int32.toNatClampNeg x4) ((m.J (sh_rf m.T 61 3) (Int32.toNatClampNeg (m.I (sh_rf m.T 9 1) (Int32.toNatClampNeg x4)))) ^^^ (m.J (sh_rf m.T 61 3) (Int32.toNatClampNeg (m.I (sh_rf m.T 9 2) (Int32.toNatClampNeg x4)))))) (s := m.s) (pc2 := 161) (lv2 := [(6, .int (m.I (sh_rf m.T 9 2) (Int32.toNatClampNeg x4))), (5, .int (m.I (sh_rf m.T 9 1) (Int32.toNatClampNeg x4))), (0, .ref 62), (3, .ref 24), (4, .int x4)]) (st2 := [.long (((sh_u2 m.J (sh_rf m.T 61 3) (Int32.toNatClampNeg x4) ((m.J (sh_rf m.T 61 3) (Int32.toNatClampNeg (m.I (sh_rf m.T 9 1) (Int32.toNatClampNeg x4)))) ^^^ (m.J (sh_rf m.T 61 3) (Int32.toNatClampNeg (m.I (sh_rf m.T 9 2) (Int32.toNatClampNeg x4)))))) (sh_rf m.T 61 4) (Int32.toNatClampNeg (m.I (sh_rf m.T 9 1) (Int32.toNatClampNeg x4)))) ^^^ ((sh_u2 m.J (sh_rf m.T 61 3) (Int32.toNatClampNeg x4) ((m.J (sh_rf m.T 61 3) (Int32.toNatClampNeg (m.I (sh_rf m.T 9 1) (Int32.toNatClampNeg x4)))) ^^^ (m.J (sh_rf m.T 61 3) (Int32.toNatClampNeg (m.I (sh_rf m.T 9 2) (Int32.toNatClampNeg x4)))))) (sh_rf m.T 61 4) (Int32.toNatClampNeg (m.I (sh_rf m.T 9 2) (Int32.toNatClampNeg x4))))), .int x4, .ref ((sh_rf m.T 61 4) + 1)]) (I2 := m.I) (J2 := sh_u2 m.J (sh_rf m.T 61 3) (Int32.toNatClampNeg x4) ((m.J (sh_rf m.T 61 3) (Int32.toNatClampNeg (m.I (sh_rf m.T 9 1) (Int32.toNatClampNeg x4)))) ^^^ (m.J (sh_rf m.T 61 3) (Int32.toNatClampNeg (m.I (sh_rf m.T 9 2) (Int32.toNatClampNeg x4)))))) (fun hT v kk => ?_) ?_
                · refine sh_la1 (x := (sh_u2 m.J (sh_rf m.T 61 3) (Int32.toNatClampNeg x4) ((m.J (sh_rf m.T 61 3) (Int32.toNatClampNeg (m.I (sh_rf m.T 9 1) (Int32.toNatClampNeg x4)))) ^^^ (m.J (sh_rf m.T 61 3) (Int32.toNatClampNeg (m.I (sh_rf m.T 9 2) (Int32.toNatClampNeg x4)))))) (sh_rf m.T 61 4) (Int32.toNatClampNeg (m.I (sh_rf m.T 9 2) (Int32.toNatClampNeg x4)))) (pc2 := 160) rfl hT.a61_4 (sh_okb1 c) (sh_okb2 c) rfl rfl ?_
                  refine sh_w (i := .lxor) (len := 1) (pc2 := 161) (lv2 := [(6, .int (m.I (sh_rf m.T 9 2) (Int32.toNatClampNeg x4))), (5, .int (m.I (sh_rf m.T 9 1) (Int32.toNatClampNeg x4))), (0, .ref 62), (3, .ref 24), (4, .int x4)]) (st2 := [.long (((sh_u2 m.J (sh_rf m.T 61 3) (Int32.toNatClampNeg x4) ((m.J (sh_rf m.T 61 3) (Int32.toNatClampNeg (m.I (sh_rf m.T 9 1) (Int32.toNatClampNeg x4)))) ^^^ (m.J (sh_rf m.T 61 3) (Int32.toNatClampNeg (m.I (sh_rf m.T 9 2) (Int32.toNatClampNeg x4)))))) (sh_rf m.T 61 4) (Int32.toNatClampNeg (m.I (sh_rf m.T 9 1) (Int32.toNatClampNeg x4)))) ^^^ ((sh_u2 m.J (sh_rf m.T 61 3) (Int32.toNatClampNeg x4) ((m.J (sh_rf m.T 61 3) (Int32.toNatClampNeg (m.I (sh_rf m.T 9 1) (Int32.toNatClampNeg x4)))) ^^^ (m.J (sh_rf m.T 61 3) (Int32.toNatClampNeg (m.I (sh_rf m.T 9 2) (Int32.toNatClampNeg x4)))))) (sh_rf m.T 61 4) (Int32.toNatClampNeg (m.I (sh_rf m.T 9 2) (Int32.toNatClampNeg x4))))), .int x4, .ref ((sh_rf m.T 61 4) + 1)]) (h2 := (sh_rep m.T m.I (sh_u2 m.J (sh_rf m.T 61 3) (Int32.toNatClampNeg x4) ((m.J (sh_rf m.T 61 3) (Int32.toNatClampNeg (m.I (sh_rf m.T 9 1) (Int32.toNatClampNeg x4)))) ^^^ (m.J (sh_rf m.T 61 3) (Int32.toNatClampNeg (m.I (sh_rf m.T 9 2) (Int32.toNatClampNeg x4)))))))) rfl rfl rfl ?_
                  exact kk
                obtain ⟨c, e⟩ := sh_gd e
                refine sh_Lk_lift (T := m.T) (I := m.I) (J := sh_u2 m.J (sh_rf m.T 61 3) (Int32.toNatClampNeg x4) ((m.J (sh_rf m.T 61 3) (Int32.toNatClampNeg (m.I (sh_rf m.T 9 1) (Int32.toNatClampNeg x4)))) ^^^ (m.J (sh_rf m.T 61 3) (Int32.toNatClampNeg (m.I (sh_rf m.T 9 2) (Int32.toNatClampNeg x4)))))) (s := m.s) (pc2 := 219) (lv2 := [(6, .int (m.I (sh_rf m.T 9 2) (Int32.toNatClampNeg x4))), (5, .int (m.I (sh_rf m.T 9 1) (Int32.toNatClampNeg x4))), (0, .ref 62), (3, .ref 24), (4, .int x4)]) (st2 := []) (I2 := m.I) (J2 := sh_u2 (sh_u2 m.J (sh_rf m.T 61 3) (Int32.toNatClampNeg x4) ((m.J (sh_rf m.T 61 3) (Int32.toNatClampNeg (m.I (sh_rf m.T 9 1) (Int32.toNatClampNeg x4)))) ^^^ (m.J (sh_rf m.T 61 3) (Int32.toNatClampNeg (m.I (sh_rf m.T 9 2) (Int32.toNatClampNeg x4)))))) (sh_rf m.T 61 4) (Int32.toNatClampNeg x4) (((sh_u2 m.J (sh_rf m.T 61 3) (Int32.toNatClampNeg x4) ((m.J (sh_rf m.T 61 3) (Int32.toNatClampNeg (m.I (sh_rf m.T 9 1) (Int32.toNatClampNeg x4)))) ^^^ (m.J (sh_rf m.T 61 3) (Int32.toNatClampNeg (m.I (sh_rf m.T 9 2) (Int32.toNatClampNeg x4)))))) (sh_rf m.T 61 4) (Int32.toNatClampNeg (m.I (sh_rf m.T 9 1) (Int32.toNatClampNeg x4)))) ^^^ ((sh_u2 m.J (sh_rf m.T 61 3) (Int32.toNatClampNeg x4) ((m.J (sh_rf m.T 61 3) (Int32.toNatClampNeg (m.I (sh_rf m.T 9 1) (Int32.toNatClampNeg x4)))) ^^^ (m.J (sh_rf m.T 61 3) (Int32.toNatClampNeg (m.I (sh_rf m.T 9 2) (Int32.toNatClampNeg x4)))))) (sh_rf m.T 61 4) (Int32.toNatClampNeg (m.I (sh_rf m.T 9 2) (Int32.toNatClampNeg x4)))))) (fun hT v kk => ?_) ?_
                · refine sh_ls1 (x := ((sh_u2 m.J (sh_rf m.T 61 3) (Int32.toNatClampNeg x4) ((m.J (sh_rf m.T 61 3) (Int32.toNatClampNeg (m.I (sh_rf m.T 9 1) (Int32.toNatClampNeg x4)))) ^^^ (m.J (sh_rf m.T 61 3) (Int32.toNatClampNeg (m.I (sh_rf m.T 9 2) (Int32.toNatClampNeg x4)))))) (sh_rf m.T 61 4) (Int32.toNatClampNeg (m.I (sh_rf m.T 9 1) (Int32.toNatClampNeg x4)))) ^^^ ((sh_u2 m.J (sh_rf m.T 61 3) (Int32.toNatClampNeg x4) ((m.J (sh_rf m.T 61 3) (Int32.toNatClampNeg (m.I (sh_rf m.T 9 1) (Int32.toNatClampNeg x4)))) ^^^ (m.J (sh_rf m.T 61 3) (Int32.toNatClampNeg (m.I (sh_rf m.T 9 2) (Int32.toNatClampNeg x4)))))) (sh_rf m.T 61 4) (Int32.toNatClampNeg (m.I (sh_rf m.T 9 2) (Int32.toNatClampNeg x4))))) (i := x4) (pc2 := 162) rfl hT.a61_4 (sh_okb1 c) (sh_okb2 c) rfl ?_
                  refine sh_w (i := (.goto 57)) (len := 3) (pc2 := 219) (lv2 := [(6, .int (m.I (sh_rf m.T 9 2) (Int32.toNatClampNeg x4))), (5, .int (m.I (sh_rf m.T 9 1) (Int32.toNatClampNeg x4))), (0, .ref 62), (3, .ref 24), (4, .int x4)]) (st2 := []) (h2 := (sh_rep m.T m.I (sh_u2 (sh_u2 m.J (sh_rf m.T 61 3) (Int32.toNatClampNeg x4) ((m.J (sh_rf m.T 61 3) (Int32.toNatClampNeg (m.I (sh_rf m.T 9 1) (Int32.toNatClampNeg x4)))) ^^^ (m.J (sh_rf m.T 61 3) (Int32.toNatClampNeg (m.I (sh_rf m.T 9 2) (Int32.toNatClampNeg x4)))))) (sh_rf m.T 61 4) (Int32.toNatClampNeg x4) (((sh_u2 m.J (sh_rf m.T 61 3) (Int32.toNatClampNeg x4) ((m.J (sh_rf m.T 61 3) (Int32.toNatClampNeg (m.I (sh_rf m.T 9 1) (Int32.toNatClampNeg x4)))) ^^^ (m.J (sh_rf m.T 61 3) (Int32.toNatClampNeg (m.I (sh_rf m.T 9 2) (Int32.toNatClampNeg x4)))))) (sh_rf m.T 61 4) (Int32.toNatClampNeg (m.I (sh_rf m.T 9 1) (Int32.toNatClampNeg x4)))) ^^^ ((sh_u2 m.J (sh_rf m.T 61 3) (Int32.toNatClampNeg x4) ((m.J (sh_rf m.T 61 3) (Int32.toNatClampNeg (m.I (sh_rf m.T 9 1) (Int32.toNatClampNeg x4)))) ^^^ (m.J (sh_rf m.T 61 3) (Int32.toNatClampNeg (m.I (sh_rf m.T 9 2) (Int32.toNatClampNeg x4)))))) (sh_rf m.T 61 4) (Int32.toNatClampNeg (m.I (sh_rf m.T 9 2) (Int32.toNatClampNeg x4)))))))) rfl rfl rfl ?_
                  exact kk
                exact sh_Lk_sub (sh_sub_c rfl (sh_sub_c rfl (sh_sub_c rfl (sh_sub_n)))) (sl_220_219 e tg)
              · refine sh_Lk_lift (T := m.T) (I := m.I) (J := m.J) (s := m.s) (pc2 := 174) (lv2 := [(6, .int (m.I (sh_rf m.T 9 2) (Int32.toNatClampNeg x4))), (5, .int (m.I (sh_rf m.T 9 1) (Int32.toNatClampNeg x4))), (0, .ref 62), (3, .ref 24), (4, .int x4)]) (st2 := [.int x4, .ref ((sh_rf m.T 9 0) + 1)]) (I2 := m.I) (J2 := m.J) (fun hT v kk => ?_) ?_
                · refine sh_jc (c := .ne) (off := (50)) (pc2 := 165) true rfl (sh_Bnet c) rfl ?_
                  refine sh_w (i := (.aload_n 0)) (len := 1) (pc2 := 166) (lv2 := [(6, .int (m.I (sh_rf m.T 9 2) (Int32.toNatClampNeg x4))), (5, .int (m.I (sh_rf m.T 9 1) (Int32.toNatClampNeg x4))), (0, .ref 62), (3, .ref 24), (4, .int x4)]) (st2 := [.ref 62]) (h2 := (sh_rep m.T m.I m.J)) rfl rfl rfl ?_
                  refine sh_gR1 (len := 3) (x := .ref 10) (pc2 := 169) rfl rfl hT.t61 rfl rfl ?_
                  refine sh_gR1 (len := 3) (x := .ref (sh_rf m.T 9 0 + 1)) (pc2 := 172) rfl rfl hT.t9 rfl rfl ?_
                  refine sh_w (i := (.iload 4)) (len := 2) (pc2 := 174) (lv2 := [(6, .int (m.I (sh_rf m.T 9 2) (Int32.toNatClampNeg x4))), (5, .int (m.I (sh_rf m.T 9 1) (Int32.toNatClampNeg x4))), (0, .ref 62), (3, .ref 24), (4, .int x4)]) (st2 := [.int x4, .ref ((sh_rf m.T 9 0) + 1)]) (h2 := (sh_rep m.T m.I m.J)) rfl rfl rfl ?_
                  exact kk
                obtain ⟨c, e⟩ := sh_gd e
                refine sh_Lk_lift (T := m.T) (I := m.I) (J := m.J) (s := m.s) (pc2 := 176) (lv2 := [(6, .int (m.I (sh_rf m.T 9 2) (Int32.toNatClampNeg x4))), (5, .int (m.I (sh_rf m.T 9 1) (Int32.toNatClampNeg x4))), (0, .ref 62), (3, .ref 24), (4, .int x4)]) (st2 := [.int 2, .int (m.I (sh_rf m.T 9 0) (Int32.toNatClampNeg x4))]) (I2 := m.I) (J2 := m.J) (fun hT v kk => ?_) ?_
                · refine sh_ba1 (x := m.I (sh_rf m.T 9 0) (Int32.toNatClampNeg x4)) (pc2 := 175) rfl hT.a9_0 (Or.inl rfl) (sh_okb1 c) (sh_okb2 c) rfl rfl ?_
                  refine sh_w (i := (.iconst 2)) (len := 1) (pc2 := 176) (lv2 := [(6, .int (m.I (sh_rf m.T 9 2) (Int32.toNatClampNeg x4))), (5, .int (m.I (sh_rf m.T 9 1) (Int32.toNatClampNeg x4))), (0, .ref 62), (3, .ref 24), (4, .int x4)]) (st2 := [.int 2, .int (m.I (sh_rf m.T 9 0) (Int32.toNatClampNeg x4))]) (h2 := (sh_rep m.T m.I m.J)) rfl rfl rfl ?_
                  exact kk
                rcases sh_ite e with ⟨c, e⟩ | ⟨c, e⟩
                · refine sh_Lk_lift (T := m.T) (I := m.I) (J := m.J) (s := m.s) (pc2 := 188) (lv2 := [(6, .int (m.I (sh_rf m.T 9 2) (Int32.toNatClampNeg x4))), (5, .int (m.I (sh_rf m.T 9 1) (Int32.toNatClampNeg x4))), (0, .ref 62), (3, .ref 24), (4, .int x4)]) (st2 := [.int (m.I (sh_rf m.T 9 1) (Int32.toNatClampNeg x4)), .ref ((sh_rf m.T 61 3) + 1), .int x4, .ref 62]) (I2 := m.I) (J2 := m.J) (fun hT v kk => ?_) ?_
                  · refine sh_jc (c := .ne) (off := (43)) (pc2 := 179) false rfl (sh_Bnef c) rfl ?_
                    refine sh_w (i := (.aload_n 0)) (len := 1) (pc2 := 180) (lv2 := [(6, .int (m.I (sh_rf m.T 9 2) (Int32.toNatClampNeg x4))), (5, .int (m.I (sh_rf m.T 9 1) (Int32.toNatClampNeg x4))), (0, .ref 62), (3, .ref 24), (4, .int x4)]) (st2 := [.ref 62]) (h2 := (sh_rep m.T m.I m.J)) rfl rfl rfl ?_
                    refine sh_w (i := (.iload 4)) (len := 2) (pc2 := 182) (lv2 := [(6, .int (m.I (sh_rf m.T 9 2) (Int32.toNatClampNeg x4))), (5, .int (m.I (sh_rf m.T 9 1) (Int32.toNatClampNeg x4))), (0, .ref 62), (3, .ref 24), (4, .int x4)]) (st2 := [.int x4, .ref 62]) (h2 := (sh_rep m.T m.I m.J)) rfl rfl rfl ?_
                    refine sh_w (i := (.aload_n 0)) (len := 1) (pc2 := 183) (lv2 := [(6, .int (m.I (sh_rf m.T 9 2) (Int32.toNatClampNeg x4))), (5, .int (m.I (sh_rf m.T 9 1) (Int32.toNatClampNeg x4))), (0, .ref 62), (3, .ref 24), (4, .int x4)]) (st2 := [.ref 62, .int x4, .ref 62]) (h2 := (sh_rep m.T m.I m.J)) rfl rfl rfl ?_
                    refine sh_gR1 (len := 3) (x := .ref (sh_rf m.T 61 3 + 1)) (pc2 := 186) rfl rfl hT.t61 rfl rfl ?_
                    refine sh_w (i := (.iload 5)) (len := 2) (pc2 := 188) (lv2 := [(6, .int (m.I (sh_rf m.T 9 2) (Int32.toNatClampNeg x4))), (5, .int (m.I (sh_rf m.T 9 1) (Int32.toNatClampNeg x4))), (0, .ref 62), (3, .ref 24), (4, .int x4)]) (st2 := [.int (m.I (sh_rf m.T 9 1) (Int32.toNatClampNeg x4)), .ref ((sh_rf m.T 61 3) + 1), .int x4, .ref 62]) (h2 := (sh_rep m.T m.I m.J)) rfl rfl rfl ?_
                    exact kk
                  obtain ⟨c, e⟩ := sh_gd e
                  refine sh_Lk_lift (T := m.T) (I := m.I) (J := m.J) (s := m.s) (pc2 := 195) (lv2 := [(6, .int (m.I (sh_rf m.T 9 2) (Int32.toNatClampNeg x4))), (5, .int (m.I (sh_rf m.T 9 1) (Int32.toNatClampNeg x4))), (0, .ref 62), (3, .ref 24), (4, .int x4)]) (st2 := [.int (m.I (sh_rf m.T 9 2) (Int32.toNatClampNeg x4)), .ref ((sh_rf m.T 61 3) + 1), .long (m.J (sh_rf m.T 61 3) (Int32.toNatClampNeg (m.I (sh_rf m.T 9 1) (Int32.toNatClampNeg x4)))), .int x4, .ref 62]) (I2 := m.I) (J2 := m.J) (fun hT v kk => ?_) ?_
                  · refine sh_la1 (x := m.J (sh_rf m.T 61 3) (Int32.toNatClampNeg (m.I (sh_rf m.T 9 1) (Int32.toNatClampNeg x4)))) (pc2 := 189) rfl hT.a61_3 (sh_okb1 c) (sh_okb2 c) rfl rfl ?_
                    refine sh_w (i := (.aload_n 0)) (len := 1) (pc2 := 190) (lv2 := [(6, .int (m.I (sh_rf m.T 9 2) (Int32.toNatClampNeg x4))), (5, .int (m.I (sh_rf m.T 9 1) (Int32.toNatClampNeg x4))), (0, .ref 62), (3, .ref 24), (4, .int x4)]) (st2 := [.ref 62, .long (m.J (sh_rf m.T 61 3) (Int32.toNatClampNeg (m.I (sh_rf m.T 9 1) (Int32.toNatClampNeg x4)))), .int x4, .ref 62]) (h2 := (sh_rep m.T m.I m.J)) rfl rfl rfl ?_
                    refine sh_gR1 (len := 3) (x := .ref (sh_rf m.T 61 3 + 1)) (pc2 := 193) rfl rfl hT.t61 rfl rfl ?_
                    refine sh_w (i := (.iload 6)) (len := 2) (pc2 := 195) (lv2 := [(6, .int (m.I (sh_rf m.T 9 2) (Int32.toNatClampNeg x4))), (5, .int (m.I (sh_rf m.T 9 1) (Int32.toNatClampNeg x4))), (0, .ref 62), (3, .ref 24), (4, .int x4)]) (st2 := [.int (m.I (sh_rf m.T 9 2) (Int32.toNatClampNeg x4)), .ref ((sh_rf m.T 61 3) + 1), .long (m.J (sh_rf m.T 61 3) (Int32.toNatClampNeg (m.I (sh_rf m.T 9 1) (Int32.toNatClampNeg x4)))), .int x4, .ref 62]) (h2 := (sh_rep m.T m.I m.J)) rfl rfl rfl ?_
                    exact kk
                  obtain ⟨c, e⟩ := sh_gd e
                  refine sh_Lk_lift (T := m.T) (I := m.I) (J := m.J) (s := m.s) (pc2 := 196) (lv2 := [(6, .int (m.I (sh_rf m.T 9 2) (Int32.toNatClampNeg x4))), (5, .int (m.I (sh_rf m.T 9 1) (Int32.toNatClampNeg x4))), (0, .ref 62), (3, .ref 24), (4, .int x4)]) (st2 := [.long (m.J (sh_rf m.T 61 3) (Int32.toNatClampNeg (m.I (sh_rf m.T 9 2) (Int32.toNatClampNeg x4)))), .long (m.J (sh_rf m.T 61 3) (Int32.toNatClampNeg (m.I (sh_rf m.T 9 1) (Int32.toNatClampNeg x4)))), .int x4, .ref 62]) (I2 := m.I) (J2 := m.J) (fun hT v kk => ?_) ?_
                  · refine sh_la1 (x := m.J (sh_rf m.T 61 3) (Int32.toNatClampNeg (m.I (sh_rf m.T 9 2) (Int32.toNatClampNeg x4)))) (pc2 := 196) rfl hT.a61_3 (sh_okb1 c) (sh_okb2 c) rfl rfl ?_
                    exact kk
                  obtain ⟨r2, m12, e2, e⟩ := sh_bn_e e
                  refine sh_Lk_cV (r := none) (st2 := []) (pc2 := 199) (k2 := 231) (a := 61) (as := [.ref 62, .int x4, .long (m.J (sh_rf m.T 61 3) (Int32.toNatClampNeg (m.I (sh_rf m.T 9 1) (Int32.toNatClampNeg x4)))), .long (m.J (sh_rf m.T 61 3) (Int32.toNatClampNeg (m.I (sh_rf m.T 9 2) (Int32.toNatClampNeg x4))))]) (rest := []) rfl rfl rfl (fun hT => hT.t61) rfl rfl ⟨Nat.le_of_ble_eq_true rfl, Nat.le_of_ble_eq_true rfl⟩ (sl_231 e2 ⟨rfl, rfl⟩) rfl rfl (Nat.le_of_ble_eq_true rfl) (Nat.le_of_ble_eq_true rfl) ?_
                  refine sh_Lk_lift (T := m12.T) (I := m12.I) (J := m12.J) (s := m12.s) (pc2 := 208) (lv2 := [(6, .int (m.I (sh_rf m.T 9 2) (Int32.toNatClampNeg x4))), (5, .int (m.I (sh_rf m.T 9 1) (Int32.toNatClampNeg x4))), (0, .ref 62), (3, .ref 24), (4, .int x4)]) (st2 := [.int (m.I (sh_rf m.T 9 1) (Int32.toNatClampNeg x4)), .ref ((sh_rf m12.T 61 4) + 1), .int x4, .ref 62]) (I2 := m12.I) (J2 := m12.J) (fun hT v kk => ?_) ?_
                  · refine sh_w (i := (.aload_n 0)) (len := 1) (pc2 := 200) (lv2 := [(6, .int (m.I (sh_rf m.T 9 2) (Int32.toNatClampNeg x4))), (5, .int (m.I (sh_rf m.T 9 1) (Int32.toNatClampNeg x4))), (0, .ref 62), (3, .ref 24), (4, .int x4)]) (st2 := [.ref 62]) (h2 := (sh_rep m12.T m12.I m12.J)) rfl rfl rfl ?_
                    refine sh_w (i := (.iload 4)) (len := 2) (pc2 := 202) (lv2 := [(6, .int (m.I (sh_rf m.T 9 2) (Int32.toNatClampNeg x4))), (5, .int (m.I (sh_rf m.T 9 1) (Int32.toNatClampNeg x4))), (0, .ref 62), (3, .ref 24), (4, .int x4)]) (st2 := [.int x4, .ref 62]) (h2 := (sh_rep m12.T m12.I m12.J)) rfl rfl rfl ?_
                    refine sh_w (i := (.aload_n 0)) (len := 1) (pc2 := 203) (lv2 := [(6, .int (m.I (sh_rf m.T 9 2) (Int32.toNatClampNeg x4))), (5, .int (m.I (sh_rf m.T 9 1) (Int32.toNatClampNeg x4))), (0, .ref 62), (3, .ref 24), (4, .int x4)]) (st2 := [.ref 62, .int x4, .ref 62]) (h2 := (sh_rep m12.T m12.I m12.J)) rfl rfl rfl ?_
                    refine sh_gR1 (len := 3) (x := .ref (sh_rf m12.T 61 4 + 1)) (pc2 := 206) rfl rfl hT.t61 rfl rfl ?_
                    refine sh_w (i := (.iload 5)) (len := 2) (pc2 := 208) (lv2 := [(6, .int (m.I (sh_rf m.T 9 2) (Int32.toNatClampNeg x4))), (5, .int (m.I (sh_rf m.T 9 1) (Int32.toNatClampNeg x4))), (0, .ref 62), (3, .ref 24), (4, .int x4)]) (st2 := [.int (m.I (sh_rf m.T 9 1) (Int32.toNatClampNeg x4)), .ref ((sh_rf m12.T 61 4) + 1), .int x4, .ref 62]) (h2 := (sh_rep m12.T m12.I m12.J)) rfl rfl rfl ?_
                    exact kk
                  obtain ⟨c, e⟩ := sh_gd e
                  refine sh_Lk_lift (T := m12.T) (I := m12.I) (J := m12.J) (s := m12.s) (pc2 := 215) (lv2 := [(6, .int (m.I (sh_rf m.T 9 2) (Int32.toNatClampNeg x4))), (5, .int (m.I (sh_rf m.T 9 1) (Int32.toNatClampNeg x4))), (0, .ref 62), (3, .ref 24), (4, .int x4)]) (st2 := [.int (m.I (sh_rf m.T 9 2) (Int32.toNatClampNeg x4)), .ref ((sh_rf m12.T 61 4) + 1), .long (m12.J (sh_rf m12.T 61 4) (Int32.toNatClampNeg (m.I (sh_rf m.T 9 1) (Int32.toNatClampNeg x4)))), .int x4, .ref 62]) (I2 := m12.I) (J2 := m12.J) (fun hT v kk => ?_) ?_
                  · refine sh_la1 (x := m12.J (sh_rf m12.T 61 4) (Int32.toNatClampNeg (m.I (sh_rf m.T 9 1) (Int32.toNatClampNeg x4)))) (pc2 := 209) rfl hT.a61_4 (sh_okb1 c) (sh_okb2 c) rfl rfl ?_
                    refine sh_w (i := (.aload_n 0)) (len := 1) (pc2 := 210) (lv2 := [(6, .int (m.I (sh_rf m.T 9 2) (Int32.toNatClampNeg x4))), (5, .int (m.I (sh_rf m.T 9 1) (Int32.toNatClampNeg x4))), (0, .ref 62), (3, .ref 24), (4, .int x4)]) (st2 := [.ref 62, .long (m12.J (sh_rf m12.T 61 4) (Int32.toNatClampNeg (m.I (sh_rf m.T 9 1) (Int32.toNatClampNeg x4)))), .int x4, .ref 62]) (h2 := (sh_rep m12.T m12.I m12.J)) rfl rfl rfl ?_
                    refine sh_gR1 (len := 3) (x := .ref (sh_rf m12.T 61 4 + 1)) (pc2 := 213) rfl rfl hT.t61 rfl rfl ?_
                    refine sh_w (i := (.iload 6)) (len := 2) (pc2 := 215) (lv2 := [(6, .int (m.I (sh_rf m.T 9 2) (Int32.toNatClampNeg x4))), (5, .int (m.I (sh_rf m.T 9 1) (Int32.toNatClampNeg x4))), (0, .ref 62), (3, .ref 24), (4, .int x4)]) (st2 := [.int (m.I (sh_rf m.T 9 2) (Int32.toNatClampNeg x4)), .ref ((sh_rf m12.T 61 4) + 1), .long (m12.J (sh_rf m12.T 61 4) (Int32.toNatClampNeg (m.I (sh_rf m.T 9 1) (Int32.toNatClampNeg x4)))), .int x4, .ref 62]) (h2 := (sh_rep m12.T m12.I m12.J)) rfl rfl rfl ?_
                    exact kk
                  obtain ⟨c, e⟩ := sh_gd e
                  refine sh_Lk_lift (T := m12.T) (I := m12.I) (J := m12.J) (s := m12.s) (pc2 := 216) (lv2 := [(6, .int (m.I (sh_rf m.T 9 2) (Int32.toNatClampNeg x4))), (5, .int (m.I (sh_rf m.T 9 1) (Int32.toNatClampNeg x4))), (0, .ref 62), (3, .ref 24), (4, .int x4)]) (st2 := [.long (m12.J (sh_rf m12.T 61 4) (Int32.toNatClampNeg (m.I (sh_rf m.T 9 2) (Int32.toNatClampNeg x4)))), .long (m12.J (sh_rf m12.T 61 4) (Int32.toNatClampNeg (m.I (sh_rf m.T 9 1) (Int32.toNatClampNeg x4)))), .int x4, .ref 62]) (I2 := m12.I) (J2 := m12.J) (fun hT v kk => ?_) ?_
                  · refine sh_la1 (x := m12.J (sh_rf m12.T 61 4) (Int32.toNatClampNeg (m.I (sh_rf m.T 9 2) (Int32.toNatClampNeg x4)))) (pc2 := 216) rfl hT.a61_4 (sh_okb1 c) (sh_okb2 c) rfl rfl ?_
                    exact kk
                  obtain ⟨r3, m13, e3, e⟩ := sh_bn_e e
                  refine sh_Lk_cV (r := none) (st2 := []) (pc2 := 219) (k2 := 233) (a := 61) (as := [.ref 62, .int x4, .long (m12.J (sh_rf m12.T 61 4) (Int32.toNatClampNeg (m.I (sh_rf m.T 9 1) (Int32.toNatClampNeg x4)))), .long (m12.J (sh_rf m12.T 61 4) (Int32.toNatClampNeg (m.I (sh_rf m.T 9 2) (Int32.toNatClampNeg x4))))]) (rest := []) rfl rfl rfl (fun hT => hT.t61) rfl rfl ⟨Nat.le_of_ble_eq_true rfl, Nat.le_of_ble_eq_true rfl⟩ (sl_233 e3 ⟨rfl, rfl⟩) rfl rfl (Nat.le_of_ble_eq_true rfl) (Nat.le_of_ble_eq_true rfl) ?_
                  exact sh_Lk_sub (sh_sub_c rfl (sh_sub_c rfl (sh_sub_c rfl (sh_sub_n)))) (sl_220_219 e tg)
                · refine sh_Lk_lift (T := m.T) (I := m.I) (J := m.J) (s := m.s) (pc2 := 219) (lv2 := [(6, .int (m.I (sh_rf m.T 9 2) (Int32.toNatClampNeg x4))), (5, .int (m.I (sh_rf m.T 9 1) (Int32.toNatClampNeg x4))), (0, .ref 62), (3, .ref 24), (4, .int x4)]) (st2 := []) (I2 := m.I) (J2 := m.J) (fun hT v kk => ?_) ?_
                  · refine sh_jc (c := .ne) (off := (43)) (pc2 := 219) true rfl (sh_Bnet c) rfl ?_
                    exact kk
                  exact sh_Lk_sub (sh_sub_c rfl (sh_sub_c rfl (sh_sub_c rfl (sh_sub_n)))) (sl_220_219 e tg)
            · refine sh_Lk_lift (T := m.T) (I := m.I) (J := m.J) (s := m.s) (pc2 := 219) (lv2 := [(6, .int (m.I (sh_rf m.T 9 2) (Int32.toNatClampNeg x4))), (5, .int (m.I (sh_rf m.T 9 1) (Int32.toNatClampNeg x4))), (0, .ref 62), (3, .ref 24), (4, .int x4)]) (st2 := []) (I2 := m.I) (J2 := m.J) (fun hT v kk => ?_) ?_
              · refine sh_jc (c := .lt) (off := (6)) (pc2 := 101) false rfl (sh_Bltf c) rfl ?_
                refine sh_w (i := (.goto 118)) (len := 3) (pc2 := 219) (lv2 := [(6, .int (m.I (sh_rf m.T 9 2) (Int32.toNatClampNeg x4))), (5, .int (m.I (sh_rf m.T 9 1) (Int32.toNatClampNeg x4))), (0, .ref 62), (3, .ref 24), (4, .int x4)]) (st2 := []) (h2 := (sh_rep m.T m.I m.J)) rfl rfl rfl ?_
                exact kk
              exact sh_Lk_sub (sh_sub_c rfl (sh_sub_c rfl (sh_sub_c rfl (sh_sub_n)))) (sl_220_219 e tg)
        · refine sh_Lk_lift (T := m.T) (I := m.I) (J := m.J) (s := m.s) (pc2 := 219) (lv2 := [(6, .int (m.I (sh_rf m.T 9 2) (Int32.toNatClampNeg x4))), (5, .int (m.I (sh_rf m.T 9 1) (Int32.toNatClampNeg x4))), (0, .ref 62), (3, .ref 24), (4, .int x4)]) (st2 := []) (I2 := m.I) (J2 := m.J) (fun hT v kk => ?_) ?_
          · refine sh_jc (c := .ge) (off := (133)) (pc2 := 219) true rfl (sh_Bget c) rfl ?_
            exact kk
          exact sh_Lk_sub (sh_sub_c rfl (sh_sub_c rfl (sh_sub_c rfl (sh_sub_n)))) (sl_220_219 e tg)
    · refine sh_Lk_lift (T := m.T) (I := m.I) (J := m.J) (s := m.s) (pc2 := 225) (lv2 := [(0, .ref 62), (3, .ref 24), (4, .int x4)]) (st2 := []) (I2 := m.I) (J2 := m.J) (fun hT v kk => ?_) ?_
      · refine sh_j0 (c := .eq) (off := (175)) (pc2 := 225) true rfl (sh_Zeqt c) rfl ?_
        exact kk
      obtain ⟨_, eu, rfl⟩ := sh_up_e e
      exact sh_Lk_sub (sh_sub_c rfl (sh_sub_c rfl (sh_sub_n))) (sl_220_225 eu tg)
  · refine sh_Lk_lift (T := m.T) (I := m.I) (J := m.J) (s := m.s) (pc2 := 225) (lv2 := [(0, .ref 62), (3, .ref 24), (4, .int x4)]) (st2 := []) (I2 := m.I) (J2 := m.J) (fun hT v kk => ?_) ?_
    · refine sh_jc (c := .ge) (off := (184)) (pc2 := 225) true rfl (sh_Bget c) rfl ?_
      exact kk
    obtain ⟨_, eu, rfl⟩ := sh_up_e e
    exact sh_Lk_sub (sh_sub_c rfl (sh_sub_c rfl (sh_sub_n))) (sl_220_225 eu tg)
theorem sl_220_32 {x4 : Int32} {m m2 : sh_X} {o : Outcome} {z : (Unit × sh_X)} (e : sf_220_32 x4 m = some z) (tg : (sh_tV o m2) z) : sh_Lk 220 32 [(0, .ref 62), (3, .ref 24), (4, .int x4)] [] m o m2 12 303 := by
  unfold sf_220_32 at e
  exact sh_while_lk (P := fun q => sh_Lk 220 32 [(0, .ref 62), (3, .ref 24), (4, .int q.1)] [] q.2 o m2 12 303) (Q := (sh_tV o m2)) (fun q z e tg => sl_220_32s (x4 := q.1) (m := q.2) e tg) (s := (x4, m)) e tg
theorem sl_220 {m m2 : sh_X} {o : Outcome} {z : (Unit × sh_X)} (e : sf_220 m = some z) (tg : (sh_tV o m2) z) : sh_Lk 220 0 [(0, .ref 62), (1, .ref 14), (2, .ref 19), (3, .ref 24)] [] m o m2 12 303 := by
  unfold sf_220 at e
  refine sh_Lk_lift (T := m.T) (I := m.I) (J := m.J) (s := m.s) (pc2 := 1) (lv2 := [(0, .ref 62), (1, .ref 14), (2, .ref 19), (3, .ref 24)]) (st2 := [.ref 62]) (I2 := m.I) (J2 := m.J) (fun hT v kk => ?_) ?_
  · refine sh_w (i := (.aload_n 0)) (len := 1) (pc2 := 1) (lv2 := [(0, .ref 62), (1, .ref 14), (2, .ref 19), (3, .ref 24)]) (st2 := [.ref 62]) (h2 := (sh_rep m.T m.I m.J)) rfl rfl rfl ?_
    exact kk
  obtain ⟨r1, m11, e1, e⟩ := sh_bn_e e
  refine sh_Lk_cV (r := none) (st2 := []) (pc2 := 4) (k2 := 221) (a := 61) (as := [.ref 62]) (rest := []) rfl rfl rfl (fun hT => hT.t61) rfl rfl ⟨Nat.le_of_ble_eq_true rfl, Nat.le_of_ble_eq_true rfl⟩ (sl_221 e1 ⟨rfl, rfl⟩) rfl rfl (Nat.le_of_ble_eq_true rfl) (Nat.le_of_ble_eq_true rfl) ?_
  refine sh_Lk_lift (T := m11.T) (I := m11.I) (J := m11.J) (s := m11.s) (pc2 := 7) (lv2 := [(0, .ref 62), (1, .ref 14), (2, .ref 19), (3, .ref 24)]) (st2 := [.int 0, .ref 62, .ref 62]) (I2 := m11.I) (J2 := m11.J) (fun hT v kk => ?_) ?_
  · refine sh_w (i := (.aload_n 0)) (len := 1) (pc2 := 5) (lv2 := [(0, .ref 62), (1, .ref 14), (2, .ref 19), (3, .ref 24)]) (st2 := [.ref 62]) (h2 := (sh_rep m11.T m11.I m11.J)) rfl rfl rfl ?_
    refine sh_w (i := (.aload_n 0)) (len := 1) (pc2 := 6) (lv2 := [(0, .ref 62), (1, .ref 14), (2, .ref 19), (3, .ref 24)]) (st2 := [.ref 62, .ref 62]) (h2 := (sh_rep m11.T m11.I m11.J)) rfl rfl rfl ?_
    refine sh_w (i := (.iconst 0)) (len := 1) (pc2 := 7) (lv2 := [(0, .ref 62), (1, .ref 14), (2, .ref 19), (3, .ref 24)]) (st2 := [.int 0, .ref 62, .ref 62]) (h2 := (sh_rep m11.T m11.I m11.J)) rfl rfl rfl ?_
    exact kk
  obtain ⟨r2, m12, e2, e⟩ := sh_bn_e e
  refine sh_Lk_cV (r := (some (.long r2))) (st2 := [.long r2, .ref 62]) (pc2 := 10) (k2 := 222) (a := 61) (as := [.ref 62, .int 0]) (rest := [.ref 62]) rfl rfl rfl (fun hT => hT.t61) rfl rfl ⟨Nat.le_of_ble_eq_true rfl, Nat.le_of_ble_eq_true rfl⟩ (sl_222 e2 ⟨rfl, rfl⟩) rfl rfl (Nat.le_of_ble_eq_true rfl) (Nat.le_of_ble_eq_true rfl) ?_
  refine sh_Lk_lift (T := m12.T) (I := m12.I) (J := m12.J) (s := m12.s) (pc2 := 16) (lv2 := [(0, .ref 62), (1, .ref 14), (2, .ref 19), (3, .ref 24)]) (st2 := [.ref 62]) (I2 := m12.I) (J2 := sh_u2 m12.J 61 5 (r2 ||| (1 : Int64))) (fun hT v kk => ?_) ?_
  · refine sh_w (i := (.lconst 1)) (len := 1) (pc2 := 11) (lv2 := [(0, .ref 62), (1, .ref 14), (2, .ref 19), (3, .ref 24)]) (st2 := [.long 1, .long r2, .ref 62]) (h2 := (sh_rep m12.T m12.I m12.J)) rfl rfl rfl ?_
    refine sh_w (i := .lor) (len := 1) (pc2 := 12) (lv2 := [(0, .ref 62), (1, .ref 14), (2, .ref 19), (3, .ref 24)]) (st2 := [.long (r2 ||| (1 : Int64)), .ref 62]) (h2 := (sh_rep m12.T m12.I m12.J)) rfl rfl rfl ?_
    refine sh_pJ1 (x := r2 ||| (1 : Int64)) (pc2 := 15) rfl rfl hT.t61 rfl rfl rfl rfl ?_
    refine sh_w (i := (.aload_n 0)) (len := 1) (pc2 := 16) (lv2 := [(0, .ref 62), (1, .ref 14), (2, .ref 19), (3, .ref 24)]) (st2 := [.ref 62]) (h2 := (sh_rep m12.T m12.I (sh_u2 m12.J 61 5 (r2 ||| (1 : Int64))))) rfl rfl rfl ?_
    exact kk
  obtain ⟨r3, m13, e3, e⟩ := sh_bn_e e
  refine sh_Lk_cV (r := none) (st2 := []) (pc2 := 19) (k2 := 224) (a := 61) (as := [.ref 62]) (rest := []) rfl rfl rfl (fun hT => hT.t61) rfl rfl ⟨Nat.le_of_ble_eq_true rfl, Nat.le_of_ble_eq_true rfl⟩ (sl_224 e3 ⟨rfl, rfl⟩) rfl rfl (Nat.le_of_ble_eq_true rfl) (Nat.le_of_ble_eq_true rfl) ?_
  refine sh_Lk_lift (T := m13.T) (I := m13.I) (J := m13.J) (s := m13.s) (pc2 := 21) (lv2 := [(0, .ref 62), (1, .ref 14), (2, .ref 19), (3, .ref 24)]) (st2 := [.ref 14, .ref 62]) (I2 := m13.I) (J2 := m13.J) (fun hT v kk => ?_) ?_
  · refine sh_w (i := (.aload_n 0)) (len := 1) (pc2 := 20) (lv2 := [(0, .ref 62), (1, .ref 14), (2, .ref 19), (3, .ref 24)]) (st2 := [.ref 62]) (h2 := (sh_rep m13.T m13.I m13.J)) rfl rfl rfl ?_
    refine sh_w (i := (.aload_n 1)) (len := 1) (pc2 := 21) (lv2 := [(0, .ref 62), (1, .ref 14), (2, .ref 19), (3, .ref 24)]) (st2 := [.ref 14, .ref 62]) (h2 := (sh_rep m13.T m13.I m13.J)) rfl rfl rfl ?_
    exact kk
  obtain ⟨r4, m14, e4, e⟩ := sh_bn_e e
  refine sh_Lk_cV (r := none) (st2 := []) (pc2 := 24) (k2 := 226) (a := 61) (as := [.ref 62, .ref 14]) (rest := []) rfl rfl rfl (fun hT => hT.t61) rfl rfl ⟨Nat.le_of_ble_eq_true rfl, Nat.le_of_ble_eq_true rfl⟩ (sl_226 e4 ⟨rfl, rfl⟩) rfl rfl (Nat.le_of_ble_eq_true rfl) (Nat.le_of_ble_eq_true rfl) ?_
  refine sh_Lk_lift (T := m14.T) (I := m14.I) (J := m14.J) (s := m14.s) (pc2 := 26) (lv2 := [(0, .ref 62), (1, .ref 14), (2, .ref 19), (3, .ref 24)]) (st2 := [.ref 19, .ref 62]) (I2 := m14.I) (J2 := m14.J) (fun hT v kk => ?_) ?_
  · refine sh_w (i := (.aload_n 0)) (len := 1) (pc2 := 25) (lv2 := [(0, .ref 62), (1, .ref 14), (2, .ref 19), (3, .ref 24)]) (st2 := [.ref 62]) (h2 := (sh_rep m14.T m14.I m14.J)) rfl rfl rfl ?_
    refine sh_w (i := (.aload_n 2)) (len := 1) (pc2 := 26) (lv2 := [(0, .ref 62), (1, .ref 14), (2, .ref 19), (3, .ref 24)]) (st2 := [.ref 19, .ref 62]) (h2 := (sh_rep m14.T m14.I m14.J)) rfl rfl rfl ?_
    exact kk
  obtain ⟨r5, m15, e5, e⟩ := sh_bn_e e
  refine sh_Lk_cV (r := none) (st2 := []) (pc2 := 29) (k2 := 229) (a := 61) (as := [.ref 62, .ref 19]) (rest := []) rfl rfl rfl (fun hT => hT.t61) rfl rfl ⟨Nat.le_of_ble_eq_true rfl, Nat.le_of_ble_eq_true rfl⟩ (sl_229 e5 ⟨rfl, rfl⟩) rfl rfl (Nat.le_of_ble_eq_true rfl) (Nat.le_of_ble_eq_true rfl) ?_
  refine sh_Lk_lift (T := m15.T) (I := m15.I) (J := m15.J) (s := m15.s) (pc2 := 32) (lv2 := [(4, .int 0), (0, .ref 62), (1, .ref 14), (2, .ref 19), (3, .ref 24)]) (st2 := []) (I2 := m15.I) (J2 := m15.J) (fun hT v kk => ?_) ?_
  · refine sh_w (i := (.iconst 0)) (len := 1) (pc2 := 30) (lv2 := [(0, .ref 62), (1, .ref 14), (2, .ref 19), (3, .ref 24)]) (st2 := [.int 0]) (h2 := (sh_rep m15.T m15.I m15.J)) rfl rfl rfl ?_
    refine sh_w (i := (.istore 4)) (len := 2) (pc2 := 32) (lv2 := [(4, .int 0), (0, .ref 62), (1, .ref 14), (2, .ref 19), (3, .ref 24)]) (st2 := []) (h2 := (sh_rep m15.T m15.I m15.J)) rfl rfl rfl ?_
    exact kk
  exact sh_Lk_sub (sh_sub_c rfl (sh_sub_c rfl (sh_sub_c rfl (sh_sub_n)))) (sl_220_32 e tg)
theorem sl_219 {m m2 : sh_X} {o : Outcome} {z : (Bool × sh_X)} (e : sf_219 m = some z) (tg : (sh_tZ o m2) z) : sh_Lk 219 0 [(0, .ref 1)] [] m o m2 13 329 := by
  unfold sf_219 at e
  refine sh_Lk_lift (T := m.T) (I := m.I) (J := m.J) (s := m.s) (pc2 := 4) (lv2 := [(0, .ref 1)]) (st2 := [.int (m.I 0 13)]) (I2 := m.I) (J2 := m.J) (fun hT v kk => ?_) ?_
  · refine sh_w (i := (.aload_n 0)) (len := 1) (pc2 := 1) (lv2 := [(0, .ref 1)]) (st2 := [.ref 1]) (h2 := (sh_rep m.T m.I m.J)) rfl rfl rfl ?_
    refine sh_gI1 (len := 3) (x := m.I 0 13) (pc2 := 4) rfl rfl (sh_s0 hT.st) rfl rfl rfl ?_
    exact kk
  rcases sh_ite e with ⟨c, e⟩ | ⟨c, e⟩
  · refine sh_Lk_lift (T := m.T) (I := m.I) (J := m.J) (s := m.s) (pc2 := 8) (lv2 := [(0, .ref 1)]) (st2 := [.int 0]) (I2 := m.I) (J2 := m.J) (fun hT v kk => ?_) ?_
    · refine sh_j0 (c := .ne) (off := (5)) (pc2 := 7) false rfl (sh_Bnef c) rfl ?_
      refine sh_w (i := (.iconst 0)) (len := 1) (pc2 := 8) (lv2 := [(0, .ref 1)]) (st2 := [.int 0]) (h2 := (sh_rep m.T m.I m.J)) rfl rfl rfl ?_
      exact kk
    obtain rfl := Option.some.inj e
    obtain ⟨rfl, rfl⟩ := tg
    exact sh_Lk_ret (i := .ireturn) rfl rfl rfl (Nat.le_of_ble_eq_true rfl) (Nat.le_of_ble_eq_true rfl)
  · refine sh_Lk_lift (T := m.T) (I := m.I) (J := m.J) (s := m.s) (pc2 := 25) (lv2 := [(0, .ref 1)]) (st2 := [.ref 24, .ref 19, .ref 14, .ref 62]) (I2 := m.I) (J2 := m.J) (fun hT v kk => ?_) ?_
    · refine sh_j0 (c := .ne) (off := (5)) (pc2 := 9) true rfl (sh_Bnet c) rfl ?_
      refine sh_w (i := (.aload_n 0)) (len := 1) (pc2 := 10) (lv2 := [(0, .ref 1)]) (st2 := [.ref 1]) (h2 := (sh_rep m.T m.I m.J)) rfl rfl rfl ?_
      refine sh_gR1 (len := 3) (x := .ref 62) (pc2 := 13) rfl rfl (sh_s0 hT.st) rfl rfl ?_
      refine sh_w (i := (.aload_n 0)) (len := 1) (pc2 := 14) (lv2 := [(0, .ref 1)]) (st2 := [.ref 1, .ref 62]) (h2 := (sh_rep m.T m.I m.J)) rfl rfl rfl ?_
      refine sh_gR1 (len := 3) (x := .ref 14) (pc2 := 17) rfl rfl (sh_s0 hT.st) rfl rfl ?_
      refine sh_w (i := (.aload_n 0)) (len := 1) (pc2 := 18) (lv2 := [(0, .ref 1)]) (st2 := [.ref 1, .ref 14, .ref 62]) (h2 := (sh_rep m.T m.I m.J)) rfl rfl rfl ?_
      refine sh_gR1 (len := 3) (x := .ref 19) (pc2 := 21) rfl rfl (sh_s0 hT.st) rfl rfl ?_
      refine sh_w (i := (.aload_n 0)) (len := 1) (pc2 := 22) (lv2 := [(0, .ref 1)]) (st2 := [.ref 1, .ref 19, .ref 14, .ref 62]) (h2 := (sh_rep m.T m.I m.J)) rfl rfl rfl ?_
      refine sh_gR1 (len := 3) (x := .ref 24) (pc2 := 25) rfl rfl (sh_s0 hT.st) rfl rfl ?_
      exact kk
    obtain ⟨r1, m11, e1, e⟩ := sh_bn_e e
    refine sh_Lk_cV (r := none) (st2 := []) (pc2 := 28) (k2 := 220) (a := 61) (as := [.ref 62, .ref 14, .ref 19, .ref 24]) (rest := []) rfl rfl rfl (fun hT => hT.t61) rfl rfl ⟨Nat.le_of_ble_eq_true rfl, Nat.le_of_ble_eq_true rfl⟩ (sl_220 e1 ⟨rfl, rfl⟩) rfl rfl (Nat.le_of_ble_eq_true rfl) (Nat.le_of_ble_eq_true rfl) ?_
    refine sh_Lk_lift (T := m11.T) (I := m11.I) (J := m11.J) (s := m11.s) (pc2 := 34) (lv2 := [(0, .ref 1)]) (st2 := [.int 1]) (I2 := sh_u2 m11.I 0 14 1) (J2 := m11.J) (fun hT v kk => ?_) ?_
    · refine sh_w (i := (.aload_n 0)) (len := 1) (pc2 := 29) (lv2 := [(0, .ref 1)]) (st2 := [.ref 1]) (h2 := (sh_rep m11.T m11.I m11.J)) rfl rfl rfl ?_
      refine sh_w (i := (.iconst 1)) (len := 1) (pc2 := 30) (lv2 := [(0, .ref 1)]) (st2 := [.int 1, .ref 1]) (h2 := (sh_rep m11.T m11.I m11.J)) rfl rfl rfl ?_
      refine sh_pI1 (x := 1) (pc2 := 33) rfl rfl (sh_s0 hT.st) rfl rfl rfl rfl ?_
      refine sh_w (i := (.iconst 1)) (len := 1) (pc2 := 34) (lv2 := [(0, .ref 1)]) (st2 := [.int 1]) (h2 := (sh_rep m11.T (sh_u2 m11.I 0 14 1) m11.J)) rfl rfl rfl ?_
      exact kk
    obtain rfl := Option.some.inj e
    obtain ⟨rfl, rfl⟩ := tg
    exact sh_Lk_ret (i := .ireturn) rfl rfl rfl (Nat.le_of_ble_eq_true rfl) (Nat.le_of_ble_eq_true rfl)
theorem sl_237_25 {m m2 : sh_X} {o : Outcome} {z : (Option Int32 × sh_X)} (e : sf_237_25 m = some z) (tg : (sh_tIt o m2) z) : sh_Lk 237 25 [] [] m o m2 9 221 := by
  unfold sf_237_25 at e
  obtain ⟨c, e⟩ := sh_gd e
  obtain rfl := Option.some.inj e
  obtain ⟨rfl, rfl⟩ := tg
  exact sh_Lk_thr rfl rfl rfl c (Nat.le_of_ble_eq_true rfl) rfl (Nat.le_of_ble_eq_true rfl) (Nat.le_of_ble_eq_true rfl) rfl
theorem sl_237 {x1 : Int32} {x2 : Int32} {m m2 : sh_X} {o : Outcome} {z : (Option Int32 × sh_X)} (e : sf_237 x1 x2 m = some z) (tg : (sh_tIt o m2) z) : sh_Lk 237 0 [(0, .ref 1), (1, .int x1), (2, .int x2)] [] m o m2 9 221 := by
  unfold sf_237 at e
  refine sh_Lk_lift (T := m.T) (I := m.I) (J := m.J) (s := m.s) (pc2 := 2) (lv2 := [(0, .ref 1), (1, .int x1), (2, .int x2)]) (st2 := [.int x1, .ref 1]) (I2 := m.I) (J2 := m.J) (fun hT v kk => ?_) ?_
  · refine sh_w (i := (.aload_n 0)) (len := 1) (pc2 := 1) (lv2 := [(0, .ref 1), (1, .int x1), (2, .int x2)]) (st2 := [.ref 1]) (h2 := (sh_rep m.T m.I m.J)) rfl rfl rfl ?_
    refine sh_w (i := (.iload_n 1)) (len := 1) (pc2 := 2) (lv2 := [(0, .ref 1), (1, .int x1), (2, .int x2)]) (st2 := [.int x1, .ref 1]) (h2 := (sh_rep m.T m.I m.J)) rfl rfl rfl ?_
    exact kk
  rcases sh_ite e with ⟨c0, e⟩ | ⟨c0, e⟩
  · refine sh_Lk_so (x := x1) (w := .ref 14) (pc2 := 5) rfl rfl (if_pos c0) rfl (Nat.le_of_ble_eq_true rfl) (Nat.le_of_ble_eq_true rfl) (Nat.le_of_ble_eq_true rfl) ?_
    refine sh_Lk_lift (T := m.T) (I := m.I) (J := m.J) (s := m.s) (pc2 := 10) (lv2 := [(3, .ref 14), (0, .ref 1), (1, .int x1), (2, .int x2)]) (st2 := [.int (m.I 0 13)]) (I2 := m.I) (J2 := m.J) (fun hT v kk => ?_) ?_
    · refine sh_w (i := (.astore_n 3)) (len := 1) (pc2 := 6) (lv2 := [(3, .ref 14), (0, .ref 1), (1, .int x1), (2, .int x2)]) (st2 := []) (h2 := (sh_rep m.T m.I m.J)) rfl rfl rfl ?_
      refine sh_w (i := (.aload_n 0)) (len := 1) (pc2 := 7) (lv2 := [(3, .ref 14), (0, .ref 1), (1, .int x1), (2, .int x2)]) (st2 := [.ref 1]) (h2 := (sh_rep m.T m.I m.J)) rfl rfl rfl ?_
      refine sh_gI1 (len := 3) (x := m.I 0 13) (pc2 := 10) rfl rfl (sh_s0 hT.st) rfl rfl rfl ?_
      exact kk
    rcases sh_ite e with ⟨c, e⟩ | ⟨c, e⟩
    · refine sh_Lk_lift (T := m.T) (I := m.I) (J := m.J) (s := m.s) (pc2 := 25) (lv2 := [(3, .ref 14), (0, .ref 1), (1, .int x1), (2, .int x2)]) (st2 := []) (I2 := m.I) (J2 := m.J) (fun hT v kk => ?_) ?_
      · refine sh_j0 (c := .eq) (off := (15)) (pc2 := 25) true rfl (sh_Beqt c) rfl ?_
        exact kk
      exact sh_Lk_sub (sh_sub_n) (sl_237_25 e tg)
    · refine sh_Lk_lift (T := m.T) (I := m.I) (J := m.J) (s := m.s) (pc2 := 19) (lv2 := [(3, .ref 14), (0, .ref 1), (1, .int x1), (2, .int x2)]) (st2 := [.int x2, .ref 14]) (I2 := m.I) (J2 := m.J) (fun hT v kk => ?_) ?_
      · refine sh_j0 (c := .eq) (off := (15)) (pc2 := 13) false rfl (sh_Beqf c) rfl ?_
        refine sh_w (i := (.aload_n 3)) (len := 1) (pc2 := 14) (lv2 := [(3, .ref 14), (0, .ref 1), (1, .int x1), (2, .int x2)]) (st2 := [.ref 14]) (h2 := (sh_rep m.T m.I m.J)) rfl rfl rfl ?_
        refine sh_w (i := (.ifnull 11)) (len := 3) (pc2 := 17) (lv2 := [(3, .ref 14), (0, .ref 1), (1, .int x1), (2, .int x2)]) (st2 := []) (h2 := (sh_rep m.T m.I m.J)) rfl rfl rfl ?_
        refine sh_w (i := (.aload_n 3)) (len := 1) (pc2 := 18) (lv2 := [(3, .ref 14), (0, .ref 1), (1, .int x1), (2, .int x2)]) (st2 := [.ref 14]) (h2 := (sh_rep m.T m.I m.J)) rfl rfl rfl ?_
        refine sh_w (i := (.iload_n 2)) (len := 1) (pc2 := 19) (lv2 := [(3, .ref 14), (0, .ref 1), (1, .int x1), (2, .int x2)]) (st2 := [.int x2, .ref 14]) (h2 := (sh_rep m.T m.I m.J)) rfl rfl rfl ?_
        exact kk
      obtain ⟨r1, e1, e⟩ := sh_bc_e e
      refine sh_Lk_cV (r := (some (.int (sh_b2 r1)))) (st2 := [.int (sh_b2 r1)]) (pc2 := 22) (k2 := 228) (a := 13) (as := [.ref 14, .int x2]) (rest := []) rfl rfl rfl (fun hT => (sh_s13 hT.st)) rfl rfl ⟨Nat.le_of_ble_eq_true rfl, Nat.le_of_ble_eq_true rfl⟩ (sl_228 (by decide) e1 ⟨rfl, rfl⟩) rfl rfl (Nat.le_of_ble_eq_true rfl) (Nat.le_of_ble_eq_true rfl) ?_
      rcases sh_ite e with ⟨c, e⟩ | ⟨c, e⟩
      · refine sh_Lk_lift (T := m.T) (I := m.I) (J := m.J) (s := m.s) (pc2 := 38) (lv2 := [(3, .ref 14), (0, .ref 1), (1, .int x1), (2, .int x2)]) (st2 := [.int x2, .ref 16]) (I2 := m.I) (J2 := m.J) (fun hT v kk => ?_) ?_
        · refine sh_j0 (c := .ne) (off := (11)) (pc2 := 33) true rfl (sh_Znet c) rfl ?_
          refine sh_w (i := (.aload_n 3)) (len := 1) (pc2 := 34) (lv2 := [(3, .ref 14), (0, .ref 1), (1, .int x1), (2, .int x2)]) (st2 := [.ref 14]) (h2 := (sh_rep m.T m.I m.J)) rfl rfl rfl ?_
          refine sh_gR1 (len := 3) (x := .ref 16) (pc2 := 37) rfl rfl (sh_s13 hT.st) rfl rfl ?_
          refine sh_w (i := (.iload_n 2)) (len := 1) (pc2 := 38) (lv2 := [(3, .ref 14), (0, .ref 1), (1, .int x1), (2, .int x2)]) (st2 := [.int x2, .ref 16]) (h2 := (sh_rep m.T m.I m.J)) rfl rfl rfl ?_
          exact kk
        obtain ⟨c, e⟩ := sh_gd e
        refine sh_Lk_lift (T := m.T) (I := m.I) (J := m.J) (s := m.s) (pc2 := 39) (lv2 := [(3, .ref 14), (0, .ref 1), (1, .int x1), (2, .int x2)]) (st2 := [.int (m.I 15 (Int32.toNatClampNeg x2))]) (I2 := m.I) (J2 := m.J) (fun hT v kk => ?_) ?_
        · refine sh_ia1 (x := m.I 15 (Int32.toNatClampNeg x2)) (pc2 := 39) rfl (sh_s15 hT.st) (sh_okb1 c) (sh_okb2 c) rfl rfl ?_
          exact kk
        obtain rfl := Option.some.inj e
        obtain ⟨rfl, rfl⟩ := tg
        exact sh_Lk_ret (i := .ireturn) rfl rfl rfl (Nat.le_of_ble_eq_true rfl) (Nat.le_of_ble_eq_true rfl)
      · refine sh_Lk_lift (T := m.T) (I := m.I) (J := m.J) (s := m.s) (pc2 := 25) (lv2 := [(3, .ref 14), (0, .ref 1), (1, .int x1), (2, .int x2)]) (st2 := []) (I2 := m.I) (J2 := m.J) (fun hT v kk => ?_) ?_
        · refine sh_j0 (c := .ne) (off := (11)) (pc2 := 25) false rfl (sh_Znef c) rfl ?_
          exact kk
        exact sh_Lk_sub (sh_sub_n) (sl_237_25 e tg)
  · rcases sh_ite e with ⟨c1, e⟩ | ⟨c1, e⟩
    · refine sh_Lk_so (x := x1) (w := .ref 19) (pc2 := 5) rfl rfl ((if_neg c0).trans (if_pos c1)) rfl (Nat.le_of_ble_eq_true rfl) (Nat.le_of_ble_eq_true rfl) (Nat.le_of_ble_eq_true rfl) ?_
      refine sh_Lk_lift (T := m.T) (I := m.I) (J := m.J) (s := m.s) (pc2 := 10) (lv2 := [(3, .ref 19), (0, .ref 1), (1, .int x1), (2, .int x2)]) (st2 := [.int (m.I 0 13)]) (I2 := m.I) (J2 := m.J) (fun hT v kk => ?_) ?_
      · refine sh_w (i := (.astore_n 3)) (len := 1) (pc2 := 6) (lv2 := [(3, .ref 19), (0, .ref 1), (1, .int x1), (2, .int x2)]) (st2 := []) (h2 := (sh_rep m.T m.I m.J)) rfl rfl rfl ?_
        refine sh_w (i := (.aload_n 0)) (len := 1) (pc2 := 7) (lv2 := [(3, .ref 19), (0, .ref 1), (1, .int x1), (2, .int x2)]) (st2 := [.ref 1]) (h2 := (sh_rep m.T m.I m.J)) rfl rfl rfl ?_
        refine sh_gI1 (len := 3) (x := m.I 0 13) (pc2 := 10) rfl rfl (sh_s0 hT.st) rfl rfl rfl ?_
        exact kk
      rcases sh_ite e with ⟨c, e⟩ | ⟨c, e⟩
      · refine sh_Lk_lift (T := m.T) (I := m.I) (J := m.J) (s := m.s) (pc2 := 25) (lv2 := [(3, .ref 19), (0, .ref 1), (1, .int x1), (2, .int x2)]) (st2 := []) (I2 := m.I) (J2 := m.J) (fun hT v kk => ?_) ?_
        · refine sh_j0 (c := .eq) (off := (15)) (pc2 := 25) true rfl (sh_Beqt c) rfl ?_
          exact kk
        exact sh_Lk_sub (sh_sub_n) (sl_237_25 e tg)
      · refine sh_Lk_lift (T := m.T) (I := m.I) (J := m.J) (s := m.s) (pc2 := 19) (lv2 := [(3, .ref 19), (0, .ref 1), (1, .int x1), (2, .int x2)]) (st2 := [.int x2, .ref 19]) (I2 := m.I) (J2 := m.J) (fun hT v kk => ?_) ?_
        · refine sh_j0 (c := .eq) (off := (15)) (pc2 := 13) false rfl (sh_Beqf c) rfl ?_
          refine sh_w (i := (.aload_n 3)) (len := 1) (pc2 := 14) (lv2 := [(3, .ref 19), (0, .ref 1), (1, .int x1), (2, .int x2)]) (st2 := [.ref 19]) (h2 := (sh_rep m.T m.I m.J)) rfl rfl rfl ?_
          refine sh_w (i := (.ifnull 11)) (len := 3) (pc2 := 17) (lv2 := [(3, .ref 19), (0, .ref 1), (1, .int x1), (2, .int x2)]) (st2 := []) (h2 := (sh_rep m.T m.I m.J)) rfl rfl rfl ?_
          refine sh_w (i := (.aload_n 3)) (len := 1) (pc2 := 18) (lv2 := [(3, .ref 19), (0, .ref 1), (1, .int x1), (2, .int x2)]) (st2 := [.ref 19]) (h2 := (sh_rep m.T m.I m.J)) rfl rfl rfl ?_
          refine sh_w (i := (.iload_n 2)) (len := 1) (pc2 := 19) (lv2 := [(3, .ref 19), (0, .ref 1), (1, .int x1), (2, .int x2)]) (st2 := [.int x2, .ref 19]) (h2 := (sh_rep m.T m.I m.J)) rfl rfl rfl ?_
          exact kk
        obtain ⟨r2, e2, e⟩ := sh_bc_e e
        refine sh_Lk_cV (r := (some (.int (sh_b2 r2)))) (st2 := [.int (sh_b2 r2)]) (pc2 := 22) (k2 := 228) (a := 18) (as := [.ref 19, .int x2]) (rest := []) rfl rfl rfl (fun hT => (sh_s18 hT.st)) rfl rfl ⟨Nat.le_of_ble_eq_true rfl, Nat.le_of_ble_eq_true rfl⟩ (sl_228 (by decide) e2 ⟨rfl, rfl⟩) rfl rfl (Nat.le_of_ble_eq_true rfl) (Nat.le_of_ble_eq_true rfl) ?_
        rcases sh_ite e with ⟨c, e⟩ | ⟨c, e⟩
        · refine sh_Lk_lift (T := m.T) (I := m.I) (J := m.J) (s := m.s) (pc2 := 38) (lv2 := [(3, .ref 19), (0, .ref 1), (1, .int x1), (2, .int x2)]) (st2 := [.int x2, .ref 21]) (I2 := m.I) (J2 := m.J) (fun hT v kk => ?_) ?_
          · refine sh_j0 (c := .ne) (off := (11)) (pc2 := 33) true rfl (sh_Znet c) rfl ?_
            refine sh_w (i := (.aload_n 3)) (len := 1) (pc2 := 34) (lv2 := [(3, .ref 19), (0, .ref 1), (1, .int x1), (2, .int x2)]) (st2 := [.ref 19]) (h2 := (sh_rep m.T m.I m.J)) rfl rfl rfl ?_
            refine sh_gR1 (len := 3) (x := .ref 21) (pc2 := 37) rfl rfl (sh_s18 hT.st) rfl rfl ?_
            refine sh_w (i := (.iload_n 2)) (len := 1) (pc2 := 38) (lv2 := [(3, .ref 19), (0, .ref 1), (1, .int x1), (2, .int x2)]) (st2 := [.int x2, .ref 21]) (h2 := (sh_rep m.T m.I m.J)) rfl rfl rfl ?_
            exact kk
          obtain ⟨c, e⟩ := sh_gd e
          refine sh_Lk_lift (T := m.T) (I := m.I) (J := m.J) (s := m.s) (pc2 := 39) (lv2 := [(3, .ref 19), (0, .ref 1), (1, .int x1), (2, .int x2)]) (st2 := [.int (m.I 20 (Int32.toNatClampNeg x2))]) (I2 := m.I) (J2 := m.J) (fun hT v kk => ?_) ?_
          · refine sh_ia1 (x := m.I 20 (Int32.toNatClampNeg x2)) (pc2 := 39) rfl (sh_s20 hT.st) (sh_okb1 c) (sh_okb2 c) rfl rfl ?_
            exact kk
          obtain rfl := Option.some.inj e
          obtain ⟨rfl, rfl⟩ := tg
          exact sh_Lk_ret (i := .ireturn) rfl rfl rfl (Nat.le_of_ble_eq_true rfl) (Nat.le_of_ble_eq_true rfl)
        · refine sh_Lk_lift (T := m.T) (I := m.I) (J := m.J) (s := m.s) (pc2 := 25) (lv2 := [(3, .ref 19), (0, .ref 1), (1, .int x1), (2, .int x2)]) (st2 := []) (I2 := m.I) (J2 := m.J) (fun hT v kk => ?_) ?_
          · refine sh_j0 (c := .ne) (off := (11)) (pc2 := 25) false rfl (sh_Znef c) rfl ?_
            exact kk
          exact sh_Lk_sub (sh_sub_n) (sl_237_25 e tg)
    · rcases sh_ite e with ⟨c2, e⟩ | ⟨c2, e⟩
      · refine sh_Lk_so (x := x1) (w := .ref 24) (pc2 := 5) rfl rfl ((if_neg c0).trans ((if_neg c1).trans (if_pos c2))) rfl (Nat.le_of_ble_eq_true rfl) (Nat.le_of_ble_eq_true rfl) (Nat.le_of_ble_eq_true rfl) ?_
        refine sh_Lk_lift (T := m.T) (I := m.I) (J := m.J) (s := m.s) (pc2 := 10) (lv2 := [(3, .ref 24), (0, .ref 1), (1, .int x1), (2, .int x2)]) (st2 := [.int (m.I 0 13)]) (I2 := m.I) (J2 := m.J) (fun hT v kk => ?_) ?_
        · refine sh_w (i := (.astore_n 3)) (len := 1) (pc2 := 6) (lv2 := [(3, .ref 24), (0, .ref 1), (1, .int x1), (2, .int x2)]) (st2 := []) (h2 := (sh_rep m.T m.I m.J)) rfl rfl rfl ?_
          refine sh_w (i := (.aload_n 0)) (len := 1) (pc2 := 7) (lv2 := [(3, .ref 24), (0, .ref 1), (1, .int x1), (2, .int x2)]) (st2 := [.ref 1]) (h2 := (sh_rep m.T m.I m.J)) rfl rfl rfl ?_
          refine sh_gI1 (len := 3) (x := m.I 0 13) (pc2 := 10) rfl rfl (sh_s0 hT.st) rfl rfl rfl ?_
          exact kk
        rcases sh_ite e with ⟨c, e⟩ | ⟨c, e⟩
        · refine sh_Lk_lift (T := m.T) (I := m.I) (J := m.J) (s := m.s) (pc2 := 25) (lv2 := [(3, .ref 24), (0, .ref 1), (1, .int x1), (2, .int x2)]) (st2 := []) (I2 := m.I) (J2 := m.J) (fun hT v kk => ?_) ?_
          · refine sh_j0 (c := .eq) (off := (15)) (pc2 := 25) true rfl (sh_Beqt c) rfl ?_
            exact kk
          exact sh_Lk_sub (sh_sub_n) (sl_237_25 e tg)
        · refine sh_Lk_lift (T := m.T) (I := m.I) (J := m.J) (s := m.s) (pc2 := 19) (lv2 := [(3, .ref 24), (0, .ref 1), (1, .int x1), (2, .int x2)]) (st2 := [.int x2, .ref 24]) (I2 := m.I) (J2 := m.J) (fun hT v kk => ?_) ?_
          · refine sh_j0 (c := .eq) (off := (15)) (pc2 := 13) false rfl (sh_Beqf c) rfl ?_
            refine sh_w (i := (.aload_n 3)) (len := 1) (pc2 := 14) (lv2 := [(3, .ref 24), (0, .ref 1), (1, .int x1), (2, .int x2)]) (st2 := [.ref 24]) (h2 := (sh_rep m.T m.I m.J)) rfl rfl rfl ?_
            refine sh_w (i := (.ifnull 11)) (len := 3) (pc2 := 17) (lv2 := [(3, .ref 24), (0, .ref 1), (1, .int x1), (2, .int x2)]) (st2 := []) (h2 := (sh_rep m.T m.I m.J)) rfl rfl rfl ?_
            refine sh_w (i := (.aload_n 3)) (len := 1) (pc2 := 18) (lv2 := [(3, .ref 24), (0, .ref 1), (1, .int x1), (2, .int x2)]) (st2 := [.ref 24]) (h2 := (sh_rep m.T m.I m.J)) rfl rfl rfl ?_
            refine sh_w (i := (.iload_n 2)) (len := 1) (pc2 := 19) (lv2 := [(3, .ref 24), (0, .ref 1), (1, .int x1), (2, .int x2)]) (st2 := [.int x2, .ref 24]) (h2 := (sh_rep m.T m.I m.J)) rfl rfl rfl ?_
            exact kk
          obtain ⟨r3, e3, e⟩ := sh_bc_e e
          refine sh_Lk_cV (r := (some (.int (sh_b2 r3)))) (st2 := [.int (sh_b2 r3)]) (pc2 := 22) (k2 := 228) (a := 23) (as := [.ref 24, .int x2]) (rest := []) rfl rfl rfl (fun hT => (sh_s23 hT.st)) rfl rfl ⟨Nat.le_of_ble_eq_true rfl, Nat.le_of_ble_eq_true rfl⟩ (sl_228 (by decide) e3 ⟨rfl, rfl⟩) rfl rfl (Nat.le_of_ble_eq_true rfl) (Nat.le_of_ble_eq_true rfl) ?_
          rcases sh_ite e with ⟨c, e⟩ | ⟨c, e⟩
          · refine sh_Lk_lift (T := m.T) (I := m.I) (J := m.J) (s := m.s) (pc2 := 38) (lv2 := [(3, .ref 24), (0, .ref 1), (1, .int x1), (2, .int x2)]) (st2 := [.int x2, .ref 26]) (I2 := m.I) (J2 := m.J) (fun hT v kk => ?_) ?_
            · refine sh_j0 (c := .ne) (off := (11)) (pc2 := 33) true rfl (sh_Znet c) rfl ?_
              refine sh_w (i := (.aload_n 3)) (len := 1) (pc2 := 34) (lv2 := [(3, .ref 24), (0, .ref 1), (1, .int x1), (2, .int x2)]) (st2 := [.ref 24]) (h2 := (sh_rep m.T m.I m.J)) rfl rfl rfl ?_
              refine sh_gR1 (len := 3) (x := .ref 26) (pc2 := 37) rfl rfl (sh_s23 hT.st) rfl rfl ?_
              refine sh_w (i := (.iload_n 2)) (len := 1) (pc2 := 38) (lv2 := [(3, .ref 24), (0, .ref 1), (1, .int x1), (2, .int x2)]) (st2 := [.int x2, .ref 26]) (h2 := (sh_rep m.T m.I m.J)) rfl rfl rfl ?_
              exact kk
            obtain ⟨c, e⟩ := sh_gd e
            refine sh_Lk_lift (T := m.T) (I := m.I) (J := m.J) (s := m.s) (pc2 := 39) (lv2 := [(3, .ref 24), (0, .ref 1), (1, .int x1), (2, .int x2)]) (st2 := [.int (m.I 25 (Int32.toNatClampNeg x2))]) (I2 := m.I) (J2 := m.J) (fun hT v kk => ?_) ?_
            · refine sh_ia1 (x := m.I 25 (Int32.toNatClampNeg x2)) (pc2 := 39) rfl (sh_s25 hT.st) (sh_okb1 c) (sh_okb2 c) rfl rfl ?_
              exact kk
            obtain rfl := Option.some.inj e
            obtain ⟨rfl, rfl⟩ := tg
            exact sh_Lk_ret (i := .ireturn) rfl rfl rfl (Nat.le_of_ble_eq_true rfl) (Nat.le_of_ble_eq_true rfl)
          · refine sh_Lk_lift (T := m.T) (I := m.I) (J := m.J) (s := m.s) (pc2 := 25) (lv2 := [(3, .ref 24), (0, .ref 1), (1, .int x1), (2, .int x2)]) (st2 := []) (I2 := m.I) (J2 := m.J) (fun hT v kk => ?_) ?_
            · refine sh_j0 (c := .ne) (off := (11)) (pc2 := 25) false rfl (sh_Znef c) rfl ?_
              exact kk
            exact sh_Lk_sub (sh_sub_n) (sl_237_25 e tg)
      · refine sh_Lk_so (x := x1) (w := .null) (pc2 := 5) rfl rfl ((if_neg c0).trans ((if_neg c1).trans (if_neg c2))) rfl (Nat.le_of_ble_eq_true rfl) (Nat.le_of_ble_eq_true rfl) (Nat.le_of_ble_eq_true rfl) ?_
        refine sh_Lk_lift (T := m.T) (I := m.I) (J := m.J) (s := m.s) (pc2 := 10) (lv2 := [(3, .null), (0, .ref 1), (1, .int x1), (2, .int x2)]) (st2 := [.int (m.I 0 13)]) (I2 := m.I) (J2 := m.J) (fun hT v kk => ?_) ?_
        · refine sh_w (i := (.astore_n 3)) (len := 1) (pc2 := 6) (lv2 := [(3, .null), (0, .ref 1), (1, .int x1), (2, .int x2)]) (st2 := []) (h2 := (sh_rep m.T m.I m.J)) rfl rfl rfl ?_
          refine sh_w (i := (.aload_n 0)) (len := 1) (pc2 := 7) (lv2 := [(3, .null), (0, .ref 1), (1, .int x1), (2, .int x2)]) (st2 := [.ref 1]) (h2 := (sh_rep m.T m.I m.J)) rfl rfl rfl ?_
          refine sh_gI1 (len := 3) (x := m.I 0 13) (pc2 := 10) rfl rfl (sh_s0 hT.st) rfl rfl rfl ?_
          exact kk
        rcases sh_ite e with ⟨c, e⟩ | ⟨c, e⟩
        · refine sh_Lk_lift (T := m.T) (I := m.I) (J := m.J) (s := m.s) (pc2 := 25) (lv2 := [(3, .null), (0, .ref 1), (1, .int x1), (2, .int x2)]) (st2 := []) (I2 := m.I) (J2 := m.J) (fun hT v kk => ?_) ?_
          · refine sh_j0 (c := .eq) (off := (15)) (pc2 := 25) true rfl (sh_Beqt c) rfl ?_
            exact kk
          exact sh_Lk_sub (sh_sub_n) (sl_237_25 e tg)
        · refine sh_Lk_lift (T := m.T) (I := m.I) (J := m.J) (s := m.s) (pc2 := 25) (lv2 := [(3, .null), (0, .ref 1), (1, .int x1), (2, .int x2)]) (st2 := []) (I2 := m.I) (J2 := m.J) (fun hT v kk => ?_) ?_
          · refine sh_j0 (c := .eq) (off := (15)) (pc2 := 13) false rfl (sh_Beqf c) rfl ?_
            refine sh_w (i := (.aload_n 3)) (len := 1) (pc2 := 14) (lv2 := [(3, .null), (0, .ref 1), (1, .int x1), (2, .int x2)]) (st2 := [.null]) (h2 := (sh_rep m.T m.I m.J)) rfl rfl rfl ?_
            refine sh_w (i := (.ifnull 11)) (len := 3) (pc2 := 25) (lv2 := [(3, .null), (0, .ref 1), (1, .int x1), (2, .int x2)]) (st2 := []) (h2 := (sh_rep m.T m.I m.J)) rfl rfl rfl ?_
            exact kk
          exact sh_Lk_sub (sh_sub_n) (sl_237_25 e tg)
theorem sl_236 {x1 : Int32} {x2 : Int32} {m m2 : sh_X} {o : Outcome} {z : (Int32 × sh_X)} (e : sf_236 x1 x2 m = some z) (tg : (sh_tI o m2) z) : sh_Lk 236 0 [(0, .ref 1), (1, .int x1), (2, .int x2), (3, .ref 125)] [] m o m2 10 244 := by
  unfold sf_236 at e
  refine sh_Lk_lift (T := m.T) (I := m.I) (J := m.J) (s := m.s) (pc2 := 5) (lv2 := [(0, .ref 1), (1, .int x1), (2, .int x2), (3, .ref 125)]) (st2 := [.int x2, .int x1, .ref 1, .int 0, .ref 125]) (I2 := m.I) (J2 := m.J) (fun hT v kk => ?_) ?_
  · refine sh_w (i := (.aload_n 3)) (len := 1) (pc2 := 1) (lv2 := [(0, .ref 1), (1, .int x1), (2, .int x2), (3, .ref 125)]) (st2 := [.ref 125]) (h2 := (sh_rep m.T m.I m.J)) rfl rfl rfl ?_
    refine sh_w (i := (.iconst 0)) (len := 1) (pc2 := 2) (lv2 := [(0, .ref 1), (1, .int x1), (2, .int x2), (3, .ref 125)]) (st2 := [.int 0, .ref 125]) (h2 := (sh_rep m.T m.I m.J)) rfl rfl rfl ?_
    refine sh_w (i := (.aload_n 0)) (len := 1) (pc2 := 3) (lv2 := [(0, .ref 1), (1, .int x1), (2, .int x2), (3, .ref 125)]) (st2 := [.ref 1, .int 0, .ref 125]) (h2 := (sh_rep m.T m.I m.J)) rfl rfl rfl ?_
    refine sh_w (i := (.iload_n 1)) (len := 1) (pc2 := 4) (lv2 := [(0, .ref 1), (1, .int x1), (2, .int x2), (3, .ref 125)]) (st2 := [.int x1, .ref 1, .int 0, .ref 125]) (h2 := (sh_rep m.T m.I m.J)) rfl rfl rfl ?_
    refine sh_w (i := (.iload_n 2)) (len := 1) (pc2 := 5) (lv2 := [(0, .ref 1), (1, .int x1), (2, .int x2), (3, .ref 125)]) (st2 := [.int x2, .int x1, .ref 1, .int 0, .ref 125]) (h2 := (sh_rep m.T m.I m.J)) rfl rfl rfl ?_
    exact kk
  rcases sh_bh_e e with ⟨m11, e1, e⟩ | ⟨r1, m11, e1, e⟩
  · refine sh_Lk_tCV (hpc := 13) (k2 := 237) (a := 0) (as := [.ref 1, .int x1, .int x2]) (rest := [.int 0, .ref 125]) rfl rfl rfl (fun hT => (sh_s0 hT.st)) rfl rfl ⟨Nat.le_of_ble_eq_true rfl, Nat.le_of_ble_eq_true rfl⟩ (sl_237 e1 ⟨rfl, rfl⟩) rfl rfl rfl (Nat.le_of_ble_eq_true rfl) (Nat.le_of_ble_eq_true rfl) (fun xe => ?_)
    refine sh_Lk_lift (T := m11.T) (I := m11.I) (J := m11.J) (s := m11.s) (pc2 := 16) (lv2 := [(4, .ref xe), (0, .ref 1), (1, .int x1), (2, .int x2), (3, .ref 125)]) (st2 := [.int 1]) (I2 := m11.I) (J2 := m11.J) (fun hT v kk => ?_) ?_
    · refine sh_w (i := (.astore 4)) (len := 2) (pc2 := 15) (lv2 := [(4, .ref xe), (0, .ref 1), (1, .int x1), (2, .int x2), (3, .ref 125)]) (st2 := []) (h2 := (sh_rep m11.T m11.I m11.J)) rfl rfl rfl ?_
      refine sh_w (i := (.iconst 1)) (len := 1) (pc2 := 16) (lv2 := [(4, .ref xe), (0, .ref 1), (1, .int x1), (2, .int x2), (3, .ref 125)]) (st2 := [.int 1]) (h2 := (sh_rep m11.T m11.I m11.J)) rfl rfl rfl ?_
      exact kk
    obtain rfl := Option.some.inj e
    obtain ⟨rfl, rfl⟩ := tg
    exact sh_Lk_ret (i := .ireturn) rfl rfl rfl (Nat.le_of_ble_eq_true rfl) (Nat.le_of_ble_eq_true rfl)
  refine sh_Lk_cV (r := (some (.int r1))) (st2 := [.int r1, .int 0, .ref 125]) (pc2 := 8) (k2 := 237) (a := 0) (as := [.ref 1, .int x1, .int x2]) (rest := [.int 0, .ref 125]) rfl rfl rfl (fun hT => (sh_s0 hT.st)) rfl rfl ⟨Nat.le_of_ble_eq_true rfl, Nat.le_of_ble_eq_true rfl⟩ (sl_237 e1 ⟨rfl, rfl⟩) rfl rfl (Nat.le_of_ble_eq_true rfl) (Nat.le_of_ble_eq_true rfl) ?_
  refine sh_Lk_lift (T := m11.T) (I := m11.I) (J := m11.J) (s := m11.s) (pc2 := 18) (lv2 := [(0, .ref 1), (1, .int x1), (2, .int x2), (3, .ref 125)]) (st2 := [.int 0]) (I2 := m11.I) (J2 := sh_u2 m11.J 124 0 (Int32.toInt64 r1)) (fun hT v kk => ?_) ?_
  · refine sh_w (i := .i2l) (len := 1) (pc2 := 9) (lv2 := [(0, .ref 1), (1, .int x1), (2, .int x2), (3, .ref 125)]) (st2 := [.long (Int32.toInt64 r1), .int 0, .ref 125]) (h2 := (sh_rep m11.T m11.I m11.J)) rfl rfl rfl ?_
    refine sh_ls1 (x := Int32.toInt64 r1) (i := 0) (pc2 := 10) rfl (sh_s124 hT.st) (by decide) (by decide) rfl ?_
    refine sh_w (i := (.goto 7)) (len := 3) (pc2 := 17) (lv2 := [(0, .ref 1), (1, .int x1), (2, .int x2), (3, .ref 125)]) (st2 := []) (h2 := (sh_rep m11.T m11.I (sh_u2 m11.J 124 0 (Int32.toInt64 r1)))) rfl rfl rfl ?_
    refine sh_w (i := (.iconst 0)) (len := 1) (pc2 := 18) (lv2 := [(0, .ref 1), (1, .int x1), (2, .int x2), (3, .ref 125)]) (st2 := [.int 0]) (h2 := (sh_rep m11.T m11.I (sh_u2 m11.J 124 0 (Int32.toInt64 r1)))) rfl rfl rfl ?_
    exact kk
  obtain rfl := Option.some.inj e
  obtain ⟨rfl, rfl⟩ := tg
  exact sh_Lk_ret (i := .ireturn) rfl rfl rfl (Nat.le_of_ble_eq_true rfl) (Nat.le_of_ble_eq_true rfl)
theorem sl_239_41 {m m2 : sh_X} {o : Outcome} {z : (Option Unit × sh_X)} (e : sf_239_41 m = some z) (tg : (sh_tVt o m2) z) : sh_Lk 239 41 [] [] m o m2 10 244 := by
  unfold sf_239_41 at e
  obtain ⟨c, e⟩ := sh_gd e
  obtain rfl := Option.some.inj e
  obtain ⟨rfl, rfl⟩ := tg
  exact sh_Lk_thr rfl rfl rfl c (Nat.le_of_ble_eq_true rfl) rfl (Nat.le_of_ble_eq_true rfl) (Nat.le_of_ble_eq_true rfl) rfl
theorem sl_239_9 {x1 : Int32} {x2 : Int32} {x3 : Int32} {x4 : Int32} {m m2 : sh_X} {o : Outcome} {z : (Option Unit × sh_X)} (e : sf_239_9 x1 x2 x3 x4 m = some z) (tg : (sh_tVt o m2) z) : sh_Lk 239 9 [(0, .ref 1), (1, .int x1), (2, .int x2), (3, .int x3), (4, .int x4)] [] m o m2 10 244 := by
  unfold sf_239_9 at e
  refine sh_Lk_lift (T := m.T) (I := m.I) (J := m.J) (s := m.s) (pc2 := 11) (lv2 := [(0, .ref 1), (1, .int x1), (2, .int x2), (3, .int x3), (4, .int x4)]) (st2 := [.int x1, .ref 1]) (I2 := m.I) (J2 := m.J) (fun hT v kk => ?_) ?_
  · refine sh_w (i := (.aload_n 0)) (len := 1) (pc2 := 10) (lv2 := [(0, .ref 1), (1, .int x1), (2, .int x2), (3, .int x3), (4, .int x4)]) (st2 := [.ref 1]) (h2 := (sh_rep m.T m.I m.J)) rfl rfl rfl ?_
    refine sh_w (i := (.iload_n 1)) (len := 1) (pc2 := 11) (lv2 := [(0, .ref 1), (1, .int x1), (2, .int x2), (3, .int x3), (4, .int x4)]) (st2 := [.int x1, .ref 1]) (h2 := (sh_rep m.T m.I m.J)) rfl rfl rfl ?_
    exact kk
  rcases sh_ite e with ⟨c0, e⟩ | ⟨c0, e⟩
  · refine sh_Lk_so (x := x1) (w := .ref 14) (pc2 := 14) rfl rfl (if_pos c0) rfl (Nat.le_of_ble_eq_true rfl) (Nat.le_of_ble_eq_true rfl) (Nat.le_of_ble_eq_true rfl) ?_
    refine sh_Lk_lift (T := m.T) (I := m.I) (J := m.J) (s := m.s) (pc2 := 24) (lv2 := [(5, .ref 14), (0, .ref 1), (1, .int x1), (2, .int x2), (3, .int x3), (4, .int x4)]) (st2 := [.int (m.I 0 13)]) (I2 := m.I) (J2 := m.J) (fun hT v kk => ?_) ?_
    · refine sh_w (i := (.goto 4)) (len := 3) (pc2 := 18) (lv2 := [(0, .ref 1), (1, .int x1), (2, .int x2), (3, .int x3), (4, .int x4)]) (st2 := [.ref 14]) (h2 := (sh_rep m.T m.I m.J)) rfl rfl rfl ?_
      refine sh_w (i := (.astore 5)) (len := 2) (pc2 := 20) (lv2 := [(5, .ref 14), (0, .ref 1), (1, .int x1), (2, .int x2), (3, .int x3), (4, .int x4)]) (st2 := []) (h2 := (sh_rep m.T m.I m.J)) rfl rfl rfl ?_
      refine sh_w (i := (.aload_n 0)) (len := 1) (pc2 := 21) (lv2 := [(5, .ref 14), (0, .ref 1), (1, .int x1), (2, .int x2), (3, .int x3), (4, .int x4)]) (st2 := [.ref 1]) (h2 := (sh_rep m.T m.I m.J)) rfl rfl rfl ?_
      refine sh_gI1 (len := 3) (x := m.I 0 13) (pc2 := 24) rfl rfl (sh_s0 hT.st) rfl rfl rfl ?_
      exact kk
    rcases sh_ite e with ⟨c, e⟩ | ⟨c, e⟩
    · refine sh_Lk_lift (T := m.T) (I := m.I) (J := m.J) (s := m.s) (pc2 := 41) (lv2 := [(5, .ref 14), (0, .ref 1), (1, .int x1), (2, .int x2), (3, .int x3), (4, .int x4)]) (st2 := []) (I2 := m.I) (J2 := m.J) (fun hT v kk => ?_) ?_
      · refine sh_j0 (c := .eq) (off := (17)) (pc2 := 41) true rfl (sh_Beqt c) rfl ?_
        exact kk
      exact sh_Lk_sub (sh_sub_n) (sl_239_41 e tg)
    · refine sh_Lk_lift (T := m.T) (I := m.I) (J := m.J) (s := m.s) (pc2 := 35) (lv2 := [(5, .ref 14), (0, .ref 1), (1, .int x1), (2, .int x2), (3, .int x3), (4, .int x4)]) (st2 := [.int x2, .ref 14]) (I2 := m.I) (J2 := m.J) (fun hT v kk => ?_) ?_
      · refine sh_j0 (c := .eq) (off := (17)) (pc2 := 27) false rfl (sh_Beqf c) rfl ?_
        refine sh_w (i := (.aload 5)) (len := 2) (pc2 := 29) (lv2 := [(5, .ref 14), (0, .ref 1), (1, .int x1), (2, .int x2), (3, .int x3), (4, .int x4)]) (st2 := [.ref 14]) (h2 := (sh_rep m.T m.I m.J)) rfl rfl rfl ?_
        refine sh_w (i := (.ifnull 12)) (len := 3) (pc2 := 32) (lv2 := [(5, .ref 14), (0, .ref 1), (1, .int x1), (2, .int x2), (3, .int x3), (4, .int x4)]) (st2 := []) (h2 := (sh_rep m.T m.I m.J)) rfl rfl rfl ?_
        refine sh_w (i := (.aload 5)) (len := 2) (pc2 := 34) (lv2 := [(5, .ref 14), (0, .ref 1), (1, .int x1), (2, .int x2), (3, .int x3), (4, .int x4)]) (st2 := [.ref 14]) (h2 := (sh_rep m.T m.I m.J)) rfl rfl rfl ?_
        refine sh_w (i := (.iload_n 2)) (len := 1) (pc2 := 35) (lv2 := [(5, .ref 14), (0, .ref 1), (1, .int x1), (2, .int x2), (3, .int x3), (4, .int x4)]) (st2 := [.int x2, .ref 14]) (h2 := (sh_rep m.T m.I m.J)) rfl rfl rfl ?_
        exact kk
      obtain ⟨r1, e1, e⟩ := sh_bc_e e
      refine sh_Lk_cV (r := (some (.int (sh_b2 r1)))) (st2 := [.int (sh_b2 r1)]) (pc2 := 38) (k2 := 228) (a := 13) (as := [.ref 14, .int x2]) (rest := []) rfl rfl rfl (fun hT => (sh_s13 hT.st)) rfl rfl ⟨Nat.le_of_ble_eq_true rfl, Nat.le_of_ble_eq_true rfl⟩ (sl_228 (by decide) e1 ⟨rfl, rfl⟩) rfl rfl (Nat.le_of_ble_eq_true rfl) (Nat.le_of_ble_eq_true rfl) ?_
      rcases sh_ite e with ⟨c, e⟩ | ⟨c, e⟩
      · refine sh_Lk_lift (T := m.T) (I := m.I) (J := m.J) (s := m.s) (pc2 := 65) (lv2 := [(5, .ref 14), (0, .ref 1), (1, .int x1), (2, .int x2), (3, .int x3), (4, .int x4)]) (st2 := [.long (((Int32.toInt64 x3) <<< (Int32.toInt64 32 &&& 63)) ||| ((Int32.toInt64 x4) &&& (4294967295 : Int64))), .int x2, .ref 14]) (I2 := m.I) (J2 := m.J) (fun hT v kk => ?_) ?_
        · refine sh_j0 (c := .ne) (off := (11)) (pc2 := 49) true rfl (sh_Znet c) rfl ?_
          refine sh_w (i := (.aload 5)) (len := 2) (pc2 := 51) (lv2 := [(5, .ref 14), (0, .ref 1), (1, .int x1), (2, .int x2), (3, .int x3), (4, .int x4)]) (st2 := [.ref 14]) (h2 := (sh_rep m.T m.I m.J)) rfl rfl rfl ?_
          refine sh_w (i := (.iload_n 2)) (len := 1) (pc2 := 52) (lv2 := [(5, .ref 14), (0, .ref 1), (1, .int x1), (2, .int x2), (3, .int x3), (4, .int x4)]) (st2 := [.int x2, .ref 14]) (h2 := (sh_rep m.T m.I m.J)) rfl rfl rfl ?_
          refine sh_w (i := (.iload_n 3)) (len := 1) (pc2 := 53) (lv2 := [(5, .ref 14), (0, .ref 1), (1, .int x1), (2, .int x2), (3, .int x3), (4, .int x4)]) (st2 := [.int x3, .int x2, .ref 14]) (h2 := (sh_rep m.T m.I m.J)) rfl rfl rfl ?_
          refine sh_w (i := .i2l) (len := 1) (pc2 := 54) (lv2 := [(5, .ref 14), (0, .ref 1), (1, .int x1), (2, .int x2), (3, .int x3), (4, .int x4)]) (st2 := [.long (Int32.toInt64 x3), .int x2, .ref 14]) (h2 := (sh_rep m.T m.I m.J)) rfl rfl rfl ?_
          refine sh_w (i := (.bipush 32)) (len := 2) (pc2 := 56) (lv2 := [(5, .ref 14), (0, .ref 1), (1, .int x1), (2, .int x2), (3, .int x3), (4, .int x4)]) (st2 := [.int 32, .long (Int32.toInt64 x3), .int x2, .ref 14]) (h2 := (sh_rep m.T m.I m.J)) rfl rfl rfl ?_
          refine sh_w (i := .lshl) (len := 1) (pc2 := 57) (lv2 := [(5, .ref 14), (0, .ref 1), (1, .int x1), (2, .int x2), (3, .int x3), (4, .int x4)]) (st2 := [.long ((Int32.toInt64 x3) <<< (Int32.toInt64 32 &&& 63)), .int x2, .ref 14]) (h2 := (sh_rep m.T m.I m.J)) rfl rfl rfl ?_
          refine sh_w (i := (.iload 4)) (len := 2) (pc2 := 59) (lv2 := [(5, .ref 14), (0, .ref 1), (1, .int x1), (2, .int x2), (3, .int x3), (4, .int x4)]) (st2 := [.int x4, .long ((Int32.toInt64 x3) <<< (Int32.toInt64 32 &&& 63)), .int x2, .ref 14]) (h2 := (sh_rep m.T m.I m.J)) rfl rfl rfl ?_
          refine sh_w (i := .i2l) (len := 1) (pc2 := 60) (lv2 := [(5, .ref 14), (0, .ref 1), (1, .int x1), (2, .int x2), (3, .int x3), (4, .int x4)]) (st2 := [.long (Int32.toInt64 x4), .long ((Int32.toInt64 x3) <<< (Int32.toInt64 32 &&& 63)), .int x2, .ref 14]) (h2 := (sh_rep m.T m.I m.J)) rfl rfl rfl ?_
          refine sh_w (i := (.ldc2_w 146)) (len := 3) (pc2 := 63) (lv2 := [(5, .ref 14), (0, .ref 1), (1, .int x1), (2, .int x2), (3, .int x3), (4, .int x4)]) (st2 := [.long 4294967295, .long (Int32.toInt64 x4), .long ((Int32.toInt64 x3) <<< (Int32.toInt64 32 &&& 63)), .int x2, .ref 14]) (h2 := (sh_rep m.T m.I m.J)) rfl rfl rfl ?_
          refine sh_w (i := .land) (len := 1) (pc2 := 64) (lv2 := [(5, .ref 14), (0, .ref 1), (1, .int x1), (2, .int x2), (3, .int x3), (4, .int x4)]) (st2 := [.long ((Int32.toInt64 x4) &&& (4294967295 : Int64)), .long ((Int32.toInt64 x3) <<< (Int32.toInt64 32 &&& 63)), .int x2, .ref 14]) (h2 := (sh_rep m.T m.I m.J)) rfl rfl rfl ?_
          refine sh_w (i := .lor) (len := 1) (pc2 := 65) (lv2 := [(5, .ref 14), (0, .ref 1), (1, .int x1), (2, .int x2), (3, .int x3), (4, .int x4)]) (st2 := [.long (((Int32.toInt64 x3) <<< (Int32.toInt64 32 &&& 63)) ||| ((Int32.toInt64 x4) &&& (4294967295 : Int64))), .int x2, .ref 14]) (h2 := (sh_rep m.T m.I m.J)) rfl rfl rfl ?_
          exact kk
        obtain ⟨r2, m12, e2, e⟩ := sh_bn_e e
        refine sh_Lk_cV (r := none) (st2 := []) (pc2 := 68) (k2 := 235) (a := 13) (as := [.ref 14, .int x2, .long (((Int32.toInt64 x3) <<< (Int32.toInt64 32 &&& 63)) ||| ((Int32.toInt64 x4) &&& (4294967295 : Int64)))]) (rest := []) rfl rfl rfl (fun hT => (sh_s13 hT.st)) rfl rfl ⟨Nat.le_of_ble_eq_true rfl, Nat.le_of_ble_eq_true rfl⟩ (sl_235 (by decide) e2 ⟨rfl, rfl⟩) rfl rfl (Nat.le_of_ble_eq_true rfl) (Nat.le_of_ble_eq_true rfl) ?_
        obtain rfl := Option.some.inj e
        obtain ⟨rfl, rfl⟩ := tg
        exact sh_Lk_ret (i := .return_) rfl rfl rfl (Nat.le_of_ble_eq_true rfl) (Nat.le_of_ble_eq_true rfl)
      · refine sh_Lk_lift (T := m.T) (I := m.I) (J := m.J) (s := m.s) (pc2 := 41) (lv2 := [(5, .ref 14), (0, .ref 1), (1, .int x1), (2, .int x2), (3, .int x3), (4, .int x4)]) (st2 := []) (I2 := m.I) (J2 := m.J) (fun hT v kk => ?_) ?_
        · refine sh_j0 (c := .ne) (off := (11)) (pc2 := 41) false rfl (sh_Znef c) rfl ?_
          exact kk
        exact sh_Lk_sub (sh_sub_n) (sl_239_41 e tg)
  · rcases sh_ite e with ⟨c1, e⟩ | ⟨c1, e⟩
    · refine sh_Lk_so (x := x1) (w := .ref 19) (pc2 := 14) rfl rfl ((if_neg c0).trans (if_pos c1)) rfl (Nat.le_of_ble_eq_true rfl) (Nat.le_of_ble_eq_true rfl) (Nat.le_of_ble_eq_true rfl) ?_
      refine sh_Lk_lift (T := m.T) (I := m.I) (J := m.J) (s := m.s) (pc2 := 24) (lv2 := [(5, .ref 19), (0, .ref 1), (1, .int x1), (2, .int x2), (3, .int x3), (4, .int x4)]) (st2 := [.int (m.I 0 13)]) (I2 := m.I) (J2 := m.J) (fun hT v kk => ?_) ?_
      · refine sh_w (i := (.goto 4)) (len := 3) (pc2 := 18) (lv2 := [(0, .ref 1), (1, .int x1), (2, .int x2), (3, .int x3), (4, .int x4)]) (st2 := [.ref 19]) (h2 := (sh_rep m.T m.I m.J)) rfl rfl rfl ?_
        refine sh_w (i := (.astore 5)) (len := 2) (pc2 := 20) (lv2 := [(5, .ref 19), (0, .ref 1), (1, .int x1), (2, .int x2), (3, .int x3), (4, .int x4)]) (st2 := []) (h2 := (sh_rep m.T m.I m.J)) rfl rfl rfl ?_
        refine sh_w (i := (.aload_n 0)) (len := 1) (pc2 := 21) (lv2 := [(5, .ref 19), (0, .ref 1), (1, .int x1), (2, .int x2), (3, .int x3), (4, .int x4)]) (st2 := [.ref 1]) (h2 := (sh_rep m.T m.I m.J)) rfl rfl rfl ?_
        refine sh_gI1 (len := 3) (x := m.I 0 13) (pc2 := 24) rfl rfl (sh_s0 hT.st) rfl rfl rfl ?_
        exact kk
      rcases sh_ite e with ⟨c, e⟩ | ⟨c, e⟩
      · refine sh_Lk_lift (T := m.T) (I := m.I) (J := m.J) (s := m.s) (pc2 := 41) (lv2 := [(5, .ref 19), (0, .ref 1), (1, .int x1), (2, .int x2), (3, .int x3), (4, .int x4)]) (st2 := []) (I2 := m.I) (J2 := m.J) (fun hT v kk => ?_) ?_
        · refine sh_j0 (c := .eq) (off := (17)) (pc2 := 41) true rfl (sh_Beqt c) rfl ?_
          exact kk
        exact sh_Lk_sub (sh_sub_n) (sl_239_41 e tg)
      · refine sh_Lk_lift (T := m.T) (I := m.I) (J := m.J) (s := m.s) (pc2 := 35) (lv2 := [(5, .ref 19), (0, .ref 1), (1, .int x1), (2, .int x2), (3, .int x3), (4, .int x4)]) (st2 := [.int x2, .ref 19]) (I2 := m.I) (J2 := m.J) (fun hT v kk => ?_) ?_
        · refine sh_j0 (c := .eq) (off := (17)) (pc2 := 27) false rfl (sh_Beqf c) rfl ?_
          refine sh_w (i := (.aload 5)) (len := 2) (pc2 := 29) (lv2 := [(5, .ref 19), (0, .ref 1), (1, .int x1), (2, .int x2), (3, .int x3), (4, .int x4)]) (st2 := [.ref 19]) (h2 := (sh_rep m.T m.I m.J)) rfl rfl rfl ?_
          refine sh_w (i := (.ifnull 12)) (len := 3) (pc2 := 32) (lv2 := [(5, .ref 19), (0, .ref 1), (1, .int x1), (2, .int x2), (3, .int x3), (4, .int x4)]) (st2 := []) (h2 := (sh_rep m.T m.I m.J)) rfl rfl rfl ?_
          refine sh_w (i := (.aload 5)) (len := 2) (pc2 := 34) (lv2 := [(5, .ref 19), (0, .ref 1), (1, .int x1), (2, .int x2), (3, .int x3), (4, .int x4)]) (st2 := [.ref 19]) (h2 := (sh_rep m.T m.I m.J)) rfl rfl rfl ?_
          refine sh_w (i := (.iload_n 2)) (len := 1) (pc2 := 35) (lv2 := [(5, .ref 19), (0, .ref 1), (1, .int x1), (2, .int x2), (3, .int x3), (4, .int x4)]) (st2 := [.int x2, .ref 19]) (h2 := (sh_rep m.T m.I m.J)) rfl rfl rfl ?_
          exact kk
        obtain ⟨r3, e3, e⟩ := sh_bc_e e
        refine sh_Lk_cV (r := (some (.int (sh_b2 r3)))) (st2 := [.int (sh_b2 r3)]) (pc2 := 38) (k2 := 228) (a := 18) (as := [.ref 19, .int x2]) (rest := []) rfl rfl rfl (fun hT => (sh_s18 hT.st)) rfl rfl ⟨Nat.le_of_ble_eq_true rfl, Nat.le_of_ble_eq_true rfl⟩ (sl_228 (by decide) e3 ⟨rfl, rfl⟩) rfl rfl (Nat.le_of_ble_eq_true rfl) (Nat.le_of_ble_eq_true rfl) ?_
        rcases sh_ite e with ⟨c, e⟩ | ⟨c, e⟩
        · refine sh_Lk_lift (T := m.T) (I := m.I) (J := m.J) (s := m.s) (pc2 := 65) (lv2 := [(5, .ref 19), (0, .ref 1), (1, .int x1), (2, .int x2), (3, .int x3), (4, .int x4)]) (st2 := [.long (((Int32.toInt64 x3) <<< (Int32.toInt64 32 &&& 63)) ||| ((Int32.toInt64 x4) &&& (4294967295 : Int64))), .int x2, .ref 19]) (I2 := m.I) (J2 := m.J) (fun hT v kk => ?_) ?_
          · refine sh_j0 (c := .ne) (off := (11)) (pc2 := 49) true rfl (sh_Znet c) rfl ?_
            refine sh_w (i := (.aload 5)) (len := 2) (pc2 := 51) (lv2 := [(5, .ref 19), (0, .ref 1), (1, .int x1), (2, .int x2), (3, .int x3), (4, .int x4)]) (st2 := [.ref 19]) (h2 := (sh_rep m.T m.I m.J)) rfl rfl rfl ?_
            refine sh_w (i := (.iload_n 2)) (len := 1) (pc2 := 52) (lv2 := [(5, .ref 19), (0, .ref 1), (1, .int x1), (2, .int x2), (3, .int x3), (4, .int x4)]) (st2 := [.int x2, .ref 19]) (h2 := (sh_rep m.T m.I m.J)) rfl rfl rfl ?_
            refine sh_w (i := (.iload_n 3)) (len := 1) (pc2 := 53) (lv2 := [(5, .ref 19), (0, .ref 1), (1, .int x1), (2, .int x2), (3, .int x3), (4, .int x4)]) (st2 := [.int x3, .int x2, .ref 19]) (h2 := (sh_rep m.T m.I m.J)) rfl rfl rfl ?_
            refine sh_w (i := .i2l) (len := 1) (pc2 := 54) (lv2 := [(5, .ref 19), (0, .ref 1), (1, .int x1), (2, .int x2), (3, .int x3), (4, .int x4)]) (st2 := [.long (Int32.toInt64 x3), .int x2, .ref 19]) (h2 := (sh_rep m.T m.I m.J)) rfl rfl rfl ?_
            refine sh_w (i := (.bipush 32)) (len := 2) (pc2 := 56) (lv2 := [(5, .ref 19), (0, .ref 1), (1, .int x1), (2, .int x2), (3, .int x3), (4, .int x4)]) (st2 := [.int 32, .long (Int32.toInt64 x3), .int x2, .ref 19]) (h2 := (sh_rep m.T m.I m.J)) rfl rfl rfl ?_
            refine sh_w (i := .lshl) (len := 1) (pc2 := 57) (lv2 := [(5, .ref 19), (0, .ref 1), (1, .int x1), (2, .int x2), (3, .int x3), (4, .int x4)]) (st2 := [.long ((Int32.toInt64 x3) <<< (Int32.toInt64 32 &&& 63)), .int x2, .ref 19]) (h2 := (sh_rep m.T m.I m.J)) rfl rfl rfl ?_
            refine sh_w (i := (.iload 4)) (len := 2) (pc2 := 59) (lv2 := [(5, .ref 19), (0, .ref 1), (1, .int x1), (2, .int x2), (3, .int x3), (4, .int x4)]) (st2 := [.int x4, .long ((Int32.toInt64 x3) <<< (Int32.toInt64 32 &&& 63)), .int x2, .ref 19]) (h2 := (sh_rep m.T m.I m.J)) rfl rfl rfl ?_
            refine sh_w (i := .i2l) (len := 1) (pc2 := 60) (lv2 := [(5, .ref 19), (0, .ref 1), (1, .int x1), (2, .int x2), (3, .int x3), (4, .int x4)]) (st2 := [.long (Int32.toInt64 x4), .long ((Int32.toInt64 x3) <<< (Int32.toInt64 32 &&& 63)), .int x2, .ref 19]) (h2 := (sh_rep m.T m.I m.J)) rfl rfl rfl ?_
            refine sh_w (i := (.ldc2_w 146)) (len := 3) (pc2 := 63) (lv2 := [(5, .ref 19), (0, .ref 1), (1, .int x1), (2, .int x2), (3, .int x3), (4, .int x4)]) (st2 := [.long 4294967295, .long (Int32.toInt64 x4), .long ((Int32.toInt64 x3) <<< (Int32.toInt64 32 &&& 63)), .int x2, .ref 19]) (h2 := (sh_rep m.T m.I m.J)) rfl rfl rfl ?_
            refine sh_w (i := .land) (len := 1) (pc2 := 64) (lv2 := [(5, .ref 19), (0, .ref 1), (1, .int x1), (2, .int x2), (3, .int x3), (4, .int x4)]) (st2 := [.long ((Int32.toInt64 x4) &&& (4294967295 : Int64)), .long ((Int32.toInt64 x3) <<< (Int32.toInt64 32 &&& 63)), .int x2, .ref 19]) (h2 := (sh_rep m.T m.I m.J)) rfl rfl rfl ?_
            refine sh_w (i := .lor) (len := 1) (pc2 := 65) (lv2 := [(5, .ref 19), (0, .ref 1), (1, .int x1), (2, .int x2), (3, .int x3), (4, .int x4)]) (st2 := [.long (((Int32.toInt64 x3) <<< (Int32.toInt64 32 &&& 63)) ||| ((Int32.toInt64 x4) &&& (4294967295 : Int64))), .int x2, .ref 19]) (h2 := (sh_rep m.T m.I m.J)) rfl rfl rfl ?_
            exact kk
          obtain ⟨r4, m14, e4, e⟩ := sh_bn_e e
          refine sh_Lk_cV (r := none) (st2 := []) (pc2 := 68) (k2 := 235) (a := 18) (as := [.ref 19, .int x2, .long (((Int32.toInt64 x3) <<< (Int32.toInt64 32 &&& 63)) ||| ((Int32.toInt64 x4) &&& (4294967295 : Int64)))]) (rest := []) rfl rfl rfl (fun hT => (sh_s18 hT.st)) rfl rfl ⟨Nat.le_of_ble_eq_true rfl, Nat.le_of_ble_eq_true rfl⟩ (sl_235 (by decide) e4 ⟨rfl, rfl⟩) rfl rfl (Nat.le_of_ble_eq_true rfl) (Nat.le_of_ble_eq_true rfl) ?_
          obtain rfl := Option.some.inj e
          obtain ⟨rfl, rfl⟩ := tg
          exact sh_Lk_ret (i := .return_) rfl rfl rfl (Nat.le_of_ble_eq_true rfl) (Nat.le_of_ble_eq_true rfl)
        · refine sh_Lk_lift (T := m.T) (I := m.I) (J := m.J) (s := m.s) (pc2 := 41) (lv2 := [(5, .ref 19), (0, .ref 1), (1, .int x1), (2, .int x2), (3, .int x3), (4, .int x4)]) (st2 := []) (I2 := m.I) (J2 := m.J) (fun hT v kk => ?_) ?_
          · refine sh_j0 (c := .ne) (off := (11)) (pc2 := 41) false rfl (sh_Znef c) rfl ?_
            exact kk
          exact sh_Lk_sub (sh_sub_n) (sl_239_41 e tg)
    · rcases sh_ite e with ⟨c2, e⟩ | ⟨c2, e⟩
      · refine sh_Lk_so (x := x1) (w := .ref 24) (pc2 := 14) rfl rfl ((if_neg c0).trans ((if_neg c1).trans (if_pos c2))) rfl (Nat.le_of_ble_eq_true rfl) (Nat.le_of_ble_eq_true rfl) (Nat.le_of_ble_eq_true rfl) ?_
        refine sh_Lk_lift (T := m.T) (I := m.I) (J := m.J) (s := m.s) (pc2 := 24) (lv2 := [(5, .ref 24), (0, .ref 1), (1, .int x1), (2, .int x2), (3, .int x3), (4, .int x4)]) (st2 := [.int (m.I 0 13)]) (I2 := m.I) (J2 := m.J) (fun hT v kk => ?_) ?_
        · refine sh_w (i := (.goto 4)) (len := 3) (pc2 := 18) (lv2 := [(0, .ref 1), (1, .int x1), (2, .int x2), (3, .int x3), (4, .int x4)]) (st2 := [.ref 24]) (h2 := (sh_rep m.T m.I m.J)) rfl rfl rfl ?_
          refine sh_w (i := (.astore 5)) (len := 2) (pc2 := 20) (lv2 := [(5, .ref 24), (0, .ref 1), (1, .int x1), (2, .int x2), (3, .int x3), (4, .int x4)]) (st2 := []) (h2 := (sh_rep m.T m.I m.J)) rfl rfl rfl ?_
          refine sh_w (i := (.aload_n 0)) (len := 1) (pc2 := 21) (lv2 := [(5, .ref 24), (0, .ref 1), (1, .int x1), (2, .int x2), (3, .int x3), (4, .int x4)]) (st2 := [.ref 1]) (h2 := (sh_rep m.T m.I m.J)) rfl rfl rfl ?_
          refine sh_gI1 (len := 3) (x := m.I 0 13) (pc2 := 24) rfl rfl (sh_s0 hT.st) rfl rfl rfl ?_
          exact kk
        rcases sh_ite e with ⟨c, e⟩ | ⟨c, e⟩
        · refine sh_Lk_lift (T := m.T) (I := m.I) (J := m.J) (s := m.s) (pc2 := 41) (lv2 := [(5, .ref 24), (0, .ref 1), (1, .int x1), (2, .int x2), (3, .int x3), (4, .int x4)]) (st2 := []) (I2 := m.I) (J2 := m.J) (fun hT v kk => ?_) ?_
          · refine sh_j0 (c := .eq) (off := (17)) (pc2 := 41) true rfl (sh_Beqt c) rfl ?_
            exact kk
          exact sh_Lk_sub (sh_sub_n) (sl_239_41 e tg)
        · refine sh_Lk_lift (T := m.T) (I := m.I) (J := m.J) (s := m.s) (pc2 := 35) (lv2 := [(5, .ref 24), (0, .ref 1), (1, .int x1), (2, .int x2), (3, .int x3), (4, .int x4)]) (st2 := [.int x2, .ref 24]) (I2 := m.I) (J2 := m.J) (fun hT v kk => ?_) ?_
          · refine sh_j0 (c := .eq) (off := (17)) (pc2 := 27) false rfl (sh_Beqf c) rfl ?_
            refine sh_w (i := (.aload 5)) (len := 2) (pc2 := 29) (lv2 := [(5, .ref 24), (0, .ref 1), (1, .int x1), (2, .int x2), (3, .int x3), (4, .int x4)]) (st2 := [.ref 24]) (h2 := (sh_rep m.T m.I m.J)) rfl rfl rfl ?_
            refine sh_w (i := (.ifnull 12)) (len := 3) (pc2 := 32) (lv2 := [(5, .ref 24), (0, .ref 1), (1, .int x1), (2, .int x2), (3, .int x3), (4, .int x4)]) (st2 := []) (h2 := (sh_rep m.T m.I m.J)) rfl rfl rfl ?_
            refine sh_w (i := (.aload 5)) (len := 2) (pc2 := 34) (lv2 := [(5, .ref 24), (0, .ref 1), (1, .int x1), (2, .int x2), (3, .int x3), (4, .int x4)]) (st2 := [.ref 24]) (h2 := (sh_rep m.T m.I m.J)) rfl rfl rfl ?_
            refine sh_w (i := (.iload_n 2)) (len := 1) (pc2 := 35) (lv2 := [(5, .ref 24), (0, .ref 1), (1, .int x1), (2, .int x2), (3, .int x3), (4, .int x4)]) (st2 := [.int x2, .ref 24]) (h2 := (sh_rep m.T m.I m.J)) rfl rfl rfl ?_
            exact kk
          obtain ⟨r5, e5, e⟩ := sh_bc_e e
          refine sh_Lk_cV (r := (some (.int (sh_b2 r5)))) (st2 := [.int (sh_b2 r5)]) (pc2 := 38) (k2 := 228) (a := 23) (as := [.ref 24, .int x2]) (rest := []) rfl rfl rfl (fun hT => (sh_s23 hT.st)) rfl rfl ⟨Nat.le_of_ble_eq_true rfl, Nat.le_of_ble_eq_true rfl⟩ (sl_228 (by decide) e5 ⟨rfl, rfl⟩) rfl rfl (Nat.le_of_ble_eq_true rfl) (Nat.le_of_ble_eq_true rfl) ?_
          rcases sh_ite e with ⟨c, e⟩ | ⟨c, e⟩
          · refine sh_Lk_lift (T := m.T) (I := m.I) (J := m.J) (s := m.s) (pc2 := 65) (lv2 := [(5, .ref 24), (0, .ref 1), (1, .int x1), (2, .int x2), (3, .int x3), (4, .int x4)]) (st2 := [.long (((Int32.toInt64 x3) <<< (Int32.toInt64 32 &&& 63)) ||| ((Int32.toInt64 x4) &&& (4294967295 : Int64))), .int x2, .ref 24]) (I2 := m.I) (J2 := m.J) (fun hT v kk => ?_) ?_
            · refine sh_j0 (c := .ne) (off := (11)) (pc2 := 49) true rfl (sh_Znet c) rfl ?_
              refine sh_w (i := (.aload 5)) (len := 2) (pc2 := 51) (lv2 := [(5, .ref 24), (0, .ref 1), (1, .int x1), (2, .int x2), (3, .int x3), (4, .int x4)]) (st2 := [.ref 24]) (h2 := (sh_rep m.T m.I m.J)) rfl rfl rfl ?_
              refine sh_w (i := (.iload_n 2)) (len := 1) (pc2 := 52) (lv2 := [(5, .ref 24), (0, .ref 1), (1, .int x1), (2, .int x2), (3, .int x3), (4, .int x4)]) (st2 := [.int x2, .ref 24]) (h2 := (sh_rep m.T m.I m.J)) rfl rfl rfl ?_
              refine sh_w (i := (.iload_n 3)) (len := 1) (pc2 := 53) (lv2 := [(5, .ref 24), (0, .ref 1), (1, .int x1), (2, .int x2), (3, .int x3), (4, .int x4)]) (st2 := [.int x3, .int x2, .ref 24]) (h2 := (sh_rep m.T m.I m.J)) rfl rfl rfl ?_
              refine sh_w (i := .i2l) (len := 1) (pc2 := 54) (lv2 := [(5, .ref 24), (0, .ref 1), (1, .int x1), (2, .int x2), (3, .int x3), (4, .int x4)]) (st2 := [.long (Int32.toInt64 x3), .int x2, .ref 24]) (h2 := (sh_rep m.T m.I m.J)) rfl rfl rfl ?_
              refine sh_w (i := (.bipush 32)) (len := 2) (pc2 := 56) (lv2 := [(5, .ref 24), (0, .ref 1), (1, .int x1), (2, .int x2), (3, .int x3), (4, .int x4)]) (st2 := [.int 32, .long (Int32.toInt64 x3), .int x2, .ref 24]) (h2 := (sh_rep m.T m.I m.J)) rfl rfl rfl ?_
              refine sh_w (i := .lshl) (len := 1) (pc2 := 57) (lv2 := [(5, .ref 24), (0, .ref 1), (1, .int x1), (2, .int x2), (3, .int x3), (4, .int x4)]) (st2 := [.long ((Int32.toInt64 x3) <<< (Int32.toInt64 32 &&& 63)), .int x2, .ref 24]) (h2 := (sh_rep m.T m.I m.J)) rfl rfl rfl ?_
              refine sh_w (i := (.iload 4)) (len := 2) (pc2 := 59) (lv2 := [(5, .ref 24), (0, .ref 1), (1, .int x1), (2, .int x2), (3, .int x3), (4, .int x4)]) (st2 := [.int x4, .long ((Int32.toInt64 x3) <<< (Int32.toInt64 32 &&& 63)), .int x2, .ref 24]) (h2 := (sh_rep m.T m.I m.J)) rfl rfl rfl ?_
              refine sh_w (i := .i2l) (len := 1) (pc2 := 60) (lv2 := [(5, .ref 24), (0, .ref 1), (1, .int x1), (2, .int x2), (3, .int x3), (4, .int x4)]) (st2 := [.long (Int32.toInt64 x4), .long ((Int32.toInt64 x3) <<< (Int32.toInt64 32 &&& 63)), .int x2, .ref 24]) (h2 := (sh_rep m.T m.I m.J)) rfl rfl rfl ?_
              refine sh_w (i := (.ldc2_w 146)) (len := 3) (pc2 := 63) (lv2 := [(5, .ref 24), (0, .ref 1), (1, .int x1), (2, .int x2), (3, .int x3), (4, .int x4)]) (st2 := [.long 4294967295, .long (Int32.toInt64 x4), .long ((Int32.toInt64 x3) <<< (Int32.toInt64 32 &&& 63)), .int x2, .ref 24]) (h2 := (sh_rep m.T m.I m.J)) rfl rfl rfl ?_
              refine sh_w (i := .land) (len := 1) (pc2 := 64) (lv2 := [(5, .ref 24), (0, .ref 1), (1, .int x1), (2, .int x2), (3, .int x3), (4, .int x4)]) (st2 := [.long ((Int32.toInt64 x4) &&& (4294967295 : Int64)), .long ((Int32.toInt64 x3) <<< (Int32.toInt64 32 &&& 63)), .int x2, .ref 24]) (h2 := (sh_rep m.T m.I m.J)) rfl rfl rfl ?_
              refine sh_w (i := .lor) (len := 1) (pc2 := 65) (lv2 := [(5, .ref 24), (0, .ref 1), (1, .int x1), (2, .int x2), (3, .int x3), (4, .int x4)]) (st2 := [.long (((Int32.toInt64 x3) <<< (Int32.toInt64 32 &&& 63)) ||| ((Int32.toInt64 x4) &&& (4294967295 : Int64))), .int x2, .ref 24]) (h2 := (sh_rep m.T m.I m.J)) rfl rfl rfl ?_
              exact kk
            obtain ⟨r6, m16, e6, e⟩ := sh_bn_e e
            refine sh_Lk_cV (r := none) (st2 := []) (pc2 := 68) (k2 := 235) (a := 23) (as := [.ref 24, .int x2, .long (((Int32.toInt64 x3) <<< (Int32.toInt64 32 &&& 63)) ||| ((Int32.toInt64 x4) &&& (4294967295 : Int64)))]) (rest := []) rfl rfl rfl (fun hT => (sh_s23 hT.st)) rfl rfl ⟨Nat.le_of_ble_eq_true rfl, Nat.le_of_ble_eq_true rfl⟩ (sl_235 (by decide) e6 ⟨rfl, rfl⟩) rfl rfl (Nat.le_of_ble_eq_true rfl) (Nat.le_of_ble_eq_true rfl) ?_
            obtain rfl := Option.some.inj e
            obtain ⟨rfl, rfl⟩ := tg
            exact sh_Lk_ret (i := .return_) rfl rfl rfl (Nat.le_of_ble_eq_true rfl) (Nat.le_of_ble_eq_true rfl)
          · refine sh_Lk_lift (T := m.T) (I := m.I) (J := m.J) (s := m.s) (pc2 := 41) (lv2 := [(5, .ref 24), (0, .ref 1), (1, .int x1), (2, .int x2), (3, .int x3), (4, .int x4)]) (st2 := []) (I2 := m.I) (J2 := m.J) (fun hT v kk => ?_) ?_
            · refine sh_j0 (c := .ne) (off := (11)) (pc2 := 41) false rfl (sh_Znef c) rfl ?_
              exact kk
            exact sh_Lk_sub (sh_sub_n) (sl_239_41 e tg)
      · refine sh_Lk_so (x := x1) (w := .null) (pc2 := 14) rfl rfl ((if_neg c0).trans ((if_neg c1).trans (if_neg c2))) rfl (Nat.le_of_ble_eq_true rfl) (Nat.le_of_ble_eq_true rfl) (Nat.le_of_ble_eq_true rfl) ?_
        refine sh_Lk_lift (T := m.T) (I := m.I) (J := m.J) (s := m.s) (pc2 := 24) (lv2 := [(5, .null), (0, .ref 1), (1, .int x1), (2, .int x2), (3, .int x3), (4, .int x4)]) (st2 := [.int (m.I 0 13)]) (I2 := m.I) (J2 := m.J) (fun hT v kk => ?_) ?_
        · refine sh_w (i := (.goto 4)) (len := 3) (pc2 := 18) (lv2 := [(0, .ref 1), (1, .int x1), (2, .int x2), (3, .int x3), (4, .int x4)]) (st2 := [.null]) (h2 := (sh_rep m.T m.I m.J)) rfl rfl rfl ?_
          refine sh_w (i := (.astore 5)) (len := 2) (pc2 := 20) (lv2 := [(5, .null), (0, .ref 1), (1, .int x1), (2, .int x2), (3, .int x3), (4, .int x4)]) (st2 := []) (h2 := (sh_rep m.T m.I m.J)) rfl rfl rfl ?_
          refine sh_w (i := (.aload_n 0)) (len := 1) (pc2 := 21) (lv2 := [(5, .null), (0, .ref 1), (1, .int x1), (2, .int x2), (3, .int x3), (4, .int x4)]) (st2 := [.ref 1]) (h2 := (sh_rep m.T m.I m.J)) rfl rfl rfl ?_
          refine sh_gI1 (len := 3) (x := m.I 0 13) (pc2 := 24) rfl rfl (sh_s0 hT.st) rfl rfl rfl ?_
          exact kk
        rcases sh_ite e with ⟨c, e⟩ | ⟨c, e⟩
        · refine sh_Lk_lift (T := m.T) (I := m.I) (J := m.J) (s := m.s) (pc2 := 41) (lv2 := [(5, .null), (0, .ref 1), (1, .int x1), (2, .int x2), (3, .int x3), (4, .int x4)]) (st2 := []) (I2 := m.I) (J2 := m.J) (fun hT v kk => ?_) ?_
          · refine sh_j0 (c := .eq) (off := (17)) (pc2 := 41) true rfl (sh_Beqt c) rfl ?_
            exact kk
          exact sh_Lk_sub (sh_sub_n) (sl_239_41 e tg)
        · refine sh_Lk_lift (T := m.T) (I := m.I) (J := m.J) (s := m.s) (pc2 := 41) (lv2 := [(5, .null), (0, .ref 1), (1, .int x1), (2, .int x2), (3, .int x3), (4, .int x4)]) (st2 := []) (I2 := m.I) (J2 := m.J) (fun hT v kk => ?_) ?_
          · refine sh_j0 (c := .eq) (off := (17)) (pc2 := 27) false rfl (sh_Beqf c) rfl ?_
            refine sh_w (i := (.aload 5)) (len := 2) (pc2 := 29) (lv2 := [(5, .null), (0, .ref 1), (1, .int x1), (2, .int x2), (3, .int x3), (4, .int x4)]) (st2 := [.null]) (h2 := (sh_rep m.T m.I m.J)) rfl rfl rfl ?_
            refine sh_w (i := (.ifnull 12)) (len := 3) (pc2 := 41) (lv2 := [(5, .null), (0, .ref 1), (1, .int x1), (2, .int x2), (3, .int x3), (4, .int x4)]) (st2 := []) (h2 := (sh_rep m.T m.I m.J)) rfl rfl rfl ?_
            exact kk
          exact sh_Lk_sub (sh_sub_n) (sl_239_41 e tg)
theorem sl_239 {x1 : Int32} {x2 : Int32} {x3 : Int32} {x4 : Int32} {m m2 : sh_X} {o : Outcome} {z : (Option Unit × sh_X)} (e : sf_239 x1 x2 x3 x4 m = some z) (tg : (sh_tVt o m2) z) : sh_Lk 239 0 [(0, .ref 1), (1, .int x1), (2, .int x2), (3, .int x3), (4, .int x4)] [] m o m2 10 244 := by
  unfold sf_239 at e
  refine sh_Lk_lift (T := m.T) (I := m.I) (J := m.J) (s := m.s) (pc2 := 1) (lv2 := [(0, .ref 1), (1, .int x1), (2, .int x2), (3, .int x3), (4, .int x4)]) (st2 := [.int x1]) (I2 := m.I) (J2 := m.J) (fun hT v kk => ?_) ?_
  · refine sh_w (i := (.iload_n 1)) (len := 1) (pc2 := 1) (lv2 := [(0, .ref 1), (1, .int x1), (2, .int x2), (3, .int x3), (4, .int x4)]) (st2 := [.int x1]) (h2 := (sh_rep m.T m.I m.J)) rfl rfl rfl ?_
    exact kk
  rcases sh_ite e with ⟨c, e⟩ | ⟨c, e⟩
  · refine sh_Lk_lift (T := m.T) (I := m.I) (J := m.J) (s := m.s) (pc2 := 9) (lv2 := [(0, .ref 1), (1, .int x1), (2, .int x2), (3, .int x3), (4, .int x4)]) (st2 := []) (I2 := m.I) (J2 := m.J) (fun hT v kk => ?_) ?_
    · refine sh_j0 (c := .eq) (off := (8)) (pc2 := 9) true rfl (sh_Beqt c) rfl ?_
      exact kk
    exact sh_Lk_sub (sh_sub_c rfl (sh_sub_c rfl (sh_sub_c rfl (sh_sub_c rfl (sh_sub_c rfl (sh_sub_n)))))) (sl_239_9 e tg)
  · refine sh_Lk_lift (T := m.T) (I := m.I) (J := m.J) (s := m.s) (pc2 := 6) (lv2 := [(0, .ref 1), (1, .int x1), (2, .int x2), (3, .int x3), (4, .int x4)]) (st2 := [.int 1, .int x1]) (I2 := m.I) (J2 := m.J) (fun hT v kk => ?_) ?_
    · refine sh_j0 (c := .eq) (off := (8)) (pc2 := 4) false rfl (sh_Beqf c) rfl ?_
      refine sh_w (i := (.iload_n 1)) (len := 1) (pc2 := 5) (lv2 := [(0, .ref 1), (1, .int x1), (2, .int x2), (3, .int x3), (4, .int x4)]) (st2 := [.int x1]) (h2 := (sh_rep m.T m.I m.J)) rfl rfl rfl ?_
      refine sh_w (i := (.iconst 1)) (len := 1) (pc2 := 6) (lv2 := [(0, .ref 1), (1, .int x1), (2, .int x2), (3, .int x3), (4, .int x4)]) (st2 := [.int 1, .int x1]) (h2 := (sh_rep m.T m.I m.J)) rfl rfl rfl ?_
      exact kk
    rcases sh_ite e with ⟨c, e⟩ | ⟨c, e⟩
    · refine sh_Lk_lift (T := m.T) (I := m.I) (J := m.J) (s := m.s) (pc2 := 9) (lv2 := [(0, .ref 1), (1, .int x1), (2, .int x2), (3, .int x3), (4, .int x4)]) (st2 := []) (I2 := m.I) (J2 := m.J) (fun hT v kk => ?_) ?_
      · refine sh_jc (c := .ne) (off := (11)) (pc2 := 9) false rfl (sh_Bnef c) rfl ?_
        exact kk
      exact sh_Lk_sub (sh_sub_c rfl (sh_sub_c rfl (sh_sub_c rfl (sh_sub_c rfl (sh_sub_c rfl (sh_sub_n)))))) (sl_239_9 e tg)
    · refine sh_Lk_lift (T := m.T) (I := m.I) (J := m.J) (s := m.s) (pc2 := 24) (lv2 := [(5, .null), (0, .ref 1), (1, .int x1), (2, .int x2), (3, .int x3), (4, .int x4)]) (st2 := [.int (m.I 0 13)]) (I2 := m.I) (J2 := m.J) (fun hT v kk => ?_) ?_
      · refine sh_jc (c := .ne) (off := (11)) (pc2 := 17) true rfl (sh_Bnet c) rfl ?_
        refine sh_w (i := .aconst_null) (len := 1) (pc2 := 18) (lv2 := [(0, .ref 1), (1, .int x1), (2, .int x2), (3, .int x3), (4, .int x4)]) (st2 := [.null]) (h2 := (sh_rep m.T m.I m.J)) rfl rfl rfl ?_
        refine sh_w (i := (.astore 5)) (len := 2) (pc2 := 20) (lv2 := [(5, .null), (0, .ref 1), (1, .int x1), (2, .int x2), (3, .int x3), (4, .int x4)]) (st2 := []) (h2 := (sh_rep m.T m.I m.J)) rfl rfl rfl ?_
        refine sh_w (i := (.aload_n 0)) (len := 1) (pc2 := 21) (lv2 := [(5, .null), (0, .ref 1), (1, .int x1), (2, .int x2), (3, .int x3), (4, .int x4)]) (st2 := [.ref 1]) (h2 := (sh_rep m.T m.I m.J)) rfl rfl rfl ?_
        refine sh_gI1 (len := 3) (x := m.I 0 13) (pc2 := 24) rfl rfl (sh_s0 hT.st) rfl rfl rfl ?_
        exact kk
      rcases sh_ite e with ⟨c, e⟩ | ⟨c, e⟩
      · refine sh_Lk_lift (T := m.T) (I := m.I) (J := m.J) (s := m.s) (pc2 := 41) (lv2 := [(5, .null), (0, .ref 1), (1, .int x1), (2, .int x2), (3, .int x3), (4, .int x4)]) (st2 := []) (I2 := m.I) (J2 := m.J) (fun hT v kk => ?_) ?_
        · refine sh_j0 (c := .eq) (off := (17)) (pc2 := 41) true rfl (sh_Beqt c) rfl ?_
          exact kk
        exact sh_Lk_sub (sh_sub_n) (sl_239_41 e tg)
      · refine sh_Lk_lift (T := m.T) (I := m.I) (J := m.J) (s := m.s) (pc2 := 41) (lv2 := [(5, .null), (0, .ref 1), (1, .int x1), (2, .int x2), (3, .int x3), (4, .int x4)]) (st2 := []) (I2 := m.I) (J2 := m.J) (fun hT v kk => ?_) ?_
        · refine sh_j0 (c := .eq) (off := (17)) (pc2 := 27) false rfl (sh_Beqf c) rfl ?_
          refine sh_w (i := (.aload 5)) (len := 2) (pc2 := 29) (lv2 := [(5, .null), (0, .ref 1), (1, .int x1), (2, .int x2), (3, .int x3), (4, .int x4)]) (st2 := [.null]) (h2 := (sh_rep m.T m.I m.J)) rfl rfl rfl ?_
          refine sh_w (i := (.ifnull 12)) (len := 3) (pc2 := 41) (lv2 := [(5, .null), (0, .ref 1), (1, .int x1), (2, .int x2), (3, .int x3), (4, .int x4)]) (st2 := []) (h2 := (sh_rep m.T m.I m.J)) rfl rfl rfl ?_
          exact kk
        exact sh_Lk_sub (sh_sub_n) (sl_239_41 e tg)
theorem sl_238 {x1 : Int32} {x2 : Int32} {x3 : Int32} {x4 : Int32} {m m2 : sh_X} {o : Outcome} {z : (Int32 × sh_X)} (e : sf_238 x1 x2 x3 x4 m = some z) (tg : (sh_tI o m2) z) : sh_Lk 238 0 [(0, .ref 1), (1, .int x1), (2, .int x2), (3, .int x3), (4, .int x4)] [] m o m2 11 269 := by
  unfold sf_238 at e
  refine sh_Lk_lift (T := m.T) (I := m.I) (J := m.J) (s := m.s) (pc2 := 6) (lv2 := [(0, .ref 1), (1, .int x1), (2, .int x2), (3, .int x3), (4, .int x4)]) (st2 := [.int x4, .int x3, .int x2, .int x1, .ref 1]) (I2 := m.I) (J2 := m.J) (fun hT v kk => ?_) ?_
  · refine sh_w (i := (.aload_n 0)) (len := 1) (pc2 := 1) (lv2 := [(0, .ref 1), (1, .int x1), (2, .int x2), (3, .int x3), (4, .int x4)]) (st2 := [.ref 1]) (h2 := (sh_rep m.T m.I m.J)) rfl rfl rfl ?_
    refine sh_w (i := (.iload_n 1)) (len := 1) (pc2 := 2) (lv2 := [(0, .ref 1), (1, .int x1), (2, .int x2), (3, .int x3), (4, .int x4)]) (st2 := [.int x1, .ref 1]) (h2 := (sh_rep m.T m.I m.J)) rfl rfl rfl ?_
    refine sh_w (i := (.iload_n 2)) (len := 1) (pc2 := 3) (lv2 := [(0, .ref 1), (1, .int x1), (2, .int x2), (3, .int x3), (4, .int x4)]) (st2 := [.int x2, .int x1, .ref 1]) (h2 := (sh_rep m.T m.I m.J)) rfl rfl rfl ?_
    refine sh_w (i := (.iload_n 3)) (len := 1) (pc2 := 4) (lv2 := [(0, .ref 1), (1, .int x1), (2, .int x2), (3, .int x3), (4, .int x4)]) (st2 := [.int x3, .int x2, .int x1, .ref 1]) (h2 := (sh_rep m.T m.I m.J)) rfl rfl rfl ?_
    refine sh_w (i := (.iload 4)) (len := 2) (pc2 := 6) (lv2 := [(0, .ref 1), (1, .int x1), (2, .int x2), (3, .int x3), (4, .int x4)]) (st2 := [.int x4, .int x3, .int x2, .int x1, .ref 1]) (h2 := (sh_rep m.T m.I m.J)) rfl rfl rfl ?_
    exact kk
  rcases sh_bh_e e with ⟨m11, e1, e⟩ | ⟨r1, m11, e1, e⟩
  · refine sh_Lk_tCV (hpc := 12) (k2 := 239) (a := 0) (as := [.ref 1, .int x1, .int x2, .int x3, .int x4]) (rest := []) rfl rfl rfl (fun hT => (sh_s0 hT.st)) rfl rfl ⟨Nat.le_of_ble_eq_true rfl, Nat.le_of_ble_eq_true rfl⟩ (sl_239 e1 ⟨rfl, rfl⟩) rfl rfl rfl (Nat.le_of_ble_eq_true rfl) (Nat.le_of_ble_eq_true rfl) (fun xe => ?_)
    refine sh_Lk_lift (T := m11.T) (I := m11.I) (J := m11.J) (s := m11.s) (pc2 := 15) (lv2 := [(5, .ref xe), (0, .ref 1), (1, .int x1), (2, .int x2), (3, .int x3), (4, .int x4)]) (st2 := [.int 1]) (I2 := m11.I) (J2 := m11.J) (fun hT v kk => ?_) ?_
    · refine sh_w (i := (.astore 5)) (len := 2) (pc2 := 14) (lv2 := [(5, .ref xe), (0, .ref 1), (1, .int x1), (2, .int x2), (3, .int x3), (4, .int x4)]) (st2 := []) (h2 := (sh_rep m11.T m11.I m11.J)) rfl rfl rfl ?_
      refine sh_w (i := (.iconst 1)) (len := 1) (pc2 := 15) (lv2 := [(5, .ref xe), (0, .ref 1), (1, .int x1), (2, .int x2), (3, .int x3), (4, .int x4)]) (st2 := [.int 1]) (h2 := (sh_rep m11.T m11.I m11.J)) rfl rfl rfl ?_
      exact kk
    obtain rfl := Option.some.inj e
    obtain ⟨rfl, rfl⟩ := tg
    exact sh_Lk_ret (i := .ireturn) rfl rfl rfl (Nat.le_of_ble_eq_true rfl) (Nat.le_of_ble_eq_true rfl)
  refine sh_Lk_cV (r := none) (st2 := []) (pc2 := 9) (k2 := 239) (a := 0) (as := [.ref 1, .int x1, .int x2, .int x3, .int x4]) (rest := []) rfl rfl rfl (fun hT => (sh_s0 hT.st)) rfl rfl ⟨Nat.le_of_ble_eq_true rfl, Nat.le_of_ble_eq_true rfl⟩ (sl_239 e1 ⟨rfl, rfl⟩) rfl rfl (Nat.le_of_ble_eq_true rfl) (Nat.le_of_ble_eq_true rfl) ?_
  refine sh_Lk_lift (T := m11.T) (I := m11.I) (J := m11.J) (s := m11.s) (pc2 := 17) (lv2 := [(0, .ref 1), (1, .int x1), (2, .int x2), (3, .int x3), (4, .int x4)]) (st2 := [.int 0]) (I2 := m11.I) (J2 := m11.J) (fun hT v kk => ?_) ?_
  · refine sh_w (i := (.goto 7)) (len := 3) (pc2 := 16) (lv2 := [(0, .ref 1), (1, .int x1), (2, .int x2), (3, .int x3), (4, .int x4)]) (st2 := []) (h2 := (sh_rep m11.T m11.I m11.J)) rfl rfl rfl ?_
    refine sh_w (i := (.iconst 0)) (len := 1) (pc2 := 17) (lv2 := [(0, .ref 1), (1, .int x1), (2, .int x2), (3, .int x3), (4, .int x4)]) (st2 := [.int 0]) (h2 := (sh_rep m11.T m11.I m11.J)) rfl rfl rfl ?_
    exact kk
  obtain rfl := Option.some.inj e
  obtain ⟨rfl, rfl⟩ := tg
  exact sh_Lk_ret (i := .ireturn) rfl rfl rfl (Nat.le_of_ble_eq_true rfl) (Nat.le_of_ble_eq_true rfl)
theorem sl_241_25 {m m2 : sh_X} {o : Outcome} {z : (Option Int64 × sh_X)} (e : sf_241_25 m = some z) (tg : (sh_tJt o m2) z) : sh_Lk 241 25 [] [] m o m2 9 221 := by
  unfold sf_241_25 at e
  obtain ⟨c, e⟩ := sh_gd e
  obtain rfl := Option.some.inj e
  obtain ⟨rfl, rfl⟩ := tg
  exact sh_Lk_thr rfl rfl rfl c (Nat.le_of_ble_eq_true rfl) rfl (Nat.le_of_ble_eq_true rfl) (Nat.le_of_ble_eq_true rfl) rfl
theorem sl_241 {x1 : Int32} {m m2 : sh_X} {o : Outcome} {z : (Option Int64 × sh_X)} (e : sf_241 x1 m = some z) (tg : (sh_tJt o m2) z) : sh_Lk 241 0 [(0, .ref 1), (1, .int x1)] [] m o m2 9 221 := by
  unfold sf_241 at e
  refine sh_Lk_lift (T := m.T) (I := m.I) (J := m.J) (s := m.s) (pc2 := 4) (lv2 := [(0, .ref 1), (1, .int x1)]) (st2 := [.int (m.I 0 13)]) (I2 := m.I) (J2 := m.J) (fun hT v kk => ?_) ?_
  · refine sh_w (i := (.aload_n 0)) (len := 1) (pc2 := 1) (lv2 := [(0, .ref 1), (1, .int x1)]) (st2 := [.ref 1]) (h2 := (sh_rep m.T m.I m.J)) rfl rfl rfl ?_
    refine sh_gI1 (len := 3) (x := m.I 0 13) (pc2 := 4) rfl rfl (sh_s0 hT.st) rfl rfl rfl ?_
    exact kk
  rcases sh_ite e with ⟨c, e⟩ | ⟨c, e⟩
  · refine sh_Lk_lift (T := m.T) (I := m.I) (J := m.J) (s := m.s) (pc2 := 25) (lv2 := [(0, .ref 1), (1, .int x1)]) (st2 := []) (I2 := m.I) (J2 := m.J) (fun hT v kk => ?_) ?_
    · refine sh_j0 (c := .eq) (off := (21)) (pc2 := 25) true rfl (sh_Beqt c) rfl ?_
      exact kk
    exact sh_Lk_sub (sh_sub_n) (sl_241_25 e tg)
  · refine sh_Lk_lift (T := m.T) (I := m.I) (J := m.J) (s := m.s) (pc2 := 11) (lv2 := [(0, .ref 1), (1, .int x1)]) (st2 := [.int (m.I 0 14)]) (I2 := m.I) (J2 := m.J) (fun hT v kk => ?_) ?_
    · refine sh_j0 (c := .eq) (off := (21)) (pc2 := 7) false rfl (sh_Beqf c) rfl ?_
      refine sh_w (i := (.aload_n 0)) (len := 1) (pc2 := 8) (lv2 := [(0, .ref 1), (1, .int x1)]) (st2 := [.ref 1]) (h2 := (sh_rep m.T m.I m.J)) rfl rfl rfl ?_
      refine sh_gI1 (len := 3) (x := m.I 0 14) (pc2 := 11) rfl rfl (sh_s0 hT.st) rfl rfl rfl ?_
      exact kk
    rcases sh_ite e with ⟨c, e⟩ | ⟨c, e⟩
    · refine sh_Lk_lift (T := m.T) (I := m.I) (J := m.J) (s := m.s) (pc2 := 25) (lv2 := [(0, .ref 1), (1, .int x1)]) (st2 := []) (I2 := m.I) (J2 := m.J) (fun hT v kk => ?_) ?_
      · refine sh_j0 (c := .eq) (off := (14)) (pc2 := 25) true rfl (sh_Beqt c) rfl ?_
        exact kk
      exact sh_Lk_sub (sh_sub_n) (sl_241_25 e tg)
    · refine sh_Lk_lift (T := m.T) (I := m.I) (J := m.J) (s := m.s) (pc2 := 19) (lv2 := [(0, .ref 1), (1, .int x1)]) (st2 := [.int x1, .ref 24]) (I2 := m.I) (J2 := m.J) (fun hT v kk => ?_) ?_
      · refine sh_j0 (c := .eq) (off := (14)) (pc2 := 14) false rfl (sh_Beqf c) rfl ?_
        refine sh_w (i := (.aload_n 0)) (len := 1) (pc2 := 15) (lv2 := [(0, .ref 1), (1, .int x1)]) (st2 := [.ref 1]) (h2 := (sh_rep m.T m.I m.J)) rfl rfl rfl ?_
        refine sh_gR1 (len := 3) (x := .ref 24) (pc2 := 18) rfl rfl (sh_s0 hT.st) rfl rfl ?_
        refine sh_w (i := (.iload_n 1)) (len := 1) (pc2 := 19) (lv2 := [(0, .ref 1), (1, .int x1)]) (st2 := [.int x1, .ref 24]) (h2 := (sh_rep m.T m.I m.J)) rfl rfl rfl ?_
        exact kk
      obtain ⟨r1, e1, e⟩ := sh_bc_e e
      refine sh_Lk_cV (r := (some (.int (sh_b2 r1)))) (st2 := [.int (sh_b2 r1)]) (pc2 := 22) (k2 := 228) (a := 23) (as := [.ref 24, .int x1]) (rest := []) rfl rfl rfl (fun hT => (sh_s23 hT.st)) rfl rfl ⟨Nat.le_of_ble_eq_true rfl, Nat.le_of_ble_eq_true rfl⟩ (sl_228 (by decide) e1 ⟨rfl, rfl⟩) rfl rfl (Nat.le_of_ble_eq_true rfl) (Nat.le_of_ble_eq_true rfl) ?_
      rcases sh_ite e with ⟨c, e⟩ | ⟨c, e⟩
      · refine sh_Lk_lift (T := m.T) (I := m.I) (J := m.J) (s := m.s) (pc2 := 41) (lv2 := [(0, .ref 1), (1, .int x1)]) (st2 := [.int x1, .ref 27]) (I2 := m.I) (J2 := m.J) (fun hT v kk => ?_) ?_
        · refine sh_j0 (c := .ne) (off := (11)) (pc2 := 33) true rfl (sh_Znet c) rfl ?_
          refine sh_w (i := (.aload_n 0)) (len := 1) (pc2 := 34) (lv2 := [(0, .ref 1), (1, .int x1)]) (st2 := [.ref 1]) (h2 := (sh_rep m.T m.I m.J)) rfl rfl rfl ?_
          refine sh_gR1 (len := 3) (x := .ref 24) (pc2 := 37) rfl rfl (sh_s0 hT.st) rfl rfl ?_
          refine sh_gR1 (len := 3) (x := .ref 27) (pc2 := 40) rfl rfl (sh_s23 hT.st) rfl rfl ?_
          refine sh_w (i := (.iload_n 1)) (len := 1) (pc2 := 41) (lv2 := [(0, .ref 1), (1, .int x1)]) (st2 := [.int x1, .ref 27]) (h2 := (sh_rep m.T m.I m.J)) rfl rfl rfl ?_
          exact kk
        obtain ⟨c, e⟩ := sh_gd e
        refine sh_Lk_lift (T := m.T) (I := m.I) (J := m.J) (s := m.s) (pc2 := 42) (lv2 := [(0, .ref 1), (1, .int x1)]) (st2 := [.long (m.J 26 (Int32.toNatClampNeg x1))]) (I2 := m.I) (J2 := m.J) (fun hT v kk => ?_) ?_
        · refine sh_la1 (x := m.J 26 (Int32.toNatClampNeg x1)) (pc2 := 42) rfl (sh_s26 hT.st) (sh_okb1 c) (sh_okb2 c) rfl rfl ?_
          exact kk
        obtain rfl := Option.some.inj e
        obtain ⟨rfl, rfl⟩ := tg
        exact sh_Lk_ret (i := .lreturn) rfl rfl rfl (Nat.le_of_ble_eq_true rfl) (Nat.le_of_ble_eq_true rfl)
      · refine sh_Lk_lift (T := m.T) (I := m.I) (J := m.J) (s := m.s) (pc2 := 25) (lv2 := [(0, .ref 1), (1, .int x1)]) (st2 := []) (I2 := m.I) (J2 := m.J) (fun hT v kk => ?_) ?_
        · refine sh_j0 (c := .ne) (off := (11)) (pc2 := 25) false rfl (sh_Znef c) rfl ?_
          exact kk
        exact sh_Lk_sub (sh_sub_n) (sl_241_25 e tg)
theorem sl_240 {x1 : Int32} {m m2 : sh_X} {o : Outcome} {z : (Int32 × sh_X)} (e : sf_240 x1 m = some z) (tg : (sh_tI o m2) z) : sh_Lk 240 0 [(0, .ref 1), (1, .int x1), (2, .ref 125)] [] m o m2 10 242 := by
  unfold sf_240 at e
  refine sh_Lk_lift (T := m.T) (I := m.I) (J := m.J) (s := m.s) (pc2 := 4) (lv2 := [(0, .ref 1), (1, .int x1), (2, .ref 125)]) (st2 := [.int x1, .ref 1, .int 0, .ref 125]) (I2 := m.I) (J2 := m.J) (fun hT v kk => ?_) ?_
  · refine sh_w (i := (.aload_n 2)) (len := 1) (pc2 := 1) (lv2 := [(0, .ref 1), (1, .int x1), (2, .ref 125)]) (st2 := [.ref 125]) (h2 := (sh_rep m.T m.I m.J)) rfl rfl rfl ?_
    refine sh_w (i := (.iconst 0)) (len := 1) (pc2 := 2) (lv2 := [(0, .ref 1), (1, .int x1), (2, .ref 125)]) (st2 := [.int 0, .ref 125]) (h2 := (sh_rep m.T m.I m.J)) rfl rfl rfl ?_
    refine sh_w (i := (.aload_n 0)) (len := 1) (pc2 := 3) (lv2 := [(0, .ref 1), (1, .int x1), (2, .ref 125)]) (st2 := [.ref 1, .int 0, .ref 125]) (h2 := (sh_rep m.T m.I m.J)) rfl rfl rfl ?_
    refine sh_w (i := (.iload_n 1)) (len := 1) (pc2 := 4) (lv2 := [(0, .ref 1), (1, .int x1), (2, .ref 125)]) (st2 := [.int x1, .ref 1, .int 0, .ref 125]) (h2 := (sh_rep m.T m.I m.J)) rfl rfl rfl ?_
    exact kk
  rcases sh_bh_e e with ⟨m11, e1, e⟩ | ⟨r1, m11, e1, e⟩
  · refine sh_Lk_tCV (hpc := 11) (k2 := 241) (a := 0) (as := [.ref 1, .int x1]) (rest := [.int 0, .ref 125]) rfl rfl rfl (fun hT => (sh_s0 hT.st)) rfl rfl ⟨Nat.le_of_ble_eq_true rfl, Nat.le_of_ble_eq_true rfl⟩ (sl_241 e1 ⟨rfl, rfl⟩) rfl rfl rfl (Nat.le_of_ble_eq_true rfl) (Nat.le_of_ble_eq_true rfl) (fun xe => ?_)
    refine sh_Lk_lift (T := m11.T) (I := m11.I) (J := m11.J) (s := m11.s) (pc2 := 13) (lv2 := [(3, .ref xe), (0, .ref 1), (1, .int x1), (2, .ref 125)]) (st2 := [.int 1]) (I2 := m11.I) (J2 := m11.J) (fun hT v kk => ?_) ?_
    · refine sh_w (i := (.astore_n 3)) (len := 1) (pc2 := 12) (lv2 := [(3, .ref xe), (0, .ref 1), (1, .int x1), (2, .ref 125)]) (st2 := []) (h2 := (sh_rep m11.T m11.I m11.J)) rfl rfl rfl ?_
      refine sh_w (i := (.iconst 1)) (len := 1) (pc2 := 13) (lv2 := [(3, .ref xe), (0, .ref 1), (1, .int x1), (2, .ref 125)]) (st2 := [.int 1]) (h2 := (sh_rep m11.T m11.I m11.J)) rfl rfl rfl ?_
      exact kk
    obtain rfl := Option.some.inj e
    obtain ⟨rfl, rfl⟩ := tg
    exact sh_Lk_ret (i := .ireturn) rfl rfl rfl (Nat.le_of_ble_eq_true rfl) (Nat.le_of_ble_eq_true rfl)
  refine sh_Lk_cV (r := (some (.long r1))) (st2 := [.long r1, .int 0, .ref 125]) (pc2 := 7) (k2 := 241) (a := 0) (as := [.ref 1, .int x1]) (rest := [.int 0, .ref 125]) rfl rfl rfl (fun hT => (sh_s0 hT.st)) rfl rfl ⟨Nat.le_of_ble_eq_true rfl, Nat.le_of_ble_eq_true rfl⟩ (sl_241 e1 ⟨rfl, rfl⟩) rfl rfl (Nat.le_of_ble_eq_true rfl) (Nat.le_of_ble_eq_true rfl) ?_
  refine sh_Lk_lift (T := m11.T) (I := m11.I) (J := m11.J) (s := m11.s) (pc2 := 15) (lv2 := [(0, .ref 1), (1, .int x1), (2, .ref 125)]) (st2 := [.int 0]) (I2 := m11.I) (J2 := sh_u2 m11.J 124 0 r1) (fun hT v kk => ?_) ?_
  · refine sh_ls1 (x := r1) (i := 0) (pc2 := 8) rfl (sh_s124 hT.st) (by decide) (by decide) rfl ?_
    refine sh_w (i := (.goto 6)) (len := 3) (pc2 := 14) (lv2 := [(0, .ref 1), (1, .int x1), (2, .ref 125)]) (st2 := []) (h2 := (sh_rep m11.T m11.I (sh_u2 m11.J 124 0 r1))) rfl rfl rfl ?_
    refine sh_w (i := (.iconst 0)) (len := 1) (pc2 := 15) (lv2 := [(0, .ref 1), (1, .int x1), (2, .ref 125)]) (st2 := [.int 0]) (h2 := (sh_rep m11.T m11.I (sh_u2 m11.J 124 0 r1))) rfl rfl rfl ?_
    exact kk
  obtain rfl := Option.some.inj e
  obtain ⟨rfl, rfl⟩ := tg
  exact sh_Lk_ret (i := .ireturn) rfl rfl rfl (Nat.le_of_ble_eq_true rfl) (Nat.le_of_ble_eq_true rfl)
theorem sl_243 {m m2 : sh_X} {o : Outcome} {z : Int32} (e : sf_243 m = some z) (tg : (sh_tIc m o m2) z) : sh_Lk 243 0 [(0, .ref 67)] [] m o m2 8 200 := by
  unfold sf_243 at e
  refine sh_Lk_lift (T := m.T) (I := m.I) (J := m.J) (s := m.s) (pc2 := 4) (lv2 := [(0, .ref 67)]) (st2 := [.int (m.I 66 0)]) (I2 := m.I) (J2 := m.J) (fun hT v kk => ?_) ?_
  · refine sh_w (i := (.aload_n 0)) (len := 1) (pc2 := 1) (lv2 := [(0, .ref 67)]) (st2 := [.ref 67]) (h2 := (sh_rep m.T m.I m.J)) rfl rfl rfl ?_
    refine sh_gI1 (len := 3) (x := m.I 66 0) (pc2 := 4) rfl rfl (sh_s66 hT.st) rfl rfl rfl ?_
    exact kk
  obtain rfl := Option.some.inj e
  obtain ⟨rfl, rfl⟩ := tg
  exact sh_Lk_ret (i := .ireturn) rfl rfl rfl (Nat.le_of_ble_eq_true rfl) (Nat.le_of_ble_eq_true rfl)
theorem sl_244_74 {x1 : Int32} {x2 : Int32} {x3 : Int32} {x4 : Int32} {x5 : Int32} {x6 : Int32} {x7 : Int32} {m m2 : sh_X} {o : Outcome} {z : ((Int32 × sh_X) ⊕ (Bool × sh_X))} (e : sf_244_74 x1 x2 x3 x4 x5 x6 x7 m = some z) (tg : (sh_el (fun q => sh_Lk 244 23 [(0, .ref 67), (1, .int x1), (2, .int x2), (3, .int x3), (4, .int x4), (5, .int x5), (6, .int q.1)] [] q.2 o m2 8 200) (sh_tZ o m2)) z) : sh_Lk 244 74 [(0, .ref 67), (1, .int x1), (2, .int x2), (3, .int x3), (4, .int x4), (5, .int x5), (6, .int x6), (7, .int x7)] [] m o m2 8 200 := by
  unfold sf_244_74 at e
  refine sh_Lk_lift (T := m.T) (I := m.I) (J := m.J) (s := m.s) (pc2 := 96) (lv2 := [(0, .ref 67), (1, .int x1), (2, .int x2), (3, .int x3), (4, .int x4), (5, .int x5), (6, .int x6), (7, .int x7)]) (st2 := [.int ((Int32.toInt8 (x7 >>> ((24 - (8 * (x6 &&& 3))) &&& 31))).toInt32), .int (m.I 66 2), .ref 68]) (I2 := m.I) (J2 := m.J) (fun hT v kk => ?_) ?_
  · refine sh_w (i := (.aload_n 0)) (len := 1) (pc2 := 75) (lv2 := [(0, .ref 67), (1, .int x1), (2, .int x2), (3, .int x3), (4, .int x4), (5, .int x5), (6, .int x6), (7, .int x7)]) (st2 := [.ref 67]) (h2 := (sh_rep m.T m.I m.J)) rfl rfl rfl ?_
    refine sh_gR1 (len := 3) (x := .ref 68) (pc2 := 78) rfl rfl (sh_s66 hT.st) rfl rfl ?_
    refine sh_w (i := (.aload_n 0)) (len := 1) (pc2 := 79) (lv2 := [(0, .ref 67), (1, .int x1), (2, .int x2), (3, .int x3), (4, .int x4), (5, .int x5), (6, .int x6), (7, .int x7)]) (st2 := [.ref 67, .ref 68]) (h2 := (sh_rep m.T m.I m.J)) rfl rfl rfl ?_
    refine sh_gI1 (len := 3) (x := m.I 66 2) (pc2 := 82) rfl rfl (sh_s66 hT.st) rfl rfl rfl ?_
    refine sh_w (i := (.iload 7)) (len := 2) (pc2 := 84) (lv2 := [(0, .ref 67), (1, .int x1), (2, .int x2), (3, .int x3), (4, .int x4), (5, .int x5), (6, .int x6), (7, .int x7)]) (st2 := [.int x7, .int (m.I 66 2), .ref 68]) (h2 := (sh_rep m.T m.I m.J)) rfl rfl rfl ?_
    refine sh_w (i := (.bipush 24)) (len := 2) (pc2 := 86) (lv2 := [(0, .ref 67), (1, .int x1), (2, .int x2), (3, .int x3), (4, .int x4), (5, .int x5), (6, .int x6), (7, .int x7)]) (st2 := [.int 24, .int x7, .int (m.I 66 2), .ref 68]) (h2 := (sh_rep m.T m.I m.J)) rfl rfl rfl ?_
    refine sh_w (i := (.bipush 8)) (len := 2) (pc2 := 88) (lv2 := [(0, .ref 67), (1, .int x1), (2, .int x2), (3, .int x3), (4, .int x4), (5, .int x5), (6, .int x6), (7, .int x7)]) (st2 := [.int 8, .int 24, .int x7, .int (m.I 66 2), .ref 68]) (h2 := (sh_rep m.T m.I m.J)) rfl rfl rfl ?_
    refine sh_w (i := (.iload 6)) (len := 2) (pc2 := 90) (lv2 := [(0, .ref 67), (1, .int x1), (2, .int x2), (3, .int x3), (4, .int x4), (5, .int x5), (6, .int x6), (7, .int x7)]) (st2 := [.int x6, .int 8, .int 24, .int x7, .int (m.I 66 2), .ref 68]) (h2 := (sh_rep m.T m.I m.J)) rfl rfl rfl ?_
    refine sh_w (i := (.iconst 3)) (len := 1) (pc2 := 91) (lv2 := [(0, .ref 67), (1, .int x1), (2, .int x2), (3, .int x3), (4, .int x4), (5, .int x5), (6, .int x6), (7, .int x7)]) (st2 := [.int 3, .int x6, .int 8, .int 24, .int x7, .int (m.I 66 2), .ref 68]) (h2 := (sh_rep m.T m.I m.J)) rfl rfl rfl ?_
    refine sh_w (i := .iand) (len := 1) (pc2 := 92) (lv2 := [(0, .ref 67), (1, .int x1), (2, .int x2), (3, .int x3), (4, .int x4), (5, .int x5), (6, .int x6), (7, .int x7)]) (st2 := [.int (x6 &&& 3), .int 8, .int 24, .int x7, .int (m.I 66 2), .ref 68]) (h2 := (sh_rep m.T m.I m.J)) rfl rfl rfl ?_
    refine sh_w (i := .imul) (len := 1) (pc2 := 93) (lv2 := [(0, .ref 67), (1, .int x1), (2, .int x2), (3, .int x3), (4, .int x4), (5, .int x5), (6, .int x6), (7, .int x7)]) (st2 := [.int (8 * (x6 &&& 3)), .int 24, .int x7, .int (m.I 66 2), .ref 68]) (h2 := (sh_rep m.T m.I m.J)) rfl rfl rfl ?_
    refine sh_w (i := .isub) (len := 1) (pc2 := 94) (lv2 := [(0, .ref 67), (1, .int x1), (2, .int x2), (3, .int x3), (4, .int x4), (5, .int x5), (6, .int x6), (7, .int x7)]) (st2 := [.int (24 - (8 * (x6 &&& 3))), .int x7, .int (m.I 66 2), .ref 68]) (h2 := (sh_rep m.T m.I m.J)) rfl rfl rfl ?_
    refine sh_w (i := .ishr) (len := 1) (pc2 := 95) (lv2 := [(0, .ref 67), (1, .int x1), (2, .int x2), (3, .int x3), (4, .int x4), (5, .int x5), (6, .int x6), (7, .int x7)]) (st2 := [.int (x7 >>> ((24 - (8 * (x6 &&& 3))) &&& 31)), .int (m.I 66 2), .ref 68]) (h2 := (sh_rep m.T m.I m.J)) rfl rfl rfl ?_
    refine sh_w (i := .i2b) (len := 1) (pc2 := 96) (lv2 := [(0, .ref 67), (1, .int x1), (2, .int x2), (3, .int x3), (4, .int x4), (5, .int x5), (6, .int x6), (7, .int x7)]) (st2 := [.int ((Int32.toInt8 (x7 >>> ((24 - (8 * (x6 &&& 3))) &&& 31))).toInt32), .int (m.I 66 2), .ref 68]) (h2 := (sh_rep m.T m.I m.J)) rfl rfl rfl ?_
    exact kk
  obtain ⟨c, e⟩ := sh_gd e
  refine sh_Lk_lift (T := m.T) (I := m.I) (J := m.J) (s := m.s) (pc2 := 23) (lv2 := [(6, .int (x6 + 1)), (0, .ref 67), (1, .int x1), (2, .int x2), (3, .int x3), (4, .int x4), (5, .int x5), (7, .int x7)]) (st2 := []) (I2 := sh_u2 (sh_u2 m.I 67 (Int32.toNatClampNeg (m.I 66 2)) (vp_nar .byte ((Int32.toInt8 (x7 >>> ((24 - (8 * (x6 &&& 3))) &&& 31))).toInt32))) 66 2 ((m.I 66 2) + 1)) (J2 := m.J) (fun hT v kk => ?_) ?_
  · refine sh_bs1 (x := (Int32.toInt8 (x7 >>> ((24 - (8 * (x6 &&& 3))) &&& 31))).toInt32) (y := vp_nar .byte ((Int32.toInt8 (x7 >>> ((24 - (8 * (x6 &&& 3))) &&& 31))).toInt32)) (i := m.I 66 2) (pc2 := 97) rfl (sh_s67 hT.st) (sh_okb1 c) (sh_okb2 c) rfl rfl ?_
    refine sh_w (i := (.aload_n 0)) (len := 1) (pc2 := 98) (lv2 := [(0, .ref 67), (1, .int x1), (2, .int x2), (3, .int x3), (4, .int x4), (5, .int x5), (6, .int x6), (7, .int x7)]) (st2 := [.ref 67]) (h2 := (sh_rep m.T (sh_u2 m.I 67 (Int32.toNatClampNeg (m.I 66 2)) (vp_nar .byte ((Int32.toInt8 (x7 >>> ((24 - (8 * (x6 &&& 3))) &&& 31))).toInt32))) m.J)) rfl rfl rfl ?_
    refine sh_w (i := .dup) (len := 1) (pc2 := 99) (lv2 := [(0, .ref 67), (1, .int x1), (2, .int x2), (3, .int x3), (4, .int x4), (5, .int x5), (6, .int x6), (7, .int x7)]) (st2 := [.ref 67, .ref 67]) (h2 := (sh_rep m.T (sh_u2 m.I 67 (Int32.toNatClampNeg (m.I 66 2)) (vp_nar .byte ((Int32.toInt8 (x7 >>> ((24 - (8 * (x6 &&& 3))) &&& 31))).toInt32))) m.J)) rfl rfl rfl ?_
    refine sh_gI1 (len := 3) (x := m.I 66 2) (pc2 := 102) rfl rfl (sh_s66 hT.st) rfl rfl rfl ?_
    refine sh_w (i := (.iconst 1)) (len := 1) (pc2 := 103) (lv2 := [(0, .ref 67), (1, .int x1), (2, .int x2), (3, .int x3), (4, .int x4), (5, .int x5), (6, .int x6), (7, .int x7)]) (st2 := [.int 1, .int (m.I 66 2), .ref 67]) (h2 := (sh_rep m.T (sh_u2 m.I 67 (Int32.toNatClampNeg (m.I 66 2)) (vp_nar .byte ((Int32.toInt8 (x7 >>> ((24 - (8 * (x6 &&& 3))) &&& 31))).toInt32))) m.J)) rfl rfl rfl ?_
    refine sh_w (i := .iadd) (len := 1) (pc2 := 104) (lv2 := [(0, .ref 67), (1, .int x1), (2, .int x2), (3, .int x3), (4, .int x4), (5, .int x5), (6, .int x6), (7, .int x7)]) (st2 := [.int ((m.I 66 2) + 1), .ref 67]) (h2 := (sh_rep m.T (sh_u2 m.I 67 (Int32.toNatClampNeg (m.I 66 2)) (vp_nar .byte ((Int32.toInt8 (x7 >>> ((24 - (8 * (x6 &&& 3))) &&& 31))).toInt32))) m.J)) rfl rfl rfl ?_
    refine sh_pI1 (x := (m.I 66 2) + 1) (pc2 := 107) rfl rfl (sh_s66 hT.st) rfl rfl rfl rfl ?_
    refine sh_w (i := (.iinc 6 1)) (len := 3) (pc2 := 110) (lv2 := [(6, .int (x6 + 1)), (0, .ref 67), (1, .int x1), (2, .int x2), (3, .int x3), (4, .int x4), (5, .int x5), (7, .int x7)]) (st2 := []) (h2 := (sh_rep m.T (sh_u2 (sh_u2 m.I 67 (Int32.toNatClampNeg (m.I 66 2)) (vp_nar .byte ((Int32.toInt8 (x7 >>> ((24 - (8 * (x6 &&& 3))) &&& 31))).toInt32))) 66 2 ((m.I 66 2) + 1)) m.J)) rfl rfl rfl ?_
    refine sh_w (i := (.goto (-87))) (len := 3) (pc2 := 23) (lv2 := [(6, .int (x6 + 1)), (0, .ref 67), (1, .int x1), (2, .int x2), (3, .int x3), (4, .int x4), (5, .int x5), (7, .int x7)]) (st2 := []) (h2 := (sh_rep m.T (sh_u2 (sh_u2 m.I 67 (Int32.toNatClampNeg (m.I 66 2)) (vp_nar .byte ((Int32.toInt8 (x7 >>> ((24 - (8 * (x6 &&& 3))) &&& 31))).toInt32))) 66 2 ((m.I 66 2) + 1)) m.J)) rfl rfl rfl ?_
    exact kk
  obtain rfl := Option.some.inj e
  exact sh_Lk_sub (sh_sub_c rfl (sh_sub_c rfl (sh_sub_c rfl (sh_sub_c rfl (sh_sub_c rfl (sh_sub_c rfl (sh_sub_c rfl (sh_sub_n)))))))) tg
theorem sl_244_63 {x1 : Int32} {x2 : Int32} {x3 : Int32} {x4 : Int32} {x5 : Int32} {x6 : Int32} {x7 : Int32} {m m2 : sh_X} {o : Outcome} {z : ((Int32 × sh_X) ⊕ (Bool × sh_X))} (e : sf_244_63 x1 x2 x3 x4 x5 x6 x7 m = some z) (tg : (sh_el (fun q => sh_Lk 244 23 [(0, .ref 67), (1, .int x1), (2, .int x2), (3, .int x3), (4, .int x4), (5, .int x5), (6, .int q.1)] [] q.2 o m2 8 200) (sh_tZ o m2)) z) : sh_Lk 244 63 [(0, .ref 67), (1, .int x1), (2, .int x2), (3, .int x3), (4, .int x4), (5, .int x5), (6, .int x6), (7, .int x7)] [] m o m2 8 200 := by
  unfold sf_244_63 at e
  refine sh_Lk_lift (T := m.T) (I := m.I) (J := m.J) (s := m.s) (pc2 := 67) (lv2 := [(0, .ref 67), (1, .int x1), (2, .int x2), (3, .int x3), (4, .int x4), (5, .int x5), (6, .int x6), (7, .int x7)]) (st2 := [.int 16, .int x6]) (I2 := m.I) (J2 := m.J) (fun hT v kk => ?_) ?_
  · refine sh_w (i := (.iload 6)) (len := 2) (pc2 := 65) (lv2 := [(0, .ref 67), (1, .int x1), (2, .int x2), (3, .int x3), (4, .int x4), (5, .int x5), (6, .int x6), (7, .int x7)]) (st2 := [.int x6]) (h2 := (sh_rep m.T m.I m.J)) rfl rfl rfl ?_
    refine sh_w (i := (.bipush 16)) (len := 2) (pc2 := 67) (lv2 := [(0, .ref 67), (1, .int x1), (2, .int x2), (3, .int x3), (4, .int x4), (5, .int x5), (6, .int x6), (7, .int x7)]) (st2 := [.int 16, .int x6]) (h2 := (sh_rep m.T m.I m.J)) rfl rfl rfl ?_
    exact kk
  rcases sh_ite e with ⟨c, e⟩ | ⟨c, e⟩
  · refine sh_Lk_lift (T := m.T) (I := m.I) (J := m.J) (s := m.s) (pc2 := 74) (lv2 := [(0, .ref 67), (1, .int x1), (2, .int x2), (3, .int x3), (4, .int x4), (5, .int x5), (6, .int x6), (7, .int x7)]) (st2 := []) (I2 := m.I) (J2 := m.J) (fun hT v kk => ?_) ?_
    · refine sh_jc (c := .lt) (off := (7)) (pc2 := 74) true rfl (sh_Bltt c) rfl ?_
      exact kk
    exact sh_Lk_sub (sh_sub_c rfl (sh_sub_c rfl (sh_sub_c rfl (sh_sub_c rfl (sh_sub_c rfl (sh_sub_c rfl (sh_sub_c rfl (sh_sub_c rfl (sh_sub_n))))))))) (sl_244_74 e tg)
  · refine sh_Lk_lift (T := m.T) (I := m.I) (J := m.J) (s := m.s) (pc2 := 74) (lv2 := [(7, .int x5), (0, .ref 67), (1, .int x1), (2, .int x2), (3, .int x3), (4, .int x4), (5, .int x5), (6, .int x6)]) (st2 := []) (I2 := m.I) (J2 := m.J) (fun hT v kk => ?_) ?_
    · refine sh_jc (c := .lt) (off := (7)) (pc2 := 70) false rfl (sh_Bltf c) rfl ?_
      refine sh_w (i := (.iload 5)) (len := 2) (pc2 := 72) (lv2 := [(0, .ref 67), (1, .int x1), (2, .int x2), (3, .int x3), (4, .int x4), (5, .int x5), (6, .int x6), (7, .int x7)]) (st2 := [.int x5]) (h2 := (sh_rep m.T m.I m.J)) rfl rfl rfl ?_
      refine sh_w (i := (.istore 7)) (len := 2) (pc2 := 74) (lv2 := [(7, .int x5), (0, .ref 67), (1, .int x1), (2, .int x2), (3, .int x3), (4, .int x4), (5, .int x5), (6, .int x6)]) (st2 := []) (h2 := (sh_rep m.T m.I m.J)) rfl rfl rfl ?_
      exact kk
    exact sh_Lk_sub (sh_sub_c rfl (sh_sub_c rfl (sh_sub_c rfl (sh_sub_c rfl (sh_sub_c rfl (sh_sub_c rfl (sh_sub_c rfl (sh_sub_c rfl (sh_sub_n))))))))) (sl_244_74 e tg)
theorem sl_244_52 {x1 : Int32} {x2 : Int32} {x3 : Int32} {x4 : Int32} {x5 : Int32} {x6 : Int32} {x7 : Int32} {m m2 : sh_X} {o : Outcome} {z : ((Int32 × sh_X) ⊕ (Bool × sh_X))} (e : sf_244_52 x1 x2 x3 x4 x5 x6 x7 m = some z) (tg : (sh_el (fun q => sh_Lk 244 23 [(0, .ref 67), (1, .int x1), (2, .int x2), (3, .int x3), (4, .int x4), (5, .int x5), (6, .int q.1)] [] q.2 o m2 8 200) (sh_tZ o m2)) z) : sh_Lk 244 52 [(0, .ref 67), (1, .int x1), (2, .int x2), (3, .int x3), (4, .int x4), (5, .int x5), (6, .int x6), (7, .int x7)] [] m o m2 8 200 := by
  unfold sf_244_52 at e
  refine sh_Lk_lift (T := m.T) (I := m.I) (J := m.J) (s := m.s) (pc2 := 56) (lv2 := [(0, .ref 67), (1, .int x1), (2, .int x2), (3, .int x3), (4, .int x4), (5, .int x5), (6, .int x6), (7, .int x7)]) (st2 := [.int 12, .int x6]) (I2 := m.I) (J2 := m.J) (fun hT v kk => ?_) ?_
  · refine sh_w (i := (.iload 6)) (len := 2) (pc2 := 54) (lv2 := [(0, .ref 67), (1, .int x1), (2, .int x2), (3, .int x3), (4, .int x4), (5, .int x5), (6, .int x6), (7, .int x7)]) (st2 := [.int x6]) (h2 := (sh_rep m.T m.I m.J)) rfl rfl rfl ?_
    refine sh_w (i := (.bipush 12)) (len := 2) (pc2 := 56) (lv2 := [(0, .ref 67), (1, .int x1), (2, .int x2), (3, .int x3), (4, .int x4), (5, .int x5), (6, .int x6), (7, .int x7)]) (st2 := [.int 12, .int x6]) (h2 := (sh_rep m.T m.I m.J)) rfl rfl rfl ?_
    exact kk
  rcases sh_ite e with ⟨c, e⟩ | ⟨c, e⟩
  · refine sh_Lk_lift (T := m.T) (I := m.I) (J := m.J) (s := m.s) (pc2 := 63) (lv2 := [(0, .ref 67), (1, .int x1), (2, .int x2), (3, .int x3), (4, .int x4), (5, .int x5), (6, .int x6), (7, .int x7)]) (st2 := []) (I2 := m.I) (J2 := m.J) (fun hT v kk => ?_) ?_
    · refine sh_jc (c := .lt) (off := (7)) (pc2 := 63) true rfl (sh_Bltt c) rfl ?_
      exact kk
    exact sh_Lk_sub (sh_sub_c rfl (sh_sub_c rfl (sh_sub_c rfl (sh_sub_c rfl (sh_sub_c rfl (sh_sub_c rfl (sh_sub_c rfl (sh_sub_c rfl (sh_sub_n))))))))) (sl_244_63 e tg)
  · refine sh_Lk_lift (T := m.T) (I := m.I) (J := m.J) (s := m.s) (pc2 := 63) (lv2 := [(7, .int x4), (0, .ref 67), (1, .int x1), (2, .int x2), (3, .int x3), (4, .int x4), (5, .int x5), (6, .int x6)]) (st2 := []) (I2 := m.I) (J2 := m.J) (fun hT v kk => ?_) ?_
    · refine sh_jc (c := .lt) (off := (7)) (pc2 := 59) false rfl (sh_Bltf c) rfl ?_
      refine sh_w (i := (.iload 4)) (len := 2) (pc2 := 61) (lv2 := [(0, .ref 67), (1, .int x1), (2, .int x2), (3, .int x3), (4, .int x4), (5, .int x5), (6, .int x6), (7, .int x7)]) (st2 := [.int x4]) (h2 := (sh_rep m.T m.I m.J)) rfl rfl rfl ?_
      refine sh_w (i := (.istore 7)) (len := 2) (pc2 := 63) (lv2 := [(7, .int x4), (0, .ref 67), (1, .int x1), (2, .int x2), (3, .int x3), (4, .int x4), (5, .int x5), (6, .int x6)]) (st2 := []) (h2 := (sh_rep m.T m.I m.J)) rfl rfl rfl ?_
      exact kk
    exact sh_Lk_sub (sh_sub_c rfl (sh_sub_c rfl (sh_sub_c rfl (sh_sub_c rfl (sh_sub_c rfl (sh_sub_c rfl (sh_sub_c rfl (sh_sub_c rfl (sh_sub_n))))))))) (sl_244_63 e tg)
theorem sl_244_42 {x1 : Int32} {x2 : Int32} {x3 : Int32} {x4 : Int32} {x5 : Int32} {x6 : Int32} {x7 : Int32} {m m2 : sh_X} {o : Outcome} {z : ((Int32 × sh_X) ⊕ (Bool × sh_X))} (e : sf_244_42 x1 x2 x3 x4 x5 x6 x7 m = some z) (tg : (sh_el (fun q => sh_Lk 244 23 [(0, .ref 67), (1, .int x1), (2, .int x2), (3, .int x3), (4, .int x4), (5, .int x5), (6, .int q.1)] [] q.2 o m2 8 200) (sh_tZ o m2)) z) : sh_Lk 244 42 [(0, .ref 67), (1, .int x1), (2, .int x2), (3, .int x3), (4, .int x4), (5, .int x5), (6, .int x6), (7, .int x7)] [] m o m2 8 200 := by
  unfold sf_244_42 at e
  refine sh_Lk_lift (T := m.T) (I := m.I) (J := m.J) (s := m.s) (pc2 := 46) (lv2 := [(0, .ref 67), (1, .int x1), (2, .int x2), (3, .int x3), (4, .int x4), (5, .int x5), (6, .int x6), (7, .int x7)]) (st2 := [.int 8, .int x6]) (I2 := m.I) (J2 := m.J) (fun hT v kk => ?_) ?_
  · refine sh_w (i := (.iload 6)) (len := 2) (pc2 := 44) (lv2 := [(0, .ref 67), (1, .int x1), (2, .int x2), (3, .int x3), (4, .int x4), (5, .int x5), (6, .int x6), (7, .int x7)]) (st2 := [.int x6]) (h2 := (sh_rep m.T m.I m.J)) rfl rfl rfl ?_
    refine sh_w (i := (.bipush 8)) (len := 2) (pc2 := 46) (lv2 := [(0, .ref 67), (1, .int x1), (2, .int x2), (3, .int x3), (4, .int x4), (5, .int x5), (6, .int x6), (7, .int x7)]) (st2 := [.int 8, .int x6]) (h2 := (sh_rep m.T m.I m.J)) rfl rfl rfl ?_
    exact kk
  rcases sh_ite e with ⟨c, e⟩ | ⟨c, e⟩
  · refine sh_Lk_lift (T := m.T) (I := m.I) (J := m.J) (s := m.s) (pc2 := 52) (lv2 := [(0, .ref 67), (1, .int x1), (2, .int x2), (3, .int x3), (4, .int x4), (5, .int x5), (6, .int x6), (7, .int x7)]) (st2 := []) (I2 := m.I) (J2 := m.J) (fun hT v kk => ?_) ?_
    · refine sh_jc (c := .lt) (off := (6)) (pc2 := 52) true rfl (sh_Bltt c) rfl ?_
      exact kk
    exact sh_Lk_sub (sh_sub_c rfl (sh_sub_c rfl (sh_sub_c rfl (sh_sub_c rfl (sh_sub_c rfl (sh_sub_c rfl (sh_sub_c rfl (sh_sub_c rfl (sh_sub_n))))))))) (sl_244_52 e tg)
  · refine sh_Lk_lift (T := m.T) (I := m.I) (J := m.J) (s := m.s) (pc2 := 52) (lv2 := [(7, .int x3), (0, .ref 67), (1, .int x1), (2, .int x2), (3, .int x3), (4, .int x4), (5, .int x5), (6, .int x6)]) (st2 := []) (I2 := m.I) (J2 := m.J) (fun hT v kk => ?_) ?_
    · refine sh_jc (c := .lt) (off := (6)) (pc2 := 49) false rfl (sh_Bltf c) rfl ?_
      refine sh_w (i := (.iload_n 3)) (len := 1) (pc2 := 50) (lv2 := [(0, .ref 67), (1, .int x1), (2, .int x2), (3, .int x3), (4, .int x4), (5, .int x5), (6, .int x6), (7, .int x7)]) (st2 := [.int x3]) (h2 := (sh_rep m.T m.I m.J)) rfl rfl rfl ?_
      refine sh_w (i := (.istore 7)) (len := 2) (pc2 := 52) (lv2 := [(7, .int x3), (0, .ref 67), (1, .int x1), (2, .int x2), (3, .int x3), (4, .int x4), (5, .int x5), (6, .int x6)]) (st2 := []) (h2 := (sh_rep m.T m.I m.J)) rfl rfl rfl ?_
      exact kk
    exact sh_Lk_sub (sh_sub_c rfl (sh_sub_c rfl (sh_sub_c rfl (sh_sub_c rfl (sh_sub_c rfl (sh_sub_c rfl (sh_sub_c rfl (sh_sub_c rfl (sh_sub_n))))))))) (sl_244_52 e tg)
theorem sl_244_23s {x1 : Int32} {x2 : Int32} {x3 : Int32} {x4 : Int32} {x5 : Int32} {x6 : Int32} {m m2 : sh_X} {o : Outcome} {z : ((Int32 × sh_X) ⊕ (Bool × sh_X))} (e : sf_244_23s x1 x2 x3 x4 x5 x6 m = some z) (tg : (sh_el (fun q => sh_Lk 244 23 [(0, .ref 67), (1, .int x1), (2, .int x2), (3, .int x3), (4, .int x4), (5, .int x5), (6, .int q.1)] [] q.2 o m2 8 200) (sh_tZ o m2)) z) : sh_Lk 244 23 [(0, .ref 67), (1, .int x1), (2, .int x2), (3, .int x3), (4, .int x4), (5, .int x5), (6, .int x6)] [] m o m2 8 200 := by
  unfold sf_244_23s at e
  refine sh_Lk_lift (T := m.T) (I := m.I) (J := m.J) (s := m.s) (pc2 := 27) (lv2 := [(0, .ref 67), (1, .int x1), (2, .int x2), (3, .int x3), (4, .int x4), (5, .int x5), (6, .int x6)]) (st2 := [.int 20, .int x6]) (I2 := m.I) (J2 := m.J) (fun hT v kk => ?_) ?_
  · refine sh_w (i := (.iload 6)) (len := 2) (pc2 := 25) (lv2 := [(0, .ref 67), (1, .int x1), (2, .int x2), (3, .int x3), (4, .int x4), (5, .int x5), (6, .int x6)]) (st2 := [.int x6]) (h2 := (sh_rep m.T m.I m.J)) rfl rfl rfl ?_
    refine sh_w (i := (.bipush 20)) (len := 2) (pc2 := 27) (lv2 := [(0, .ref 67), (1, .int x1), (2, .int x2), (3, .int x3), (4, .int x4), (5, .int x5), (6, .int x6)]) (st2 := [.int 20, .int x6]) (h2 := (sh_rep m.T m.I m.J)) rfl rfl rfl ?_
    exact kk
  rcases sh_ite e with ⟨c, e⟩ | ⟨c, e⟩
  · refine sh_Lk_lift (T := m.T) (I := m.I) (J := m.J) (s := m.s) (pc2 := 36) (lv2 := [(7, .int x1), (0, .ref 67), (1, .int x1), (2, .int x2), (3, .int x3), (4, .int x4), (5, .int x5), (6, .int x6)]) (st2 := [.int 4, .int x6]) (I2 := m.I) (J2 := m.J) (fun hT v kk => ?_) ?_
    · refine sh_jc (c := .ge) (off := (86)) (pc2 := 30) false rfl (sh_Bgef c) rfl ?_
      refine sh_w (i := (.iload_n 1)) (len := 1) (pc2 := 31) (lv2 := [(0, .ref 67), (1, .int x1), (2, .int x2), (3, .int x3), (4, .int x4), (5, .int x5), (6, .int x6)]) (st2 := [.int x1]) (h2 := (sh_rep m.T m.I m.J)) rfl rfl rfl ?_
      refine sh_w (i := (.istore 7)) (len := 2) (pc2 := 33) (lv2 := [(7, .int x1), (0, .ref 67), (1, .int x1), (2, .int x2), (3, .int x3), (4, .int x4), (5, .int x5), (6, .int x6)]) (st2 := []) (h2 := (sh_rep m.T m.I m.J)) rfl rfl rfl ?_
      refine sh_w (i := (.iload 6)) (len := 2) (pc2 := 35) (lv2 := [(7, .int x1), (0, .ref 67), (1, .int x1), (2, .int x2), (3, .int x3), (4, .int x4), (5, .int x5), (6, .int x6)]) (st2 := [.int x6]) (h2 := (sh_rep m.T m.I m.J)) rfl rfl rfl ?_
      refine sh_w (i := (.iconst 4)) (len := 1) (pc2 := 36) (lv2 := [(7, .int x1), (0, .ref 67), (1, .int x1), (2, .int x2), (3, .int x3), (4, .int x4), (5, .int x5), (6, .int x6)]) (st2 := [.int 4, .int x6]) (h2 := (sh_rep m.T m.I m.J)) rfl rfl rfl ?_
      exact kk
    rcases sh_ite e with ⟨c, e⟩ | ⟨c, e⟩
    · refine sh_Lk_lift (T := m.T) (I := m.I) (J := m.J) (s := m.s) (pc2 := 42) (lv2 := [(7, .int x1), (0, .ref 67), (1, .int x1), (2, .int x2), (3, .int x3), (4, .int x4), (5, .int x5), (6, .int x6)]) (st2 := []) (I2 := m.I) (J2 := m.J) (fun hT v kk => ?_) ?_
      · refine sh_jc (c := .lt) (off := (6)) (pc2 := 42) true rfl (sh_Bltt c) rfl ?_
        exact kk
      exact sh_Lk_sub (sh_sub_c rfl (sh_sub_c rfl (sh_sub_c rfl (sh_sub_c rfl (sh_sub_c rfl (sh_sub_c rfl (sh_sub_c rfl (sh_sub_c rfl (sh_sub_n))))))))) (sl_244_42 e tg)
    · refine sh_Lk_lift (T := m.T) (I := m.I) (J := m.J) (s := m.s) (pc2 := 42) (lv2 := [(7, .int x2), (0, .ref 67), (1, .int x1), (2, .int x2), (3, .int x3), (4, .int x4), (5, .int x5), (6, .int x6)]) (st2 := []) (I2 := m.I) (J2 := m.J) (fun hT v kk => ?_) ?_
      · refine sh_jc (c := .lt) (off := (6)) (pc2 := 39) false rfl (sh_Bltf c) rfl ?_
        refine sh_w (i := (.iload_n 2)) (len := 1) (pc2 := 40) (lv2 := [(7, .int x1), (0, .ref 67), (1, .int x1), (2, .int x2), (3, .int x3), (4, .int x4), (5, .int x5), (6, .int x6)]) (st2 := [.int x2]) (h2 := (sh_rep m.T m.I m.J)) rfl rfl rfl ?_
        refine sh_w (i := (.istore 7)) (len := 2) (pc2 := 42) (lv2 := [(7, .int x2), (0, .ref 67), (1, .int x1), (2, .int x2), (3, .int x3), (4, .int x4), (5, .int x5), (6, .int x6)]) (st2 := []) (h2 := (sh_rep m.T m.I m.J)) rfl rfl rfl ?_
        exact kk
      exact sh_Lk_sub (sh_sub_c rfl (sh_sub_c rfl (sh_sub_c rfl (sh_sub_c rfl (sh_sub_c rfl (sh_sub_c rfl (sh_sub_c rfl (sh_sub_c rfl (sh_sub_n))))))))) (sl_244_42 e tg)
  · refine sh_Lk_lift (T := m.T) (I := m.I) (J := m.J) (s := m.s) (pc2 := 114) (lv2 := [(0, .ref 67), (1, .int x1), (2, .int x2), (3, .int x3), (4, .int x4), (5, .int x5), (6, .int x6)]) (st2 := [.int 1]) (I2 := m.I) (J2 := m.J) (fun hT v kk => ?_) ?_
    · refine sh_jc (c := .ge) (off := (86)) (pc2 := 113) true rfl (sh_Bget c) rfl ?_
      refine sh_w (i := (.iconst 1)) (len := 1) (pc2 := 114) (lv2 := [(0, .ref 67), (1, .int x1), (2, .int x2), (3, .int x3), (4, .int x4), (5, .int x5), (6, .int x6)]) (st2 := [.int 1]) (h2 := (sh_rep m.T m.I m.J)) rfl rfl rfl ?_
      exact kk
    obtain rfl := Option.some.inj e
    obtain ⟨rfl, rfl⟩ := tg
    exact sh_Lk_ret (i := .ireturn) rfl rfl rfl (Nat.le_of_ble_eq_true rfl) (Nat.le_of_ble_eq_true rfl)
theorem sl_244_23 {x1 : Int32} {x2 : Int32} {x3 : Int32} {x4 : Int32} {x5 : Int32} {x6 : Int32} {m m2 : sh_X} {o : Outcome} {z : (Bool × sh_X)} (e : sf_244_23 x1 x2 x3 x4 x5 x6 m = some z) (tg : (sh_tZ o m2) z) : sh_Lk 244 23 [(0, .ref 67), (1, .int x1), (2, .int x2), (3, .int x3), (4, .int x4), (5, .int x5), (6, .int x6)] [] m o m2 8 200 := by
  unfold sf_244_23 at e
  exact sh_while_lk (P := fun q => sh_Lk 244 23 [(0, .ref 67), (1, .int x1), (2, .int x2), (3, .int x3), (4, .int x4), (5, .int x5), (6, .int q.1)] [] q.2 o m2 8 200) (Q := (sh_tZ o m2)) (fun q z e tg => sl_244_23s (x1 := x1) (x2 := x2) (x3 := x3) (x4 := x4) (x5 := x5) (x6 := q.1) (m := q.2) e tg) (s := (x6, m)) e tg
theorem sl_244 {x1 : Int32} {x2 : Int32} {x3 : Int32} {x4 : Int32} {x5 : Int32} {m m2 : sh_X} {o : Outcome} {z : (Bool × sh_X)} (e : sf_244 x1 x2 x3 x4 x5 m = some z) (tg : (sh_tZ o m2) z) : sh_Lk 244 0 [(0, .ref 67), (1, .int x1), (2, .int x2), (3, .int x3), (4, .int x4), (5, .int x5)] [] m o m2 8 200 := by
  unfold sf_244 at e
  refine sh_Lk_lift (T := m.T) (I := m.I) (J := m.J) (s := m.s) (pc2 := 15) (lv2 := [(0, .ref 67), (1, .int x1), (2, .int x2), (3, .int x3), (4, .int x4), (5, .int x5)]) (st2 := [.int 4000, .int ((m.I 66 2) + 20)]) (I2 := sh_u2 m.I 66 0 0) (J2 := m.J) (fun hT v kk => ?_) ?_
  · refine sh_w (i := (.aload_n 0)) (len := 1) (pc2 := 1) (lv2 := [(0, .ref 67), (1, .int x1), (2, .int x2), (3, .int x3), (4, .int x4), (5, .int x5)]) (st2 := [.ref 67]) (h2 := (sh_rep m.T m.I m.J)) rfl rfl rfl ?_
    refine sh_w (i := (.iconst 0)) (len := 1) (pc2 := 2) (lv2 := [(0, .ref 67), (1, .int x1), (2, .int x2), (3, .int x3), (4, .int x4), (5, .int x5)]) (st2 := [.int 0, .ref 67]) (h2 := (sh_rep m.T m.I m.J)) rfl rfl rfl ?_
    refine sh_pI1 (x := 0) (pc2 := 5) rfl rfl (sh_s66 hT.st) rfl rfl rfl rfl ?_
    refine sh_w (i := (.aload_n 0)) (len := 1) (pc2 := 6) (lv2 := [(0, .ref 67), (1, .int x1), (2, .int x2), (3, .int x3), (4, .int x4), (5, .int x5)]) (st2 := [.ref 67]) (h2 := (sh_rep m.T (sh_u2 m.I 66 0 0) m.J)) rfl rfl rfl ?_
    refine sh_gI1 (len := 3) (x := m.I 66 2) (pc2 := 9) rfl rfl (sh_s66 hT.st) rfl rfl rfl ?_
    refine sh_w (i := (.bipush 20)) (len := 2) (pc2 := 11) (lv2 := [(0, .ref 67), (1, .int x1), (2, .int x2), (3, .int x3), (4, .int x4), (5, .int x5)]) (st2 := [.int 20, .int (m.I 66 2)]) (h2 := (sh_rep m.T (sh_u2 m.I 66 0 0) m.J)) rfl rfl rfl ?_
    refine sh_w (i := .iadd) (len := 1) (pc2 := 12) (lv2 := [(0, .ref 67), (1, .int x1), (2, .int x2), (3, .int x3), (4, .int x4), (5, .int x5)]) (st2 := [.int ((m.I 66 2) + 20)]) (h2 := (sh_rep m.T (sh_u2 m.I 66 0 0) m.J)) rfl rfl rfl ?_
    refine sh_w (i := (.sipush 4000)) (len := 3) (pc2 := 15) (lv2 := [(0, .ref 67), (1, .int x1), (2, .int x2), (3, .int x3), (4, .int x4), (5, .int x5)]) (st2 := [.int 4000, .int ((m.I 66 2) + 20)]) (h2 := (sh_rep m.T (sh_u2 m.I 66 0 0) m.J)) rfl rfl rfl ?_
    exact kk
  rcases sh_ite e with ⟨c, e⟩ | ⟨c, e⟩
  · refine sh_Lk_lift (T := m.T) (I := sh_u2 m.I 66 0 0) (J := m.J) (s := m.s) (pc2 := 19) (lv2 := [(0, .ref 67), (1, .int x1), (2, .int x2), (3, .int x3), (4, .int x4), (5, .int x5)]) (st2 := [.int 0]) (I2 := sh_u2 m.I 66 0 0) (J2 := m.J) (fun hT v kk => ?_) ?_
    · refine sh_jc (c := .le) (off := (5)) (pc2 := 18) false rfl (sh_Blef c) rfl ?_
      refine sh_w (i := (.iconst 0)) (len := 1) (pc2 := 19) (lv2 := [(0, .ref 67), (1, .int x1), (2, .int x2), (3, .int x3), (4, .int x4), (5, .int x5)]) (st2 := [.int 0]) (h2 := (sh_rep m.T (sh_u2 m.I 66 0 0) m.J)) rfl rfl rfl ?_
      exact kk
    obtain rfl := Option.some.inj e
    obtain ⟨rfl, rfl⟩ := tg
    exact sh_Lk_ret (i := .ireturn) rfl rfl rfl (Nat.le_of_ble_eq_true rfl) (Nat.le_of_ble_eq_true rfl)
  · refine sh_Lk_lift (T := m.T) (I := sh_u2 m.I 66 0 0) (J := m.J) (s := m.s) (pc2 := 23) (lv2 := [(6, .int 0), (0, .ref 67), (1, .int x1), (2, .int x2), (3, .int x3), (4, .int x4), (5, .int x5)]) (st2 := []) (I2 := sh_u2 m.I 66 0 0) (J2 := m.J) (fun hT v kk => ?_) ?_
    · refine sh_jc (c := .le) (off := (5)) (pc2 := 20) true rfl (sh_Blet c) rfl ?_
      refine sh_w (i := (.iconst 0)) (len := 1) (pc2 := 21) (lv2 := [(0, .ref 67), (1, .int x1), (2, .int x2), (3, .int x3), (4, .int x4), (5, .int x5)]) (st2 := [.int 0]) (h2 := (sh_rep m.T (sh_u2 m.I 66 0 0) m.J)) rfl rfl rfl ?_
      refine sh_w (i := (.istore 6)) (len := 2) (pc2 := 23) (lv2 := [(6, .int 0), (0, .ref 67), (1, .int x1), (2, .int x2), (3, .int x3), (4, .int x4), (5, .int x5)]) (st2 := []) (h2 := (sh_rep m.T (sh_u2 m.I 66 0 0) m.J)) rfl rfl rfl ?_
      exact kk
    exact sh_Lk_sub (sh_sub_c rfl (sh_sub_c rfl (sh_sub_c rfl (sh_sub_c rfl (sh_sub_c rfl (sh_sub_c rfl (sh_sub_c rfl (sh_sub_n)))))))) (sl_244_23 e tg)
theorem sl_245 {x1 : Int32} {m m2 : sh_X} {o : Outcome} {z : (Bool × sh_X)} (e : sf_245 x1 m = some z) (tg : (sh_tZ o m2) z) : sh_Lk 245 0 [(0, .ref 67), (1, .int x1)] [] m o m2 8 200 := by
  unfold sf_245 at e
  refine sh_Lk_lift (T := m.T) (I := m.I) (J := m.J) (s := m.s) (pc2 := 6) (lv2 := [(0, .ref 67), (1, .int x1)]) (st2 := [.int x1]) (I2 := sh_u2 m.I 66 0 0) (J2 := m.J) (fun hT v kk => ?_) ?_
  · refine sh_w (i := (.aload_n 0)) (len := 1) (pc2 := 1) (lv2 := [(0, .ref 67), (1, .int x1)]) (st2 := [.ref 67]) (h2 := (sh_rep m.T m.I m.J)) rfl rfl rfl ?_
    refine sh_w (i := (.iconst 0)) (len := 1) (pc2 := 2) (lv2 := [(0, .ref 67), (1, .int x1)]) (st2 := [.int 0, .ref 67]) (h2 := (sh_rep m.T m.I m.J)) rfl rfl rfl ?_
    refine sh_pI1 (x := 0) (pc2 := 5) rfl rfl (sh_s66 hT.st) rfl rfl rfl rfl ?_
    refine sh_w (i := (.iload_n 1)) (len := 1) (pc2 := 6) (lv2 := [(0, .ref 67), (1, .int x1)]) (st2 := [.int x1]) (h2 := (sh_rep m.T (sh_u2 m.I 66 0 0) m.J)) rfl rfl rfl ?_
    exact kk
  rcases sh_ite e with ⟨c, e⟩ | ⟨c, e⟩
  · refine sh_Lk_lift (T := m.T) (I := sh_u2 m.I 66 0 0) (J := m.J) (s := m.s) (pc2 := 18) (lv2 := [(0, .ref 67), (1, .int x1)]) (st2 := [.int 0]) (I2 := sh_u2 m.I 66 0 0) (J2 := m.J) (fun hT v kk => ?_) ?_
    · refine sh_j0 (c := .lt) (off := (11)) (pc2 := 17) true rfl (sh_Bltt c) rfl ?_
      refine sh_w (i := (.iconst 0)) (len := 1) (pc2 := 18) (lv2 := [(0, .ref 67), (1, .int x1)]) (st2 := [.int 0]) (h2 := (sh_rep m.T (sh_u2 m.I 66 0 0) m.J)) rfl rfl rfl ?_
      exact kk
    obtain rfl := Option.some.inj e
    obtain ⟨rfl, rfl⟩ := tg
    exact sh_Lk_ret (i := .ireturn) rfl rfl rfl (Nat.le_of_ble_eq_true rfl) (Nat.le_of_ble_eq_true rfl)
  · refine sh_Lk_lift (T := m.T) (I := sh_u2 m.I 66 0 0) (J := m.J) (s := m.s) (pc2 := 14) (lv2 := [(0, .ref 67), (1, .int x1)]) (st2 := [.int (m.I 66 2), .int x1]) (I2 := sh_u2 m.I 66 0 0) (J2 := m.J) (fun hT v kk => ?_) ?_
    · refine sh_j0 (c := .lt) (off := (11)) (pc2 := 9) false rfl (sh_Bltf c) rfl ?_
      refine sh_w (i := (.iload_n 1)) (len := 1) (pc2 := 10) (lv2 := [(0, .ref 67), (1, .int x1)]) (st2 := [.int x1]) (h2 := (sh_rep m.T (sh_u2 m.I 66 0 0) m.J)) rfl rfl rfl ?_
      refine sh_w (i := (.aload_n 0)) (len := 1) (pc2 := 11) (lv2 := [(0, .ref 67), (1, .int x1)]) (st2 := [.ref 67, .int x1]) (h2 := (sh_rep m.T (sh_u2 m.I 66 0 0) m.J)) rfl rfl rfl ?_
      refine sh_gI1 (len := 3) (x := m.I 66 2) (pc2 := 14) rfl rfl (sh_s66 hT.st) rfl rfl rfl ?_
      exact kk
    rcases sh_ite e with ⟨c, e⟩ | ⟨c, e⟩
    · refine sh_Lk_lift (T := m.T) (I := sh_u2 m.I 66 0 0) (J := m.J) (s := m.s) (pc2 := 18) (lv2 := [(0, .ref 67), (1, .int x1)]) (st2 := [.int 0]) (I2 := sh_u2 m.I 66 0 0) (J2 := m.J) (fun hT v kk => ?_) ?_
      · refine sh_jc (c := .le) (off := (5)) (pc2 := 17) false rfl (sh_Blef c) rfl ?_
        refine sh_w (i := (.iconst 0)) (len := 1) (pc2 := 18) (lv2 := [(0, .ref 67), (1, .int x1)]) (st2 := [.int 0]) (h2 := (sh_rep m.T (sh_u2 m.I 66 0 0) m.J)) rfl rfl rfl ?_
        exact kk
      obtain rfl := Option.some.inj e
      obtain ⟨rfl, rfl⟩ := tg
      exact sh_Lk_ret (i := .ireturn) rfl rfl rfl (Nat.le_of_ble_eq_true rfl) (Nat.le_of_ble_eq_true rfl)
    · refine sh_Lk_lift (T := m.T) (I := sh_u2 m.I 66 0 0) (J := m.J) (s := m.s) (pc2 := 25) (lv2 := [(0, .ref 67), (1, .int x1)]) (st2 := [.int 1]) (I2 := sh_u2 (sh_u2 m.I 66 0 0) 66 2 x1) (J2 := m.J) (fun hT v kk => ?_) ?_
      · refine sh_jc (c := .le) (off := (5)) (pc2 := 19) true rfl (sh_Blet c) rfl ?_
        refine sh_w (i := (.aload_n 0)) (len := 1) (pc2 := 20) (lv2 := [(0, .ref 67), (1, .int x1)]) (st2 := [.ref 67]) (h2 := (sh_rep m.T (sh_u2 m.I 66 0 0) m.J)) rfl rfl rfl ?_
        refine sh_w (i := (.iload_n 1)) (len := 1) (pc2 := 21) (lv2 := [(0, .ref 67), (1, .int x1)]) (st2 := [.int x1, .ref 67]) (h2 := (sh_rep m.T (sh_u2 m.I 66 0 0) m.J)) rfl rfl rfl ?_
        refine sh_pI1 (x := x1) (pc2 := 24) rfl rfl (sh_s66 hT.st) rfl rfl rfl rfl ?_
        refine sh_w (i := (.iconst 1)) (len := 1) (pc2 := 25) (lv2 := [(0, .ref 67), (1, .int x1)]) (st2 := [.int 1]) (h2 := (sh_rep m.T (sh_u2 (sh_u2 m.I 66 0 0) 66 2 x1) m.J)) rfl rfl rfl ?_
        exact kk
      obtain rfl := Option.some.inj e
      obtain ⟨rfl, rfl⟩ := tg
      exact sh_Lk_ret (i := .ireturn) rfl rfl rfl (Nat.le_of_ble_eq_true rfl) (Nat.le_of_ble_eq_true rfl)
theorem sl_247_45s {x1 : Int32} {m m2 : sh_X} {o : Outcome} {z : ((Int32 × sh_X) ⊕ (Unit × sh_X))} (e : sf_247_45s x1 m = some z) (tg : (sh_el (fun q => sh_Lk 247 45 [(0, .ref 67), (1, .int q.1)] [] q.2 o m2 8 200) (sh_tV o m2)) z) : sh_Lk 247 45 [(0, .ref 67), (1, .int x1)] [] m o m2 8 200 := by
  unfold sf_247_45s at e
  refine sh_Lk_lift (T := m.T) (I := m.I) (J := m.J) (s := m.s) (pc2 := 49) (lv2 := [(0, .ref 67), (1, .int x1)]) (st2 := [.int 512, .int x1]) (I2 := m.I) (J2 := m.J) (fun hT v kk => ?_) ?_
  · refine sh_w (i := (.iload_n 1)) (len := 1) (pc2 := 46) (lv2 := [(0, .ref 67), (1, .int x1)]) (st2 := [.int x1]) (h2 := (sh_rep m.T m.I m.J)) rfl rfl rfl ?_
    refine sh_w (i := (.sipush 512)) (len := 3) (pc2 := 49) (lv2 := [(0, .ref 67), (1, .int x1)]) (st2 := [.int 512, .int x1]) (h2 := (sh_rep m.T m.I m.J)) rfl rfl rfl ?_
    exact kk
  rcases sh_ite e with ⟨c, e⟩ | ⟨c, e⟩
  · refine sh_Lk_lift (T := m.T) (I := m.I) (J := m.J) (s := m.s) (pc2 := 58) (lv2 := [(0, .ref 67), (1, .int x1)]) (st2 := [.long 0, .int x1, .ref 104]) (I2 := m.I) (J2 := m.J) (fun hT v kk => ?_) ?_
    · refine sh_jc (c := .ge) (off := (16)) (pc2 := 52) false rfl (sh_Bgef c) rfl ?_
      refine sh_w (i := (.aload_n 0)) (len := 1) (pc2 := 53) (lv2 := [(0, .ref 67), (1, .int x1)]) (st2 := [.ref 67]) (h2 := (sh_rep m.T m.I m.J)) rfl rfl rfl ?_
      refine sh_gR1 (len := 3) (x := .ref 104) (pc2 := 56) rfl rfl (sh_s66 hT.st) rfl rfl ?_
      refine sh_w (i := (.iload_n 1)) (len := 1) (pc2 := 57) (lv2 := [(0, .ref 67), (1, .int x1)]) (st2 := [.int x1, .ref 104]) (h2 := (sh_rep m.T m.I m.J)) rfl rfl rfl ?_
      refine sh_w (i := (.lconst 0)) (len := 1) (pc2 := 58) (lv2 := [(0, .ref 67), (1, .int x1)]) (st2 := [.long 0, .int x1, .ref 104]) (h2 := (sh_rep m.T m.I m.J)) rfl rfl rfl ?_
      exact kk
    obtain ⟨c, e⟩ := sh_gd e
    refine sh_Lk_lift (T := m.T) (I := m.I) (J := m.J) (s := m.s) (pc2 := 45) (lv2 := [(1, .int (x1 + 1)), (0, .ref 67)]) (st2 := []) (I2 := m.I) (J2 := sh_u2 m.J 103 (Int32.toNatClampNeg x1) 0) (fun hT v kk => ?_) ?_
    · refine sh_ls1 (x := 0) (i := x1) (pc2 := 59) rfl (sh_s103 hT.st) (sh_okb1 c) (sh_okb2 c) rfl ?_
      refine sh_w (i := (.iinc 1 1)) (len := 3) (pc2 := 62) (lv2 := [(1, .int (x1 + 1)), (0, .ref 67)]) (st2 := []) (h2 := (sh_rep m.T m.I (sh_u2 m.J 103 (Int32.toNatClampNeg x1) 0))) rfl rfl rfl ?_
      refine sh_w (i := (.goto (-17))) (len := 3) (pc2 := 45) (lv2 := [(1, .int (x1 + 1)), (0, .ref 67)]) (st2 := []) (h2 := (sh_rep m.T m.I (sh_u2 m.J 103 (Int32.toNatClampNeg x1) 0))) rfl rfl rfl ?_
      exact kk
    obtain rfl := Option.some.inj e
    exact sh_Lk_sub (sh_sub_c rfl (sh_sub_c rfl (sh_sub_n))) tg
  · refine sh_Lk_lift (T := m.T) (I := m.I) (J := m.J) (s := m.s) (pc2 := 65) (lv2 := [(0, .ref 67), (1, .int x1)]) (st2 := []) (I2 := m.I) (J2 := m.J) (fun hT v kk => ?_) ?_
    · refine sh_jc (c := .ge) (off := (16)) (pc2 := 65) true rfl (sh_Bget c) rfl ?_
      exact kk
    obtain rfl := Option.some.inj e
    obtain ⟨rfl, rfl⟩ := tg
    exact sh_Lk_ret (i := .return_) rfl rfl rfl (Nat.le_of_ble_eq_true rfl) (Nat.le_of_ble_eq_true rfl)
theorem sl_247_45 {x1 : Int32} {m m2 : sh_X} {o : Outcome} {z : (Unit × sh_X)} (e : sf_247_45 x1 m = some z) (tg : (sh_tV o m2) z) : sh_Lk 247 45 [(0, .ref 67), (1, .int x1)] [] m o m2 8 200 := by
  unfold sf_247_45 at e
  exact sh_while_lk (P := fun q => sh_Lk 247 45 [(0, .ref 67), (1, .int q.1)] [] q.2 o m2 8 200) (Q := (sh_tV o m2)) (fun q z e tg => sl_247_45s (x1 := q.1) (m := q.2) e tg) (s := (x1, m)) e tg
theorem sl_247 {m m2 : sh_X} {o : Outcome} {z : (Unit × sh_X)} (e : sf_247 m = some z) (tg : (sh_tV o m2) z) : sh_Lk 247 0 [(0, .ref 67)] [] m o m2 8 200 := by
  unfold sf_247 at e
  refine sh_Lk_lift (T := m.T) (I := m.I) (J := m.J) (s := m.s) (pc2 := 45) (lv2 := [(1, .int 0), (0, .ref 67)]) (st2 := []) (I2 := sh_u2 (sh_u2 (sh_u2 (sh_u2 (sh_u2 (sh_u2 (sh_u2 m.I 66 80 ((m.I 66 80) + 1)) 66 3 (m.I 66 2)) 66 2 0) 66 5 0) 66 4 0) 66 6 0) 66 7 (-1)) (J2 := m.J) (fun hT v kk => ?_) ?_
  · refine sh_w (i := (.aload_n 0)) (len := 1) (pc2 := 1) (lv2 := [(0, .ref 67)]) (st2 := [.ref 67]) (h2 := (sh_rep m.T m.I m.J)) rfl rfl rfl ?_
    refine sh_w (i := .dup) (len := 1) (pc2 := 2) (lv2 := [(0, .ref 67)]) (st2 := [.ref 67, .ref 67]) (h2 := (sh_rep m.T m.I m.J)) rfl rfl rfl ?_
    refine sh_gI1 (len := 3) (x := m.I 66 80) (pc2 := 5) rfl rfl (sh_s66 hT.st) rfl rfl rfl ?_
    refine sh_w (i := (.iconst 1)) (len := 1) (pc2 := 6) (lv2 := [(0, .ref 67)]) (st2 := [.int 1, .int (m.I 66 80), .ref 67]) (h2 := (sh_rep m.T m.I m.J)) rfl rfl rfl ?_
    refine sh_w (i := .iadd) (len := 1) (pc2 := 7) (lv2 := [(0, .ref 67)]) (st2 := [.int ((m.I 66 80) + 1), .ref 67]) (h2 := (sh_rep m.T m.I m.J)) rfl rfl rfl ?_
    refine sh_pI1 (x := (m.I 66 80) + 1) (pc2 := 10) rfl rfl (sh_s66 hT.st) rfl rfl rfl rfl ?_
    refine sh_w (i := (.aload_n 0)) (len := 1) (pc2 := 11) (lv2 := [(0, .ref 67)]) (st2 := [.ref 67]) (h2 := (sh_rep m.T (sh_u2 m.I 66 80 ((m.I 66 80) + 1)) m.J)) rfl rfl rfl ?_
    refine sh_w (i := (.aload_n 0)) (len := 1) (pc2 := 12) (lv2 := [(0, .ref 67)]) (st2 := [.ref 67, .ref 67]) (h2 := (sh_rep m.T (sh_u2 m.I 66 80 ((m.I 66 80) + 1)) m.J)) rfl rfl rfl ?_
    refine sh_gI1 (len := 3) (x := m.I 66 2) (pc2 := 15) rfl rfl (sh_s66 hT.st) rfl rfl rfl ?_
    refine sh_pI1 (x := m.I 66 2) (pc2 := 18) rfl rfl (sh_s66 hT.st) rfl rfl rfl rfl ?_
    refine sh_w (i := (.aload_n 0)) (len := 1) (pc2 := 19) (lv2 := [(0, .ref 67)]) (st2 := [.ref 67]) (h2 := (sh_rep m.T (sh_u2 (sh_u2 m.I 66 80 ((m.I 66 80) + 1)) 66 3 (m.I 66 2)) m.J)) rfl rfl rfl ?_
    refine sh_w (i := (.iconst 0)) (len := 1) (pc2 := 20) (lv2 := [(0, .ref 67)]) (st2 := [.int 0, .ref 67]) (h2 := (sh_rep m.T (sh_u2 (sh_u2 m.I 66 80 ((m.I 66 80) + 1)) 66 3 (m.I 66 2)) m.J)) rfl rfl rfl ?_
    refine sh_pI1 (x := 0) (pc2 := 23) rfl rfl (sh_s66 hT.st) rfl rfl rfl rfl ?_
    refine sh_w (i := (.aload_n 0)) (len := 1) (pc2 := 24) (lv2 := [(0, .ref 67)]) (st2 := [.ref 67]) (h2 := (sh_rep m.T (sh_u2 (sh_u2 (sh_u2 m.I 66 80 ((m.I 66 80) + 1)) 66 3 (m.I 66 2)) 66 2 0) m.J)) rfl rfl rfl ?_
    refine sh_w (i := (.iconst 0)) (len := 1) (pc2 := 25) (lv2 := [(0, .ref 67)]) (st2 := [.int 0, .ref 67]) (h2 := (sh_rep m.T (sh_u2 (sh_u2 (sh_u2 m.I 66 80 ((m.I 66 80) + 1)) 66 3 (m.I 66 2)) 66 2 0) m.J)) rfl rfl rfl ?_
    refine sh_pI1 (x := 0) (pc2 := 28) rfl rfl (sh_s66 hT.st) rfl rfl rfl rfl ?_
    refine sh_w (i := (.aload_n 0)) (len := 1) (pc2 := 29) (lv2 := [(0, .ref 67)]) (st2 := [.ref 67]) (h2 := (sh_rep m.T (sh_u2 (sh_u2 (sh_u2 (sh_u2 m.I 66 80 ((m.I 66 80) + 1)) 66 3 (m.I 66 2)) 66 2 0) 66 5 0) m.J)) rfl rfl rfl ?_
    refine sh_w (i := (.iconst 0)) (len := 1) (pc2 := 30) (lv2 := [(0, .ref 67)]) (st2 := [.int 0, .ref 67]) (h2 := (sh_rep m.T (sh_u2 (sh_u2 (sh_u2 (sh_u2 m.I 66 80 ((m.I 66 80) + 1)) 66 3 (m.I 66 2)) 66 2 0) 66 5 0) m.J)) rfl rfl rfl ?_
    refine sh_pI1 (x := 0) (pc2 := 33) rfl rfl (sh_s66 hT.st) rfl rfl rfl rfl ?_
    refine sh_w (i := (.aload_n 0)) (len := 1) (pc2 := 34) (lv2 := [(0, .ref 67)]) (st2 := [.ref 67]) (h2 := (sh_rep m.T (sh_u2 (sh_u2 (sh_u2 (sh_u2 (sh_u2 m.I 66 80 ((m.I 66 80) + 1)) 66 3 (m.I 66 2)) 66 2 0) 66 5 0) 66 4 0) m.J)) rfl rfl rfl ?_
    refine sh_w (i := (.iconst 0)) (len := 1) (pc2 := 35) (lv2 := [(0, .ref 67)]) (st2 := [.int 0, .ref 67]) (h2 := (sh_rep m.T (sh_u2 (sh_u2 (sh_u2 (sh_u2 (sh_u2 m.I 66 80 ((m.I 66 80) + 1)) 66 3 (m.I 66 2)) 66 2 0) 66 5 0) 66 4 0) m.J)) rfl rfl rfl ?_
    refine sh_pI1 (x := 0) (pc2 := 38) rfl rfl (sh_s66 hT.st) rfl rfl rfl rfl ?_
    refine sh_w (i := (.aload_n 0)) (len := 1) (pc2 := 39) (lv2 := [(0, .ref 67)]) (st2 := [.ref 67]) (h2 := (sh_rep m.T (sh_u2 (sh_u2 (sh_u2 (sh_u2 (sh_u2 (sh_u2 m.I 66 80 ((m.I 66 80) + 1)) 66 3 (m.I 66 2)) 66 2 0) 66 5 0) 66 4 0) 66 6 0) m.J)) rfl rfl rfl ?_
    refine sh_w (i := (.iconst (-1))) (len := 1) (pc2 := 40) (lv2 := [(0, .ref 67)]) (st2 := [.int (-1), .ref 67]) (h2 := (sh_rep m.T (sh_u2 (sh_u2 (sh_u2 (sh_u2 (sh_u2 (sh_u2 m.I 66 80 ((m.I 66 80) + 1)) 66 3 (m.I 66 2)) 66 2 0) 66 5 0) 66 4 0) 66 6 0) m.J)) rfl rfl rfl ?_
    refine sh_pI1 (x := (-1)) (pc2 := 43) rfl rfl (sh_s66 hT.st) rfl rfl rfl rfl ?_
    refine sh_w (i := (.iconst 0)) (len := 1) (pc2 := 44) (lv2 := [(0, .ref 67)]) (st2 := [.int 0]) (h2 := (sh_rep m.T (sh_u2 (sh_u2 (sh_u2 (sh_u2 (sh_u2 (sh_u2 (sh_u2 m.I 66 80 ((m.I 66 80) + 1)) 66 3 (m.I 66 2)) 66 2 0) 66 5 0) 66 4 0) 66 6 0) 66 7 (-1)) m.J)) rfl rfl rfl ?_
    refine sh_w (i := (.istore_n 1)) (len := 1) (pc2 := 45) (lv2 := [(1, .int 0), (0, .ref 67)]) (st2 := []) (h2 := (sh_rep m.T (sh_u2 (sh_u2 (sh_u2 (sh_u2 (sh_u2 (sh_u2 (sh_u2 m.I 66 80 ((m.I 66 80) + 1)) 66 3 (m.I 66 2)) 66 2 0) 66 5 0) 66 4 0) 66 6 0) 66 7 (-1)) m.J)) rfl rfl rfl ?_
    exact kk
  exact sh_Lk_sub (sh_sub_c rfl (sh_sub_c rfl (sh_sub_n))) (sl_247_45 e tg)
theorem sl_249 {x1 : Int32} {m m2 : sh_X} {o : Outcome} {z : Int32} (e : sf_249 x1 m = some z) (tg : (sh_tIc m o m2) z) : sh_Lk 249 0 [(0, .ref 67), (1, .int x1)] [] m o m2 8 200 := by
  unfold sf_249 at e
  refine sh_Lk_lift (T := m.T) (I := m.I) (J := m.J) (s := m.s) (pc2 := 5) (lv2 := [(0, .ref 67), (1, .int x1)]) (st2 := [.int (m.I 66 3), .int x1]) (I2 := m.I) (J2 := m.J) (fun hT v kk => ?_) ?_
  · refine sh_w (i := (.iload_n 1)) (len := 1) (pc2 := 1) (lv2 := [(0, .ref 67), (1, .int x1)]) (st2 := [.int x1]) (h2 := (sh_rep m.T m.I m.J)) rfl rfl rfl ?_
    refine sh_w (i := (.aload_n 0)) (len := 1) (pc2 := 2) (lv2 := [(0, .ref 67), (1, .int x1)]) (st2 := [.ref 67, .int x1]) (h2 := (sh_rep m.T m.I m.J)) rfl rfl rfl ?_
    refine sh_gI1 (len := 3) (x := m.I 66 3) (pc2 := 5) rfl rfl (sh_s66 hT.st) rfl rfl rfl ?_
    exact kk
  rcases sh_ite e with ⟨c, e⟩ | ⟨c, e⟩
  · refine sh_Lk_lift (T := m.T) (I := m.I) (J := m.J) (s := m.s) (pc2 := 13) (lv2 := [(0, .ref 67), (1, .int x1)]) (st2 := [.int x1, .ref 68]) (I2 := m.I) (J2 := m.J) (fun hT v kk => ?_) ?_
    · refine sh_jc (c := .ge) (off := (16)) (pc2 := 8) false rfl (sh_Bgef c) rfl ?_
      refine sh_w (i := (.aload_n 0)) (len := 1) (pc2 := 9) (lv2 := [(0, .ref 67), (1, .int x1)]) (st2 := [.ref 67]) (h2 := (sh_rep m.T m.I m.J)) rfl rfl rfl ?_
      refine sh_gR1 (len := 3) (x := .ref 68) (pc2 := 12) rfl rfl (sh_s66 hT.st) rfl rfl ?_
      refine sh_w (i := (.iload_n 1)) (len := 1) (pc2 := 13) (lv2 := [(0, .ref 67), (1, .int x1)]) (st2 := [.int x1, .ref 68]) (h2 := (sh_rep m.T m.I m.J)) rfl rfl rfl ?_
      exact kk
    obtain ⟨c, e⟩ := sh_gd e
    refine sh_Lk_lift (T := m.T) (I := m.I) (J := m.J) (s := m.s) (pc2 := 22) (lv2 := [(0, .ref 67), (1, .int x1)]) (st2 := [.int ((m.I 67 (Int32.toNatClampNeg x1)) &&& 255)]) (I2 := m.I) (J2 := m.J) (fun hT v kk => ?_) ?_
    · refine sh_ba1 (x := m.I 67 (Int32.toNatClampNeg x1)) (pc2 := 14) rfl (sh_s67 hT.st) (Or.inl rfl) (sh_okb1 c) (sh_okb2 c) rfl rfl ?_
      refine sh_w (i := (.sipush 255)) (len := 3) (pc2 := 17) (lv2 := [(0, .ref 67), (1, .int x1)]) (st2 := [.int 255, .int (m.I 67 (Int32.toNatClampNeg x1))]) (h2 := (sh_rep m.T m.I m.J)) rfl rfl rfl ?_
      refine sh_w (i := .iand) (len := 1) (pc2 := 18) (lv2 := [(0, .ref 67), (1, .int x1)]) (st2 := [.int ((m.I 67 (Int32.toNatClampNeg x1)) &&& 255)]) (h2 := (sh_rep m.T m.I m.J)) rfl rfl rfl ?_
      refine sh_w (i := (.goto 4)) (len := 3) (pc2 := 22) (lv2 := [(0, .ref 67), (1, .int x1)]) (st2 := [.int ((m.I 67 (Int32.toNatClampNeg x1)) &&& 255)]) (h2 := (sh_rep m.T m.I m.J)) rfl rfl rfl ?_
      exact kk
    obtain rfl := Option.some.inj e
    obtain ⟨rfl, rfl⟩ := tg
    exact sh_Lk_ret (i := .ireturn) rfl rfl rfl (Nat.le_of_ble_eq_true rfl) (Nat.le_of_ble_eq_true rfl)
  · refine sh_Lk_lift (T := m.T) (I := m.I) (J := m.J) (s := m.s) (pc2 := 22) (lv2 := [(0, .ref 67), (1, .int x1)]) (st2 := [.int (-1)]) (I2 := m.I) (J2 := m.J) (fun hT v kk => ?_) ?_
    · refine sh_jc (c := .ge) (off := (16)) (pc2 := 21) true rfl (sh_Bget c) rfl ?_
      refine sh_w (i := (.iconst (-1))) (len := 1) (pc2 := 22) (lv2 := [(0, .ref 67), (1, .int x1)]) (st2 := [.int (-1)]) (h2 := (sh_rep m.T m.I m.J)) rfl rfl rfl ?_
      exact kk
    obtain rfl := Option.some.inj e
    obtain ⟨rfl, rfl⟩ := tg
    exact sh_Lk_ret (i := .ireturn) rfl rfl rfl (Nat.le_of_ble_eq_true rfl) (Nat.le_of_ble_eq_true rfl)
theorem sl_250_24 {m m2 : sh_X} {o : Outcome} {z : Bool} (e : sf_250_24 = z) (tg : (sh_tZc m o m2) z) : sh_Lk 250 24 [] [] m o m2 8 200 := by
  unfold sf_250_24 at e
  refine sh_Lk_lift (T := m.T) (I := m.I) (J := m.J) (s := m.s) (pc2 := 29) (lv2 := []) (st2 := [.int 1]) (I2 := m.I) (J2 := m.J) (fun hT v kk => ?_) ?_
  · refine sh_w (i := (.iconst 1)) (len := 1) (pc2 := 25) (lv2 := []) (st2 := [.int 1]) (h2 := (sh_rep m.T m.I m.J)) rfl rfl rfl ?_
    refine sh_w (i := (.goto 4)) (len := 3) (pc2 := 29) (lv2 := []) (st2 := [.int 1]) (h2 := (sh_rep m.T m.I m.J)) rfl rfl rfl ?_
    exact kk
  obtain rfl := e
  obtain ⟨rfl, rfl⟩ := tg
  exact sh_Lk_ret (i := .ireturn) rfl rfl rfl (Nat.le_of_ble_eq_true rfl) (Nat.le_of_ble_eq_true rfl)
theorem sl_250_12 {x0 : Int32} {m m2 : sh_X} {o : Outcome} {z : Bool} (e : sf_250_12 x0 = z) (tg : (sh_tZc m o m2) z) : sh_Lk 250 12 [(0, .int x0)] [] m o m2 8 200 := by
  unfold sf_250_12 at e
  refine sh_Lk_lift (T := m.T) (I := m.I) (J := m.J) (s := m.s) (pc2 := 15) (lv2 := [(0, .int x0)]) (st2 := [.int 65, .int x0]) (I2 := m.I) (J2 := m.J) (fun hT v kk => ?_) ?_
  · refine sh_w (i := (.iload_n 0)) (len := 1) (pc2 := 13) (lv2 := [(0, .int x0)]) (st2 := [.int x0]) (h2 := (sh_rep m.T m.I m.J)) rfl rfl rfl ?_
    refine sh_w (i := (.bipush 65)) (len := 2) (pc2 := 15) (lv2 := [(0, .int x0)]) (st2 := [.int 65, .int x0]) (h2 := (sh_rep m.T m.I m.J)) rfl rfl rfl ?_
    exact kk
  rcases sh_ite e with ⟨c, e⟩ | ⟨c, e⟩
  · refine sh_Lk_lift (T := m.T) (I := m.I) (J := m.J) (s := m.s) (pc2 := 29) (lv2 := [(0, .int x0)]) (st2 := [.int 0]) (I2 := m.I) (J2 := m.J) (fun hT v kk => ?_) ?_
    · refine sh_jc (c := .lt) (off := (13)) (pc2 := 28) true rfl (sh_Bltt c) rfl ?_
      refine sh_w (i := (.iconst 0)) (len := 1) (pc2 := 29) (lv2 := [(0, .int x0)]) (st2 := [.int 0]) (h2 := (sh_rep m.T m.I m.J)) rfl rfl rfl ?_
      exact kk
    obtain rfl := e
    obtain ⟨rfl, rfl⟩ := tg
    exact sh_Lk_ret (i := .ireturn) rfl rfl rfl (Nat.le_of_ble_eq_true rfl) (Nat.le_of_ble_eq_true rfl)
  · refine sh_Lk_lift (T := m.T) (I := m.I) (J := m.J) (s := m.s) (pc2 := 21) (lv2 := [(0, .int x0)]) (st2 := [.int 90, .int x0]) (I2 := m.I) (J2 := m.J) (fun hT v kk => ?_) ?_
    · refine sh_jc (c := .lt) (off := (13)) (pc2 := 18) false rfl (sh_Bltf c) rfl ?_
      refine sh_w (i := (.iload_n 0)) (len := 1) (pc2 := 19) (lv2 := [(0, .int x0)]) (st2 := [.int x0]) (h2 := (sh_rep m.T m.I m.J)) rfl rfl rfl ?_
      refine sh_w (i := (.bipush 90)) (len := 2) (pc2 := 21) (lv2 := [(0, .int x0)]) (st2 := [.int 90, .int x0]) (h2 := (sh_rep m.T m.I m.J)) rfl rfl rfl ?_
      exact kk
    rcases sh_ite e with ⟨c, e⟩ | ⟨c, e⟩
    · refine sh_Lk_lift (T := m.T) (I := m.I) (J := m.J) (s := m.s) (pc2 := 29) (lv2 := [(0, .int x0)]) (st2 := [.int 0]) (I2 := m.I) (J2 := m.J) (fun hT v kk => ?_) ?_
      · refine sh_jc (c := .gt) (off := (7)) (pc2 := 28) true rfl (sh_Bgtt c) rfl ?_
        refine sh_w (i := (.iconst 0)) (len := 1) (pc2 := 29) (lv2 := [(0, .int x0)]) (st2 := [.int 0]) (h2 := (sh_rep m.T m.I m.J)) rfl rfl rfl ?_
        exact kk
      obtain rfl := e
      obtain ⟨rfl, rfl⟩ := tg
      exact sh_Lk_ret (i := .ireturn) rfl rfl rfl (Nat.le_of_ble_eq_true rfl) (Nat.le_of_ble_eq_true rfl)
    · refine sh_Lk_lift (T := m.T) (I := m.I) (J := m.J) (s := m.s) (pc2 := 24) (lv2 := [(0, .int x0)]) (st2 := []) (I2 := m.I) (J2 := m.J) (fun hT v kk => ?_) ?_
      · refine sh_jc (c := .gt) (off := (7)) (pc2 := 24) false rfl (sh_Bgtf c) rfl ?_
        exact kk
      exact sh_Lk_sub (sh_sub_n) (sl_250_24 e tg)
theorem sl_250 {x0 : Int32} {m m2 : sh_X} {o : Outcome} {z : Bool} (e : sf_250 x0 = z) (tg : (sh_tZc m o m2) z) : sh_Lk 250 0 [(0, .int x0)] [] m o m2 8 200 := by
  unfold sf_250 at e
  refine sh_Lk_lift (T := m.T) (I := m.I) (J := m.J) (s := m.s) (pc2 := 3) (lv2 := [(0, .int x0)]) (st2 := [.int 97, .int x0]) (I2 := m.I) (J2 := m.J) (fun hT v kk => ?_) ?_
  · refine sh_w (i := (.iload_n 0)) (len := 1) (pc2 := 1) (lv2 := [(0, .int x0)]) (st2 := [.int x0]) (h2 := (sh_rep m.T m.I m.J)) rfl rfl rfl ?_
    refine sh_w (i := (.bipush 97)) (len := 2) (pc2 := 3) (lv2 := [(0, .int x0)]) (st2 := [.int 97, .int x0]) (h2 := (sh_rep m.T m.I m.J)) rfl rfl rfl ?_
    exact kk
  rcases sh_ite e with ⟨c, e⟩ | ⟨c, e⟩
  · refine sh_Lk_lift (T := m.T) (I := m.I) (J := m.J) (s := m.s) (pc2 := 12) (lv2 := [(0, .int x0)]) (st2 := []) (I2 := m.I) (J2 := m.J) (fun hT v kk => ?_) ?_
    · refine sh_jc (c := .lt) (off := (9)) (pc2 := 12) true rfl (sh_Bltt c) rfl ?_
      exact kk
    exact sh_Lk_sub (sh_sub_c rfl (sh_sub_n)) (sl_250_12 e tg)
  · refine sh_Lk_lift (T := m.T) (I := m.I) (J := m.J) (s := m.s) (pc2 := 9) (lv2 := [(0, .int x0)]) (st2 := [.int 122, .int x0]) (I2 := m.I) (J2 := m.J) (fun hT v kk => ?_) ?_
    · refine sh_jc (c := .lt) (off := (9)) (pc2 := 6) false rfl (sh_Bltf c) rfl ?_
      refine sh_w (i := (.iload_n 0)) (len := 1) (pc2 := 7) (lv2 := [(0, .int x0)]) (st2 := [.int x0]) (h2 := (sh_rep m.T m.I m.J)) rfl rfl rfl ?_
      refine sh_w (i := (.bipush 122)) (len := 2) (pc2 := 9) (lv2 := [(0, .int x0)]) (st2 := [.int 122, .int x0]) (h2 := (sh_rep m.T m.I m.J)) rfl rfl rfl ?_
      exact kk
    rcases sh_ite e with ⟨c, e⟩ | ⟨c, e⟩
    · refine sh_Lk_lift (T := m.T) (I := m.I) (J := m.J) (s := m.s) (pc2 := 12) (lv2 := [(0, .int x0)]) (st2 := []) (I2 := m.I) (J2 := m.J) (fun hT v kk => ?_) ?_
      · refine sh_jc (c := .le) (off := (15)) (pc2 := 12) false rfl (sh_Blef c) rfl ?_
        exact kk
      exact sh_Lk_sub (sh_sub_c rfl (sh_sub_n)) (sl_250_12 e tg)
    · refine sh_Lk_lift (T := m.T) (I := m.I) (J := m.J) (s := m.s) (pc2 := 24) (lv2 := [(0, .int x0)]) (st2 := []) (I2 := m.I) (J2 := m.J) (fun hT v kk => ?_) ?_
      · refine sh_jc (c := .le) (off := (15)) (pc2 := 24) true rfl (sh_Blet c) rfl ?_
        exact kk
      exact sh_Lk_sub (sh_sub_n) (sl_250_24 e tg)
theorem sl_251 {x0 : Int32} {m m2 : sh_X} {o : Outcome} {z : Bool} (e : sf_251 x0 = z) (tg : (sh_tZc m o m2) z) : sh_Lk 251 0 [(0, .int x0)] [] m o m2 8 200 := by
  unfold sf_251 at e
  refine sh_Lk_lift (T := m.T) (I := m.I) (J := m.J) (s := m.s) (pc2 := 3) (lv2 := [(0, .int x0)]) (st2 := [.int 48, .int x0]) (I2 := m.I) (J2 := m.J) (fun hT v kk => ?_) ?_
  · refine sh_w (i := (.iload_n 0)) (len := 1) (pc2 := 1) (lv2 := [(0, .int x0)]) (st2 := [.int x0]) (h2 := (sh_rep m.T m.I m.J)) rfl rfl rfl ?_
    refine sh_w (i := (.bipush 48)) (len := 2) (pc2 := 3) (lv2 := [(0, .int x0)]) (st2 := [.int 48, .int x0]) (h2 := (sh_rep m.T m.I m.J)) rfl rfl rfl ?_
    exact kk
  rcases sh_ite e with ⟨c, e⟩ | ⟨c, e⟩
  · refine sh_Lk_lift (T := m.T) (I := m.I) (J := m.J) (s := m.s) (pc2 := 17) (lv2 := [(0, .int x0)]) (st2 := [.int 0]) (I2 := m.I) (J2 := m.J) (fun hT v kk => ?_) ?_
    · refine sh_jc (c := .lt) (off := (13)) (pc2 := 16) true rfl (sh_Bltt c) rfl ?_
      refine sh_w (i := (.iconst 0)) (len := 1) (pc2 := 17) (lv2 := [(0, .int x0)]) (st2 := [.int 0]) (h2 := (sh_rep m.T m.I m.J)) rfl rfl rfl ?_
      exact kk
    obtain rfl := e
    obtain ⟨rfl, rfl⟩ := tg
    exact sh_Lk_ret (i := .ireturn) rfl rfl rfl (Nat.le_of_ble_eq_true rfl) (Nat.le_of_ble_eq_true rfl)
  · refine sh_Lk_lift (T := m.T) (I := m.I) (J := m.J) (s := m.s) (pc2 := 9) (lv2 := [(0, .int x0)]) (st2 := [.int 57, .int x0]) (I2 := m.I) (J2 := m.J) (fun hT v kk => ?_) ?_
    · refine sh_jc (c := .lt) (off := (13)) (pc2 := 6) false rfl (sh_Bltf c) rfl ?_
      refine sh_w (i := (.iload_n 0)) (len := 1) (pc2 := 7) (lv2 := [(0, .int x0)]) (st2 := [.int x0]) (h2 := (sh_rep m.T m.I m.J)) rfl rfl rfl ?_
      refine sh_w (i := (.bipush 57)) (len := 2) (pc2 := 9) (lv2 := [(0, .int x0)]) (st2 := [.int 57, .int x0]) (h2 := (sh_rep m.T m.I m.J)) rfl rfl rfl ?_
      exact kk
    rcases sh_ite e with ⟨c, e⟩ | ⟨c, e⟩
    · refine sh_Lk_lift (T := m.T) (I := m.I) (J := m.J) (s := m.s) (pc2 := 17) (lv2 := [(0, .int x0)]) (st2 := [.int 0]) (I2 := m.I) (J2 := m.J) (fun hT v kk => ?_) ?_
      · refine sh_jc (c := .gt) (off := (7)) (pc2 := 16) true rfl (sh_Bgtt c) rfl ?_
        refine sh_w (i := (.iconst 0)) (len := 1) (pc2 := 17) (lv2 := [(0, .int x0)]) (st2 := [.int 0]) (h2 := (sh_rep m.T m.I m.J)) rfl rfl rfl ?_
        exact kk
      obtain rfl := e
      obtain ⟨rfl, rfl⟩ := tg
      exact sh_Lk_ret (i := .ireturn) rfl rfl rfl (Nat.le_of_ble_eq_true rfl) (Nat.le_of_ble_eq_true rfl)
    · refine sh_Lk_lift (T := m.T) (I := m.I) (J := m.J) (s := m.s) (pc2 := 17) (lv2 := [(0, .int x0)]) (st2 := [.int 1]) (I2 := m.I) (J2 := m.J) (fun hT v kk => ?_) ?_
      · refine sh_jc (c := .gt) (off := (7)) (pc2 := 12) false rfl (sh_Bgtf c) rfl ?_
        refine sh_w (i := (.iconst 1)) (len := 1) (pc2 := 13) (lv2 := [(0, .int x0)]) (st2 := [.int 1]) (h2 := (sh_rep m.T m.I m.J)) rfl rfl rfl ?_
        refine sh_w (i := (.goto 4)) (len := 3) (pc2 := 17) (lv2 := [(0, .int x0)]) (st2 := [.int 1]) (h2 := (sh_rep m.T m.I m.J)) rfl rfl rfl ?_
        exact kk
      obtain rfl := e
      obtain ⟨rfl, rfl⟩ := tg
      exact sh_Lk_ret (i := .ireturn) rfl rfl rfl (Nat.le_of_ble_eq_true rfl) (Nat.le_of_ble_eq_true rfl)
theorem sl_252 {x1 : Int32} {x2 : Int32} {m m2 : sh_X} {o : Outcome} {z : (Bool × sh_X)} (e : sf_252 x1 x2 m = some z) (tg : (sh_tZ o m2) z) : sh_Lk 252 0 [(0, .ref 67), (1, .int x1), (2, .int x2)] [] m o m2 8 200 := by
  unfold sf_252 at e
  refine sh_Lk_lift (T := m.T) (I := m.I) (J := m.J) (s := m.s) (pc2 := 11) (lv2 := [(0, .ref 67), (1, .int x1), (2, .int x2)]) (st2 := [.int 0]) (I2 := sh_u2 (sh_u2 m.I 66 6 x1) 66 7 x2) (J2 := m.J) (fun hT v kk => ?_) ?_
  · refine sh_w (i := (.aload_n 0)) (len := 1) (pc2 := 1) (lv2 := [(0, .ref 67), (1, .int x1), (2, .int x2)]) (st2 := [.ref 67]) (h2 := (sh_rep m.T m.I m.J)) rfl rfl rfl ?_
    refine sh_w (i := (.iload_n 1)) (len := 1) (pc2 := 2) (lv2 := [(0, .ref 67), (1, .int x1), (2, .int x2)]) (st2 := [.int x1, .ref 67]) (h2 := (sh_rep m.T m.I m.J)) rfl rfl rfl ?_
    refine sh_pI1 (x := x1) (pc2 := 5) rfl rfl (sh_s66 hT.st) rfl rfl rfl rfl ?_
    refine sh_w (i := (.aload_n 0)) (len := 1) (pc2 := 6) (lv2 := [(0, .ref 67), (1, .int x1), (2, .int x2)]) (st2 := [.ref 67]) (h2 := (sh_rep m.T (sh_u2 m.I 66 6 x1) m.J)) rfl rfl rfl ?_
    refine sh_w (i := (.iload_n 2)) (len := 1) (pc2 := 7) (lv2 := [(0, .ref 67), (1, .int x1), (2, .int x2)]) (st2 := [.int x2, .ref 67]) (h2 := (sh_rep m.T (sh_u2 m.I 66 6 x1) m.J)) rfl rfl rfl ?_
    refine sh_pI1 (x := x2) (pc2 := 10) rfl rfl (sh_s66 hT.st) rfl rfl rfl rfl ?_
    refine sh_w (i := (.iconst 0)) (len := 1) (pc2 := 11) (lv2 := [(0, .ref 67), (1, .int x1), (2, .int x2)]) (st2 := [.int 0]) (h2 := (sh_rep m.T (sh_u2 (sh_u2 m.I 66 6 x1) 66 7 x2) m.J)) rfl rfl rfl ?_
    exact kk
  obtain rfl := Option.some.inj e
  obtain ⟨rfl, rfl⟩ := tg
  exact sh_Lk_ret (i := .ireturn) rfl rfl rfl (Nat.le_of_ble_eq_true rfl) (Nat.le_of_ble_eq_true rfl)
theorem sl_253_18 {m m2 : sh_X} {o : Outcome} {z : Bool} (e : sf_253_18 = z) (tg : (sh_tZc m o m2) z) : sh_Lk 253 18 [] [] m o m2 8 200 := by
  unfold sf_253_18 at e
  refine sh_Lk_lift (T := m.T) (I := m.I) (J := m.J) (s := m.s) (pc2 := 23) (lv2 := []) (st2 := [.int 1]) (I2 := m.I) (J2 := m.J) (fun hT v kk => ?_) ?_
  · refine sh_w (i := (.iconst 1)) (len := 1) (pc2 := 19) (lv2 := []) (st2 := [.int 1]) (h2 := (sh_rep m.T m.I m.J)) rfl rfl rfl ?_
    refine sh_w (i := (.goto 4)) (len := 3) (pc2 := 23) (lv2 := []) (st2 := [.int 1]) (h2 := (sh_rep m.T m.I m.J)) rfl rfl rfl ?_
    exact kk
  obtain rfl := e
  obtain ⟨rfl, rfl⟩ := tg
  exact sh_Lk_ret (i := .ireturn) rfl rfl rfl (Nat.le_of_ble_eq_true rfl) (Nat.le_of_ble_eq_true rfl)
theorem sl_253_42 {m m2 : sh_X} {o : Outcome} {z : Bool} (e : sf_253_42 = z) (tg : (sh_tZc m o m2) z) : sh_Lk 253 42 [] [] m o m2 8 200 := by
  unfold sf_253_42 at e
  refine sh_Lk_lift (T := m.T) (I := m.I) (J := m.J) (s := m.s) (pc2 := 47) (lv2 := []) (st2 := [.int 1]) (I2 := m.I) (J2 := m.J) (fun hT v kk => ?_) ?_
  · refine sh_w (i := (.iconst 1)) (len := 1) (pc2 := 43) (lv2 := []) (st2 := [.int 1]) (h2 := (sh_rep m.T m.I m.J)) rfl rfl rfl ?_
    refine sh_w (i := (.goto 4)) (len := 3) (pc2 := 47) (lv2 := []) (st2 := [.int 1]) (h2 := (sh_rep m.T m.I m.J)) rfl rfl rfl ?_
    exact kk
  obtain rfl := e
  obtain ⟨rfl, rfl⟩ := tg
  exact sh_Lk_ret (i := .ireturn) rfl rfl rfl (Nat.le_of_ble_eq_true rfl) (Nat.le_of_ble_eq_true rfl)
theorem sl_253_60 {x2 : Int32} {m m2 : sh_X} {o : Outcome} {z : Bool} (e : sf_253_60 x2 = z) (tg : (sh_tZc m o m2) z) : sh_Lk 253 60 [(2, .int x2)] [] m o m2 8 200 := by
  unfold sf_253_60 at e
  refine sh_Lk_lift (T := m.T) (I := m.I) (J := m.J) (s := m.s) (pc2 := 63) (lv2 := [(2, .int x2)]) (st2 := [.int 61, .int x2]) (I2 := m.I) (J2 := m.J) (fun hT v kk => ?_) ?_
  · refine sh_w (i := (.iload_n 2)) (len := 1) (pc2 := 61) (lv2 := [(2, .int x2)]) (st2 := [.int x2]) (h2 := (sh_rep m.T m.I m.J)) rfl rfl rfl ?_
    refine sh_w (i := (.bipush 61)) (len := 2) (pc2 := 63) (lv2 := [(2, .int x2)]) (st2 := [.int 61, .int x2]) (h2 := (sh_rep m.T m.I m.J)) rfl rfl rfl ?_
    exact kk
  rcases sh_ite e with ⟨c, e⟩ | ⟨c, e⟩
  · refine sh_Lk_lift (T := m.T) (I := m.I) (J := m.J) (s := m.s) (pc2 := 71) (lv2 := [(2, .int x2)]) (st2 := [.int 1]) (I2 := m.I) (J2 := m.J) (fun hT v kk => ?_) ?_
    · refine sh_jc (c := .ne) (off := (7)) (pc2 := 66) false rfl (sh_Bnef c) rfl ?_
      refine sh_w (i := (.iconst 1)) (len := 1) (pc2 := 67) (lv2 := [(2, .int x2)]) (st2 := [.int 1]) (h2 := (sh_rep m.T m.I m.J)) rfl rfl rfl ?_
      refine sh_w (i := (.goto 4)) (len := 3) (pc2 := 71) (lv2 := [(2, .int x2)]) (st2 := [.int 1]) (h2 := (sh_rep m.T m.I m.J)) rfl rfl rfl ?_
      exact kk
    obtain rfl := e
    obtain ⟨rfl, rfl⟩ := tg
    exact sh_Lk_ret (i := .ireturn) rfl rfl rfl (Nat.le_of_ble_eq_true rfl) (Nat.le_of_ble_eq_true rfl)
  · refine sh_Lk_lift (T := m.T) (I := m.I) (J := m.J) (s := m.s) (pc2 := 71) (lv2 := [(2, .int x2)]) (st2 := [.int 0]) (I2 := m.I) (J2 := m.J) (fun hT v kk => ?_) ?_
    · refine sh_jc (c := .ne) (off := (7)) (pc2 := 70) true rfl (sh_Bnet c) rfl ?_
      refine sh_w (i := (.iconst 0)) (len := 1) (pc2 := 71) (lv2 := [(2, .int x2)]) (st2 := [.int 0]) (h2 := (sh_rep m.T m.I m.J)) rfl rfl rfl ?_
      exact kk
    obtain rfl := e
    obtain ⟨rfl, rfl⟩ := tg
    exact sh_Lk_ret (i := .ireturn) rfl rfl rfl (Nat.le_of_ble_eq_true rfl) (Nat.le_of_ble_eq_true rfl)
theorem sl_253_95 {m m2 : sh_X} {o : Outcome} {z : Bool} (e : sf_253_95 = z) (tg : (sh_tZc m o m2) z) : sh_Lk 253 95 [] [] m o m2 8 200 := by
  unfold sf_253_95 at e
  refine sh_Lk_lift (T := m.T) (I := m.I) (J := m.J) (s := m.s) (pc2 := 100) (lv2 := []) (st2 := [.int 1]) (I2 := m.I) (J2 := m.J) (fun hT v kk => ?_) ?_
  · refine sh_w (i := (.iconst 1)) (len := 1) (pc2 := 96) (lv2 := []) (st2 := [.int 1]) (h2 := (sh_rep m.T m.I m.J)) rfl rfl rfl ?_
    refine sh_w (i := (.goto 4)) (len := 3) (pc2 := 100) (lv2 := []) (st2 := [.int 1]) (h2 := (sh_rep m.T m.I m.J)) rfl rfl rfl ?_
    exact kk
  obtain rfl := e
  obtain ⟨rfl, rfl⟩ := tg
  exact sh_Lk_ret (i := .ireturn) rfl rfl rfl (Nat.le_of_ble_eq_true rfl) (Nat.le_of_ble_eq_true rfl)
theorem sl_253 {x1 : Int32} {x2 : Int32} {m m2 : sh_X} {o : Outcome} {z : Bool} (e : sf_253 x1 x2 = z) (tg : (sh_tZc m o m2) z) : sh_Lk 253 0 [(0, .ref 67), (1, .int x1), (2, .int x2)] [] m o m2 8 200 := by
  unfold sf_253 at e
  refine sh_Lk_lift (T := m.T) (I := m.I) (J := m.J) (s := m.s) (pc2 := 3) (lv2 := [(0, .ref 67), (1, .int x1), (2, .int x2)]) (st2 := [.int 60, .int x1]) (I2 := m.I) (J2 := m.J) (fun hT v kk => ?_) ?_
  · refine sh_w (i := (.iload_n 1)) (len := 1) (pc2 := 1) (lv2 := [(0, .ref 67), (1, .int x1), (2, .int x2)]) (st2 := [.int x1]) (h2 := (sh_rep m.T m.I m.J)) rfl rfl rfl ?_
    refine sh_w (i := (.bipush 60)) (len := 2) (pc2 := 3) (lv2 := [(0, .ref 67), (1, .int x1), (2, .int x2)]) (st2 := [.int 60, .int x1]) (h2 := (sh_rep m.T m.I m.J)) rfl rfl rfl ?_
    exact kk
  rcases sh_ite e with ⟨c, e⟩ | ⟨c, e⟩
  · refine sh_Lk_lift (T := m.T) (I := m.I) (J := m.J) (s := m.s) (pc2 := 9) (lv2 := [(0, .ref 67), (1, .int x1), (2, .int x2)]) (st2 := [.int 61, .int x2]) (I2 := m.I) (J2 := m.J) (fun hT v kk => ?_) ?_
    · refine sh_jc (c := .ne) (off := (21)) (pc2 := 6) false rfl (sh_Bnef c) rfl ?_
      refine sh_w (i := (.iload_n 2)) (len := 1) (pc2 := 7) (lv2 := [(0, .ref 67), (1, .int x1), (2, .int x2)]) (st2 := [.int x2]) (h2 := (sh_rep m.T m.I m.J)) rfl rfl rfl ?_
      refine sh_w (i := (.bipush 61)) (len := 2) (pc2 := 9) (lv2 := [(0, .ref 67), (1, .int x1), (2, .int x2)]) (st2 := [.int 61, .int x2]) (h2 := (sh_rep m.T m.I m.J)) rfl rfl rfl ?_
      exact kk
    rcases sh_ite e with ⟨c, e⟩ | ⟨c, e⟩
    · refine sh_Lk_lift (T := m.T) (I := m.I) (J := m.J) (s := m.s) (pc2 := 18) (lv2 := [(0, .ref 67), (1, .int x1), (2, .int x2)]) (st2 := []) (I2 := m.I) (J2 := m.J) (fun hT v kk => ?_) ?_
      · refine sh_jc (c := .eq) (off := (9)) (pc2 := 18) true rfl (sh_Beqt c) rfl ?_
        exact kk
      exact sh_Lk_sub (sh_sub_n) (sl_253_18 e tg)
    · refine sh_Lk_lift (T := m.T) (I := m.I) (J := m.J) (s := m.s) (pc2 := 15) (lv2 := [(0, .ref 67), (1, .int x1), (2, .int x2)]) (st2 := [.int 60, .int x2]) (I2 := m.I) (J2 := m.J) (fun hT v kk => ?_) ?_
      · refine sh_jc (c := .eq) (off := (9)) (pc2 := 12) false rfl (sh_Beqf c) rfl ?_
        refine sh_w (i := (.iload_n 2)) (len := 1) (pc2 := 13) (lv2 := [(0, .ref 67), (1, .int x1), (2, .int x2)]) (st2 := [.int x2]) (h2 := (sh_rep m.T m.I m.J)) rfl rfl rfl ?_
        refine sh_w (i := (.bipush 60)) (len := 2) (pc2 := 15) (lv2 := [(0, .ref 67), (1, .int x1), (2, .int x2)]) (st2 := [.int 60, .int x2]) (h2 := (sh_rep m.T m.I m.J)) rfl rfl rfl ?_
        exact kk
      rcases sh_ite e with ⟨c, e⟩ | ⟨c, e⟩
      · refine sh_Lk_lift (T := m.T) (I := m.I) (J := m.J) (s := m.s) (pc2 := 18) (lv2 := [(0, .ref 67), (1, .int x1), (2, .int x2)]) (st2 := []) (I2 := m.I) (J2 := m.J) (fun hT v kk => ?_) ?_
        · refine sh_jc (c := .ne) (off := (7)) (pc2 := 18) false rfl (sh_Bnef c) rfl ?_
          exact kk
        exact sh_Lk_sub (sh_sub_n) (sl_253_18 e tg)
      · refine sh_Lk_lift (T := m.T) (I := m.I) (J := m.J) (s := m.s) (pc2 := 23) (lv2 := [(0, .ref 67), (1, .int x1), (2, .int x2)]) (st2 := [.int 0]) (I2 := m.I) (J2 := m.J) (fun hT v kk => ?_) ?_
        · refine sh_jc (c := .ne) (off := (7)) (pc2 := 22) true rfl (sh_Bnet c) rfl ?_
          refine sh_w (i := (.iconst 0)) (len := 1) (pc2 := 23) (lv2 := [(0, .ref 67), (1, .int x1), (2, .int x2)]) (st2 := [.int 0]) (h2 := (sh_rep m.T m.I m.J)) rfl rfl rfl ?_
          exact kk
        obtain rfl := e
        obtain ⟨rfl, rfl⟩ := tg
        exact sh_Lk_ret (i := .ireturn) rfl rfl rfl (Nat.le_of_ble_eq_true rfl) (Nat.le_of_ble_eq_true rfl)
  · refine sh_Lk_lift (T := m.T) (I := m.I) (J := m.J) (s := m.s) (pc2 := 27) (lv2 := [(0, .ref 67), (1, .int x1), (2, .int x2)]) (st2 := [.int 62, .int x1]) (I2 := m.I) (J2 := m.J) (fun hT v kk => ?_) ?_
    · refine sh_jc (c := .ne) (off := (21)) (pc2 := 24) true rfl (sh_Bnet c) rfl ?_
      refine sh_w (i := (.iload_n 1)) (len := 1) (pc2 := 25) (lv2 := [(0, .ref 67), (1, .int x1), (2, .int x2)]) (st2 := [.int x1]) (h2 := (sh_rep m.T m.I m.J)) rfl rfl rfl ?_
      refine sh_w (i := (.bipush 62)) (len := 2) (pc2 := 27) (lv2 := [(0, .ref 67), (1, .int x1), (2, .int x2)]) (st2 := [.int 62, .int x1]) (h2 := (sh_rep m.T m.I m.J)) rfl rfl rfl ?_
      exact kk
    rcases sh_ite e with ⟨c, e⟩ | ⟨c, e⟩
    · refine sh_Lk_lift (T := m.T) (I := m.I) (J := m.J) (s := m.s) (pc2 := 33) (lv2 := [(0, .ref 67), (1, .int x1), (2, .int x2)]) (st2 := [.int 61, .int x2]) (I2 := m.I) (J2 := m.J) (fun hT v kk => ?_) ?_
      · refine sh_jc (c := .ne) (off := (21)) (pc2 := 30) false rfl (sh_Bnef c) rfl ?_
        refine sh_w (i := (.iload_n 2)) (len := 1) (pc2 := 31) (lv2 := [(0, .ref 67), (1, .int x1), (2, .int x2)]) (st2 := [.int x2]) (h2 := (sh_rep m.T m.I m.J)) rfl rfl rfl ?_
        refine sh_w (i := (.bipush 61)) (len := 2) (pc2 := 33) (lv2 := [(0, .ref 67), (1, .int x1), (2, .int x2)]) (st2 := [.int 61, .int x2]) (h2 := (sh_rep m.T m.I m.J)) rfl rfl rfl ?_
        exact kk
      rcases sh_ite e with ⟨c, e⟩ | ⟨c, e⟩
      · refine sh_Lk_lift (T := m.T) (I := m.I) (J := m.J) (s := m.s) (pc2 := 42) (lv2 := [(0, .ref 67), (1, .int x1), (2, .int x2)]) (st2 := []) (I2 := m.I) (J2 := m.J) (fun hT v kk => ?_) ?_
        · refine sh_jc (c := .eq) (off := (9)) (pc2 := 42) true rfl (sh_Beqt c) rfl ?_
          exact kk
        exact sh_Lk_sub (sh_sub_n) (sl_253_42 e tg)
      · refine sh_Lk_lift (T := m.T) (I := m.I) (J := m.J) (s := m.s) (pc2 := 39) (lv2 := [(0, .ref 67), (1, .int x1), (2, .int x2)]) (st2 := [.int 62, .int x2]) (I2 := m.I) (J2 := m.J) (fun hT v kk => ?_) ?_
        · refine sh_jc (c := .eq) (off := (9)) (pc2 := 36) false rfl (sh_Beqf c) rfl ?_
          refine sh_w (i := (.iload_n 2)) (len := 1) (pc2 := 37) (lv2 := [(0, .ref 67), (1, .int x1), (2, .int x2)]) (st2 := [.int x2]) (h2 := (sh_rep m.T m.I m.J)) rfl rfl rfl ?_
          refine sh_w (i := (.bipush 62)) (len := 2) (pc2 := 39) (lv2 := [(0, .ref 67), (1, .int x1), (2, .int x2)]) (st2 := [.int 62, .int x2]) (h2 := (sh_rep m.T m.I m.J)) rfl rfl rfl ?_
          exact kk
        rcases sh_ite e with ⟨c, e⟩ | ⟨c, e⟩
        · refine sh_Lk_lift (T := m.T) (I := m.I) (J := m.J) (s := m.s) (pc2 := 42) (lv2 := [(0, .ref 67), (1, .int x1), (2, .int x2)]) (st2 := []) (I2 := m.I) (J2 := m.J) (fun hT v kk => ?_) ?_
          · refine sh_jc (c := .ne) (off := (7)) (pc2 := 42) false rfl (sh_Bnef c) rfl ?_
            exact kk
          exact sh_Lk_sub (sh_sub_n) (sl_253_42 e tg)
        · refine sh_Lk_lift (T := m.T) (I := m.I) (J := m.J) (s := m.s) (pc2 := 47) (lv2 := [(0, .ref 67), (1, .int x1), (2, .int x2)]) (st2 := [.int 0]) (I2 := m.I) (J2 := m.J) (fun hT v kk => ?_) ?_
          · refine sh_jc (c := .ne) (off := (7)) (pc2 := 46) true rfl (sh_Bnet c) rfl ?_
            refine sh_w (i := (.iconst 0)) (len := 1) (pc2 := 47) (lv2 := [(0, .ref 67), (1, .int x1), (2, .int x2)]) (st2 := [.int 0]) (h2 := (sh_rep m.T m.I m.J)) rfl rfl rfl ?_
            exact kk
          obtain rfl := e
          obtain ⟨rfl, rfl⟩ := tg
          exact sh_Lk_ret (i := .ireturn) rfl rfl rfl (Nat.le_of_ble_eq_true rfl) (Nat.le_of_ble_eq_true rfl)
    · refine sh_Lk_lift (T := m.T) (I := m.I) (J := m.J) (s := m.s) (pc2 := 51) (lv2 := [(0, .ref 67), (1, .int x1), (2, .int x2)]) (st2 := [.int 61, .int x1]) (I2 := m.I) (J2 := m.J) (fun hT v kk => ?_) ?_
      · refine sh_jc (c := .ne) (off := (21)) (pc2 := 48) true rfl (sh_Bnet c) rfl ?_
        refine sh_w (i := (.iload_n 1)) (len := 1) (pc2 := 49) (lv2 := [(0, .ref 67), (1, .int x1), (2, .int x2)]) (st2 := [.int x1]) (h2 := (sh_rep m.T m.I m.J)) rfl rfl rfl ?_
        refine sh_w (i := (.bipush 61)) (len := 2) (pc2 := 51) (lv2 := [(0, .ref 67), (1, .int x1), (2, .int x2)]) (st2 := [.int 61, .int x1]) (h2 := (sh_rep m.T m.I m.J)) rfl rfl rfl ?_
        exact kk
      rcases sh_ite e with ⟨c, e⟩ | ⟨c, e⟩
      · refine sh_Lk_lift (T := m.T) (I := m.I) (J := m.J) (s := m.s) (pc2 := 60) (lv2 := [(0, .ref 67), (1, .int x1), (2, .int x2)]) (st2 := []) (I2 := m.I) (J2 := m.J) (fun hT v kk => ?_) ?_
        · refine sh_jc (c := .eq) (off := (9)) (pc2 := 60) true rfl (sh_Beqt c) rfl ?_
          exact kk
        exact sh_Lk_sub (sh_sub_c rfl (sh_sub_n)) (sl_253_60 e tg)
      · refine sh_Lk_lift (T := m.T) (I := m.I) (J := m.J) (s := m.s) (pc2 := 57) (lv2 := [(0, .ref 67), (1, .int x1), (2, .int x2)]) (st2 := [.int 33, .int x1]) (I2 := m.I) (J2 := m.J) (fun hT v kk => ?_) ?_
        · refine sh_jc (c := .eq) (off := (9)) (pc2 := 54) false rfl (sh_Beqf c) rfl ?_
          refine sh_w (i := (.iload_n 1)) (len := 1) (pc2 := 55) (lv2 := [(0, .ref 67), (1, .int x1), (2, .int x2)]) (st2 := [.int x1]) (h2 := (sh_rep m.T m.I m.J)) rfl rfl rfl ?_
          refine sh_w (i := (.bipush 33)) (len := 2) (pc2 := 57) (lv2 := [(0, .ref 67), (1, .int x1), (2, .int x2)]) (st2 := [.int 33, .int x1]) (h2 := (sh_rep m.T m.I m.J)) rfl rfl rfl ?_
          exact kk
        rcases sh_ite e with ⟨c, e⟩ | ⟨c, e⟩
        · refine sh_Lk_lift (T := m.T) (I := m.I) (J := m.J) (s := m.s) (pc2 := 60) (lv2 := [(0, .ref 67), (1, .int x1), (2, .int x2)]) (st2 := []) (I2 := m.I) (J2 := m.J) (fun hT v kk => ?_) ?_
          · refine sh_jc (c := .ne) (off := (15)) (pc2 := 60) false rfl (sh_Bnef c) rfl ?_
            exact kk
          exact sh_Lk_sub (sh_sub_c rfl (sh_sub_n)) (sl_253_60 e tg)
        · refine sh_Lk_lift (T := m.T) (I := m.I) (J := m.J) (s := m.s) (pc2 := 74) (lv2 := [(0, .ref 67), (1, .int x1), (2, .int x2)]) (st2 := [.int x2, .int x1]) (I2 := m.I) (J2 := m.J) (fun hT v kk => ?_) ?_
          · refine sh_jc (c := .ne) (off := (15)) (pc2 := 72) true rfl (sh_Bnet c) rfl ?_
            refine sh_w (i := (.iload_n 1)) (len := 1) (pc2 := 73) (lv2 := [(0, .ref 67), (1, .int x1), (2, .int x2)]) (st2 := [.int x1]) (h2 := (sh_rep m.T m.I m.J)) rfl rfl rfl ?_
            refine sh_w (i := (.iload_n 2)) (len := 1) (pc2 := 74) (lv2 := [(0, .ref 67), (1, .int x1), (2, .int x2)]) (st2 := [.int x2, .int x1]) (h2 := (sh_rep m.T m.I m.J)) rfl rfl rfl ?_
            exact kk
          rcases sh_ite e with ⟨c, e⟩ | ⟨c, e⟩
          · refine sh_Lk_lift (T := m.T) (I := m.I) (J := m.J) (s := m.s) (pc2 := 80) (lv2 := [(0, .ref 67), (1, .int x1), (2, .int x2)]) (st2 := [.int 38, .int x1]) (I2 := m.I) (J2 := m.J) (fun hT v kk => ?_) ?_
            · refine sh_jc (c := .ne) (off := (25)) (pc2 := 77) false rfl (sh_Bnef c) rfl ?_
              refine sh_w (i := (.iload_n 1)) (len := 1) (pc2 := 78) (lv2 := [(0, .ref 67), (1, .int x1), (2, .int x2)]) (st2 := [.int x1]) (h2 := (sh_rep m.T m.I m.J)) rfl rfl rfl ?_
              refine sh_w (i := (.bipush 38)) (len := 2) (pc2 := 80) (lv2 := [(0, .ref 67), (1, .int x1), (2, .int x2)]) (st2 := [.int 38, .int x1]) (h2 := (sh_rep m.T m.I m.J)) rfl rfl rfl ?_
              exact kk
            rcases sh_ite e with ⟨c, e⟩ | ⟨c, e⟩
            · refine sh_Lk_lift (T := m.T) (I := m.I) (J := m.J) (s := m.s) (pc2 := 95) (lv2 := [(0, .ref 67), (1, .int x1), (2, .int x2)]) (st2 := []) (I2 := m.I) (J2 := m.J) (fun hT v kk => ?_) ?_
              · refine sh_jc (c := .eq) (off := (15)) (pc2 := 95) true rfl (sh_Beqt c) rfl ?_
                exact kk
              exact sh_Lk_sub (sh_sub_n) (sl_253_95 e tg)
            · refine sh_Lk_lift (T := m.T) (I := m.I) (J := m.J) (s := m.s) (pc2 := 86) (lv2 := [(0, .ref 67), (1, .int x1), (2, .int x2)]) (st2 := [.int 124, .int x1]) (I2 := m.I) (J2 := m.J) (fun hT v kk => ?_) ?_
              · refine sh_jc (c := .eq) (off := (15)) (pc2 := 83) false rfl (sh_Beqf c) rfl ?_
                refine sh_w (i := (.iload_n 1)) (len := 1) (pc2 := 84) (lv2 := [(0, .ref 67), (1, .int x1), (2, .int x2)]) (st2 := [.int x1]) (h2 := (sh_rep m.T m.I m.J)) rfl rfl rfl ?_
                refine sh_w (i := (.bipush 124)) (len := 2) (pc2 := 86) (lv2 := [(0, .ref 67), (1, .int x1), (2, .int x2)]) (st2 := [.int 124, .int x1]) (h2 := (sh_rep m.T m.I m.J)) rfl rfl rfl ?_
                exact kk
              rcases sh_ite e with ⟨c, e⟩ | ⟨c, e⟩
              · refine sh_Lk_lift (T := m.T) (I := m.I) (J := m.J) (s := m.s) (pc2 := 95) (lv2 := [(0, .ref 67), (1, .int x1), (2, .int x2)]) (st2 := []) (I2 := m.I) (J2 := m.J) (fun hT v kk => ?_) ?_
                · refine sh_jc (c := .eq) (off := (9)) (pc2 := 95) true rfl (sh_Beqt c) rfl ?_
                  exact kk
                exact sh_Lk_sub (sh_sub_n) (sl_253_95 e tg)
              · refine sh_Lk_lift (T := m.T) (I := m.I) (J := m.J) (s := m.s) (pc2 := 92) (lv2 := [(0, .ref 67), (1, .int x1), (2, .int x2)]) (st2 := [.int 46, .int x1]) (I2 := m.I) (J2 := m.J) (fun hT v kk => ?_) ?_
                · refine sh_jc (c := .eq) (off := (9)) (pc2 := 89) false rfl (sh_Beqf c) rfl ?_
                  refine sh_w (i := (.iload_n 1)) (len := 1) (pc2 := 90) (lv2 := [(0, .ref 67), (1, .int x1), (2, .int x2)]) (st2 := [.int x1]) (h2 := (sh_rep m.T m.I m.J)) rfl rfl rfl ?_
                  refine sh_w (i := (.bipush 46)) (len := 2) (pc2 := 92) (lv2 := [(0, .ref 67), (1, .int x1), (2, .int x2)]) (st2 := [.int 46, .int x1]) (h2 := (sh_rep m.T m.I m.J)) rfl rfl rfl ?_
                  exact kk
                rcases sh_ite e with ⟨c, e⟩ | ⟨c, e⟩
                · refine sh_Lk_lift (T := m.T) (I := m.I) (J := m.J) (s := m.s) (pc2 := 95) (lv2 := [(0, .ref 67), (1, .int x1), (2, .int x2)]) (st2 := []) (I2 := m.I) (J2 := m.J) (fun hT v kk => ?_) ?_
                  · refine sh_jc (c := .ne) (off := (7)) (pc2 := 95) false rfl (sh_Bnef c) rfl ?_
                    exact kk
                  exact sh_Lk_sub (sh_sub_n) (sl_253_95 e tg)
                · refine sh_Lk_lift (T := m.T) (I := m.I) (J := m.J) (s := m.s) (pc2 := 100) (lv2 := [(0, .ref 67), (1, .int x1), (2, .int x2)]) (st2 := [.int 0]) (I2 := m.I) (J2 := m.J) (fun hT v kk => ?_) ?_
                  · refine sh_jc (c := .ne) (off := (7)) (pc2 := 99) true rfl (sh_Bnet c) rfl ?_
                    refine sh_w (i := (.iconst 0)) (len := 1) (pc2 := 100) (lv2 := [(0, .ref 67), (1, .int x1), (2, .int x2)]) (st2 := [.int 0]) (h2 := (sh_rep m.T m.I m.J)) rfl rfl rfl ?_
                    exact kk
                  obtain rfl := e
                  obtain ⟨rfl, rfl⟩ := tg
                  exact sh_Lk_ret (i := .ireturn) rfl rfl rfl (Nat.le_of_ble_eq_true rfl) (Nat.le_of_ble_eq_true rfl)
          · refine sh_Lk_lift (T := m.T) (I := m.I) (J := m.J) (s := m.s) (pc2 := 100) (lv2 := [(0, .ref 67), (1, .int x1), (2, .int x2)]) (st2 := [.int 0]) (I2 := m.I) (J2 := m.J) (fun hT v kk => ?_) ?_
            · refine sh_jc (c := .ne) (off := (25)) (pc2 := 99) true rfl (sh_Bnet c) rfl ?_
              refine sh_w (i := (.iconst 0)) (len := 1) (pc2 := 100) (lv2 := [(0, .ref 67), (1, .int x1), (2, .int x2)]) (st2 := [.int 0]) (h2 := (sh_rep m.T m.I m.J)) rfl rfl rfl ?_
              exact kk
            obtain rfl := e
            obtain ⟨rfl, rfl⟩ := tg
            exact sh_Lk_ret (i := .ireturn) rfl rfl rfl (Nat.le_of_ble_eq_true rfl) (Nat.le_of_ble_eq_true rfl)
theorem sl_254 {x0 : Int32} {m m2 : sh_X} {o : Outcome} {z : Bool} (e : sf_254 x0 m = some z) (tg : (sh_tZc m o m2) z) : sh_Lk 254 0 [(0, .int x0)] [] m o m2 30 600 := by
  unfold sf_254 at e
  refine sh_Lk_lift (T := m.T) (I := m.I) (J := m.J) (s := m.s) (pc2 := 4) (lv2 := [(1, .ref 1000007), (0, .int x0)]) (st2 := [.int x0]) (I2 := m.I) (J2 := m.J) (fun hT v kk => ?_) ?_
  · refine sh_w (i := (.ldc 201)) (len := 2) (pc2 := 2) (lv2 := [(0, .int x0)]) (st2 := [.ref 1000007]) (h2 := (sh_rep m.T m.I m.J)) rfl rfl rfl ?_
    refine sh_w (i := (.astore_n 1)) (len := 1) (pc2 := 3) (lv2 := [(1, .ref 1000007), (0, .int x0)]) (st2 := []) (h2 := (sh_rep m.T m.I m.J)) rfl rfl rfl ?_
    refine sh_w (i := (.iload_n 0)) (len := 1) (pc2 := 4) (lv2 := [(1, .ref 1000007), (0, .int x0)]) (st2 := [.int x0]) (h2 := (sh_rep m.T m.I m.J)) rfl rfl rfl ?_
    exact kk
  rcases sh_ite e with ⟨c, e⟩ | ⟨c, e⟩
  · refine sh_Lk_lift (T := m.T) (I := m.I) (J := m.J) (s := m.s) (pc2 := 20) (lv2 := [(1, .ref 1000007), (0, .int x0)]) (st2 := [.int 0]) (I2 := m.I) (J2 := m.J) (fun hT v kk => ?_) ?_
    · refine sh_j0 (c := .lt) (off := (15)) (pc2 := 19) true rfl (sh_Bltt c) rfl ?_
      refine sh_w (i := (.iconst 0)) (len := 1) (pc2 := 20) (lv2 := [(1, .ref 1000007), (0, .int x0)]) (st2 := [.int 0]) (h2 := (sh_rep m.T m.I m.J)) rfl rfl rfl ?_
      exact kk
    obtain rfl := Option.some.inj e
    obtain ⟨rfl, rfl⟩ := tg
    exact sh_Lk_ret (i := .ireturn) rfl rfl rfl (Nat.le_of_ble_eq_true rfl) (Nat.le_of_ble_eq_true rfl)
  · refine sh_Lk_lift (T := m.T) (I := m.I) (J := m.J) (s := m.s) (pc2 := 9) (lv2 := [(1, .ref 1000007), (0, .int x0)]) (st2 := [.int x0, .ref 1000007]) (I2 := m.I) (J2 := m.J) (fun hT v kk => ?_) ?_
    · refine sh_j0 (c := .lt) (off := (15)) (pc2 := 7) false rfl (sh_Bltf c) rfl ?_
      refine sh_w (i := (.aload_n 1)) (len := 1) (pc2 := 8) (lv2 := [(1, .ref 1000007), (0, .int x0)]) (st2 := [.ref 1000007]) (h2 := (sh_rep m.T m.I m.J)) rfl rfl rfl ?_
      refine sh_w (i := (.iload_n 0)) (len := 1) (pc2 := 9) (lv2 := [(1, .ref 1000007), (0, .int x0)]) (st2 := [.int x0, .ref 1000007]) (h2 := (sh_rep m.T m.I m.J)) rfl rfl rfl ?_
      exact kk
    refine sh_Lk_ti (j := 6) (pc2 := 12) rfl rfl rfl (by decide) (Nat.le_of_ble_eq_true rfl) rfl (Nat.le_of_ble_eq_true rfl) (Nat.le_of_ble_eq_true rfl) ?_
    rcases sh_ite e with ⟨c, e⟩ | ⟨c, e⟩
    · refine sh_Lk_lift (T := m.T) (I := m.I) (J := m.J) (s := m.s) (pc2 := 20) (lv2 := [(1, .ref 1000007), (0, .int x0)]) (st2 := [.int 0]) (I2 := m.I) (J2 := m.J) (fun hT v kk => ?_) ?_
      · refine sh_j0 (c := .lt) (off := (7)) (pc2 := 19) true rfl (sh_Bltt c) rfl ?_
        refine sh_w (i := (.iconst 0)) (len := 1) (pc2 := 20) (lv2 := [(1, .ref 1000007), (0, .int x0)]) (st2 := [.int 0]) (h2 := (sh_rep m.T m.I m.J)) rfl rfl rfl ?_
        exact kk
      obtain rfl := Option.some.inj e
      obtain ⟨rfl, rfl⟩ := tg
      exact sh_Lk_ret (i := .ireturn) rfl rfl rfl (Nat.le_of_ble_eq_true rfl) (Nat.le_of_ble_eq_true rfl)
    · refine sh_Lk_lift (T := m.T) (I := m.I) (J := m.J) (s := m.s) (pc2 := 20) (lv2 := [(1, .ref 1000007), (0, .int x0)]) (st2 := [.int 1]) (I2 := m.I) (J2 := m.J) (fun hT v kk => ?_) ?_
      · refine sh_j0 (c := .lt) (off := (7)) (pc2 := 15) false rfl (sh_Bltf c) rfl ?_
        refine sh_w (i := (.iconst 1)) (len := 1) (pc2 := 16) (lv2 := [(1, .ref 1000007), (0, .int x0)]) (st2 := [.int 1]) (h2 := (sh_rep m.T m.I m.J)) rfl rfl rfl ?_
        refine sh_w (i := (.goto 4)) (len := 3) (pc2 := 20) (lv2 := [(1, .ref 1000007), (0, .int x0)]) (st2 := [.int 1]) (h2 := (sh_rep m.T m.I m.J)) rfl rfl rfl ?_
        exact kk
      obtain rfl := Option.some.inj e
      obtain ⟨rfl, rfl⟩ := tg
      exact sh_Lk_ret (i := .ireturn) rfl rfl rfl (Nat.le_of_ble_eq_true rfl) (Nat.le_of_ble_eq_true rfl)
theorem sl_248_47 {x1 : Int32} {m m2 : sh_X} {o : Outcome} {z : ((Int32 × sh_X) ⊕ (Bool × sh_X))} (e : sf_248_47 x1 m = some z) (tg : (sh_el (fun q => sh_Lk 248 7 [(0, .ref 67), (1, .int q.1)] [] q.2 o m2 31 621) (sh_tZ o m2)) z) : sh_Lk 248 47 [(0, .ref 67), (1, .int x1)] [] m o m2 31 621 := by
  unfold sf_248_47 at e
  refine sh_Lk_lift (T := m.T) (I := m.I) (J := m.J) (s := m.s) (pc2 := 7) (lv2 := [(1, .int (x1 + 1)), (0, .ref 67)]) (st2 := []) (I2 := m.I) (J2 := m.J) (fun hT v kk => ?_) ?_
  · refine sh_w (i := (.iinc 1 1)) (len := 3) (pc2 := 50) (lv2 := [(1, .int (x1 + 1)), (0, .ref 67)]) (st2 := []) (h2 := (sh_rep m.T m.I m.J)) rfl rfl rfl ?_
    refine sh_w (i := (.goto (-43))) (len := 3) (pc2 := 7) (lv2 := [(1, .int (x1 + 1)), (0, .ref 67)]) (st2 := []) (h2 := (sh_rep m.T m.I m.J)) rfl rfl rfl ?_
    exact kk
  obtain rfl := Option.some.inj e
  exact sh_Lk_sub (sh_sub_c rfl (sh_sub_c rfl (sh_sub_n))) tg
theorem sl_248_59s {x1 : Int32} {m m2 : sh_X} {o : Outcome} {z : ((Int32 × sh_X) ⊕ ((Int32 × sh_X) ⊕ (Bool × sh_X)))} (e : sf_248_59s x1 m = some z) (tg : (sh_el (fun q => sh_Lk 248 59 [(0, .ref 67), (1, .int q.1)] [] q.2 o m2 31 621) (sh_el (fun q => sh_Lk 248 7 [(0, .ref 67), (1, .int q.1)] [] q.2 o m2 31 621) (sh_tZ o m2))) z) : sh_Lk 248 59 [(0, .ref 67), (1, .int x1)] [] m o m2 31 621 := by
  unfold sf_248_59s at e
  refine sh_Lk_lift (T := m.T) (I := m.I) (J := m.J) (s := m.s) (pc2 := 64) (lv2 := [(0, .ref 67), (1, .int x1)]) (st2 := [.int (m.I 66 3), .int x1]) (I2 := m.I) (J2 := m.J) (fun hT v kk => ?_) ?_
  · refine sh_w (i := (.iload_n 1)) (len := 1) (pc2 := 60) (lv2 := [(0, .ref 67), (1, .int x1)]) (st2 := [.int x1]) (h2 := (sh_rep m.T m.I m.J)) rfl rfl rfl ?_
    refine sh_w (i := (.aload_n 0)) (len := 1) (pc2 := 61) (lv2 := [(0, .ref 67), (1, .int x1)]) (st2 := [.ref 67, .int x1]) (h2 := (sh_rep m.T m.I m.J)) rfl rfl rfl ?_
    refine sh_gI1 (len := 3) (x := m.I 66 3) (pc2 := 64) rfl rfl (sh_s66 hT.st) rfl rfl rfl ?_
    exact kk
  rcases sh_ite e with ⟨c, e⟩ | ⟨c, e⟩
  · refine sh_Lk_lift (T := m.T) (I := m.I) (J := m.J) (s := m.s) (pc2 := 69) (lv2 := [(0, .ref 67), (1, .int x1)]) (st2 := [.int x1, .ref 67]) (I2 := m.I) (J2 := m.J) (fun hT v kk => ?_) ?_
    · refine sh_jc (c := .ge) (off := (-57)) (pc2 := 67) false rfl (sh_Bgef c) rfl ?_
      refine sh_w (i := (.aload_n 0)) (len := 1) (pc2 := 68) (lv2 := [(0, .ref 67), (1, .int x1)]) (st2 := [.ref 67]) (h2 := (sh_rep m.T m.I m.J)) rfl rfl rfl ?_
      refine sh_w (i := (.iload_n 1)) (len := 1) (pc2 := 69) (lv2 := [(0, .ref 67), (1, .int x1)]) (st2 := [.int x1, .ref 67]) (h2 := (sh_rep m.T m.I m.J)) rfl rfl rfl ?_
      exact kk
    obtain ⟨r1, e1, e⟩ := sh_bc_e e
    refine sh_Lk_cV (r := (some (.int r1))) (st2 := [.int r1]) (pc2 := 72) (k2 := 249) (a := 66) (as := [.ref 67, .int x1]) (rest := []) rfl rfl rfl (fun hT => (sh_s66 hT.st)) rfl rfl ⟨Nat.le_of_ble_eq_true rfl, Nat.le_of_ble_eq_true rfl⟩ (sl_249 e1 ⟨rfl, rfl⟩) rfl rfl (Nat.le_of_ble_eq_true rfl) (Nat.le_of_ble_eq_true rfl) ?_
    refine sh_Lk_lift (T := m.T) (I := m.I) (J := m.J) (s := m.s) (pc2 := 74) (lv2 := [(0, .ref 67), (1, .int x1)]) (st2 := [.int 10, .int r1]) (I2 := m.I) (J2 := m.J) (fun hT v kk => ?_) ?_
    · refine sh_w (i := (.bipush 10)) (len := 2) (pc2 := 74) (lv2 := [(0, .ref 67), (1, .int x1)]) (st2 := [.int 10, .int r1]) (h2 := (sh_rep m.T m.I m.J)) rfl rfl rfl ?_
      exact kk
    rcases sh_ite e with ⟨c, e⟩ | ⟨c, e⟩
    · refine sh_Lk_lift (T := m.T) (I := m.I) (J := m.J) (s := m.s) (pc2 := 7) (lv2 := [(0, .ref 67), (1, .int x1)]) (st2 := []) (I2 := m.I) (J2 := m.J) (fun hT v kk => ?_) ?_
      · refine sh_jc (c := .eq) (off := (-67)) (pc2 := 7) true rfl (sh_Beqt c) rfl ?_
        exact kk
      obtain rfl := Option.some.inj e
      exact sh_Lk_sub (sh_sub_c rfl (sh_sub_c rfl (sh_sub_n))) tg
    · refine sh_Lk_lift (T := m.T) (I := m.I) (J := m.J) (s := m.s) (pc2 := 59) (lv2 := [(1, .int (x1 + 1)), (0, .ref 67)]) (st2 := []) (I2 := m.I) (J2 := m.J) (fun hT v kk => ?_) ?_
      · refine sh_jc (c := .eq) (off := (-67)) (pc2 := 77) false rfl (sh_Beqf c) rfl ?_
        refine sh_w (i := (.iinc 1 1)) (len := 3) (pc2 := 80) (lv2 := [(1, .int (x1 + 1)), (0, .ref 67)]) (st2 := []) (h2 := (sh_rep m.T m.I m.J)) rfl rfl rfl ?_
        refine sh_w (i := (.goto (-21))) (len := 3) (pc2 := 59) (lv2 := [(1, .int (x1 + 1)), (0, .ref 67)]) (st2 := []) (h2 := (sh_rep m.T m.I m.J)) rfl rfl rfl ?_
        exact kk
      obtain rfl := Option.some.inj e
      exact sh_Lk_sub (sh_sub_c rfl (sh_sub_c rfl (sh_sub_n))) tg
  · refine sh_Lk_lift (T := m.T) (I := m.I) (J := m.J) (s := m.s) (pc2 := 7) (lv2 := [(0, .ref 67), (1, .int x1)]) (st2 := []) (I2 := m.I) (J2 := m.J) (fun hT v kk => ?_) ?_
    · refine sh_jc (c := .ge) (off := (-57)) (pc2 := 7) true rfl (sh_Bget c) rfl ?_
      exact kk
    obtain rfl := Option.some.inj e
    exact sh_Lk_sub (sh_sub_c rfl (sh_sub_c rfl (sh_sub_n))) tg
theorem sl_248_59 {x1 : Int32} {m m2 : sh_X} {o : Outcome} {z : ((Int32 × sh_X) ⊕ (Bool × sh_X))} (e : sf_248_59 x1 m = some z) (tg : (sh_el (fun q => sh_Lk 248 7 [(0, .ref 67), (1, .int q.1)] [] q.2 o m2 31 621) (sh_tZ o m2)) z) : sh_Lk 248 59 [(0, .ref 67), (1, .int x1)] [] m o m2 31 621 := by
  unfold sf_248_59 at e
  exact sh_while_lk (P := fun q => sh_Lk 248 59 [(0, .ref 67), (1, .int q.1)] [] q.2 o m2 31 621) (Q := (sh_el (fun q => sh_Lk 248 7 [(0, .ref 67), (1, .int q.1)] [] q.2 o m2 31 621) (sh_tZ o m2))) (fun q z e tg => sl_248_59s (x1 := q.1) (m := q.2) e tg) (s := (x1, m)) e tg
theorem sl_248_122 {x1 : Int32} {x3 : Int32} {m m2 : sh_X} {o : Outcome} {z : ((Int32 × sh_X) ⊕ ((Int32 × sh_X) ⊕ (Bool × sh_X)))} (e : sf_248_122 x1 x3 m = some z) (tg : (sh_el (fun q => sh_Lk 248 90 [(0, .ref 67), (1, .int q.1), (3, .int x3)] [] q.2 o m2 31 621) (sh_el (fun q => sh_Lk 248 7 [(0, .ref 67), (1, .int q.1)] [] q.2 o m2 31 621) (sh_tZ o m2))) z) : sh_Lk 248 122 [(0, .ref 67), (1, .int x1), (3, .int x3)] [] m o m2 31 621 := by
  unfold sf_248_122 at e
  refine sh_Lk_lift (T := m.T) (I := m.I) (J := m.J) (s := m.s) (pc2 := 90) (lv2 := [(1, .int (x1 + 1)), (0, .ref 67), (3, .int x3)]) (st2 := []) (I2 := m.I) (J2 := m.J) (fun hT v kk => ?_) ?_
  · refine sh_w (i := (.iinc 1 1)) (len := 3) (pc2 := 125) (lv2 := [(1, .int (x1 + 1)), (0, .ref 67), (3, .int x3)]) (st2 := []) (h2 := (sh_rep m.T m.I m.J)) rfl rfl rfl ?_
    refine sh_w (i := (.goto (-35))) (len := 3) (pc2 := 90) (lv2 := [(1, .int (x1 + 1)), (0, .ref 67), (3, .int x3)]) (st2 := []) (h2 := (sh_rep m.T m.I m.J)) rfl rfl rfl ?_
    exact kk
  obtain rfl := Option.some.inj e
  exact sh_Lk_sub (sh_sub_c rfl (sh_sub_c rfl (sh_sub_c rfl (sh_sub_n)))) tg
theorem sl_248_281 {x1 : Int32} {x3 : Int32} {m m2 : sh_X} {o : Outcome} {z : ((Int32 × sh_X) ⊕ (Bool × sh_X))} (e : sf_248_281 x1 x3 m = some z) (tg : (sh_el (fun q => sh_Lk 248 7 [(0, .ref 67), (1, .int q.1)] [] q.2 o m2 31 621) (sh_tZ o m2)) z) : sh_Lk 248 281 [(0, .ref 67), (1, .int x1), (3, .int x3)] [] m o m2 31 621 := by
  unfold sf_248_281 at e
  refine sh_Lk_lift (T := m.T) (I := m.I) (J := m.J) (s := m.s) (pc2 := 290) (lv2 := [(0, .ref 67), (1, .int x1), (3, .int x3)]) (st2 := [.int x3, .int (m.I 66 11), .ref 70]) (I2 := m.I) (J2 := m.J) (fun hT v kk => ?_) ?_
  · refine sh_w (i := (.aload_n 0)) (len := 1) (pc2 := 282) (lv2 := [(0, .ref 67), (1, .int x1), (3, .int x3)]) (st2 := [.ref 67]) (h2 := (sh_rep m.T m.I m.J)) rfl rfl rfl ?_
    refine sh_gR1 (len := 3) (x := .ref 70) (pc2 := 285) rfl rfl (sh_s66 hT.st) rfl rfl ?_
    refine sh_w (i := (.aload_n 0)) (len := 1) (pc2 := 286) (lv2 := [(0, .ref 67), (1, .int x1), (3, .int x3)]) (st2 := [.ref 67, .ref 70]) (h2 := (sh_rep m.T m.I m.J)) rfl rfl rfl ?_
    refine sh_gI1 (len := 3) (x := m.I 66 11) (pc2 := 289) rfl rfl (sh_s66 hT.st) rfl rfl rfl ?_
    refine sh_w (i := (.iload_n 3)) (len := 1) (pc2 := 290) (lv2 := [(0, .ref 67), (1, .int x1), (3, .int x3)]) (st2 := [.int x3, .int (m.I 66 11), .ref 70]) (h2 := (sh_rep m.T m.I m.J)) rfl rfl rfl ?_
    exact kk
  obtain ⟨c, e⟩ := sh_gd e
  refine sh_Lk_lift (T := m.T) (I := m.I) (J := m.J) (s := m.s) (pc2 := 302) (lv2 := [(0, .ref 67), (1, .int x1), (3, .int x3)]) (st2 := [.int (x1 - x3), .int (m.I 66 11), .ref 71]) (I2 := sh_u2 m.I 69 (Int32.toNatClampNeg (m.I 66 11)) x3) (J2 := m.J) (fun hT v kk => ?_) ?_
  · refine sh_is1 (x := x3) (i := m.I 66 11) (pc2 := 291) rfl (sh_s69 hT.st) (sh_okb1 c) (sh_okb2 c) rfl ?_
    refine sh_w (i := (.aload_n 0)) (len := 1) (pc2 := 292) (lv2 := [(0, .ref 67), (1, .int x1), (3, .int x3)]) (st2 := [.ref 67]) (h2 := (sh_rep m.T (sh_u2 m.I 69 (Int32.toNatClampNeg (m.I 66 11)) x3) m.J)) rfl rfl rfl ?_
    refine sh_gR1 (len := 3) (x := .ref 71) (pc2 := 295) rfl rfl (sh_s66 hT.st) rfl rfl ?_
    refine sh_w (i := (.aload_n 0)) (len := 1) (pc2 := 296) (lv2 := [(0, .ref 67), (1, .int x1), (3, .int x3)]) (st2 := [.ref 67, .ref 71]) (h2 := (sh_rep m.T (sh_u2 m.I 69 (Int32.toNatClampNeg (m.I 66 11)) x3) m.J)) rfl rfl rfl ?_
    refine sh_gI1 (len := 3) (x := m.I 66 11) (pc2 := 299) rfl rfl (sh_s66 hT.st) rfl rfl rfl ?_
    refine sh_w (i := (.iload_n 1)) (len := 1) (pc2 := 300) (lv2 := [(0, .ref 67), (1, .int x1), (3, .int x3)]) (st2 := [.int x1, .int (m.I 66 11), .ref 71]) (h2 := (sh_rep m.T (sh_u2 m.I 69 (Int32.toNatClampNeg (m.I 66 11)) x3) m.J)) rfl rfl rfl ?_
    refine sh_w (i := (.iload_n 3)) (len := 1) (pc2 := 301) (lv2 := [(0, .ref 67), (1, .int x1), (3, .int x3)]) (st2 := [.int x3, .int x1, .int (m.I 66 11), .ref 71]) (h2 := (sh_rep m.T (sh_u2 m.I 69 (Int32.toNatClampNeg (m.I 66 11)) x3) m.J)) rfl rfl rfl ?_
    refine sh_w (i := .isub) (len := 1) (pc2 := 302) (lv2 := [(0, .ref 67), (1, .int x1), (3, .int x3)]) (st2 := [.int (x1 - x3), .int (m.I 66 11), .ref 71]) (h2 := (sh_rep m.T (sh_u2 m.I 69 (Int32.toNatClampNeg (m.I 66 11)) x3) m.J)) rfl rfl rfl ?_
    exact kk
  obtain ⟨c, e⟩ := sh_gd e
  refine sh_Lk_lift (T := m.T) (I := sh_u2 m.I 69 (Int32.toNatClampNeg (m.I 66 11)) x3) (J := m.J) (s := m.s) (pc2 := 7) (lv2 := [(0, .ref 67), (1, .int x1), (3, .int x3)]) (st2 := []) (I2 := sh_u2 (sh_u2 (sh_u2 m.I 69 (Int32.toNatClampNeg (m.I 66 11)) x3) 70 (Int32.toNatClampNeg (m.I 66 11)) (x1 - x3)) 66 11 ((m.I 66 11) + 1)) (J2 := m.J) (fun hT v kk => ?_) ?_
  · refine sh_is1 (x := x1 - x3) (i := m.I 66 11) (pc2 := 303) rfl (sh_s70 hT.st) (sh_okb1 c) (sh_okb2 c) rfl ?_
    refine sh_w (i := (.aload_n 0)) (len := 1) (pc2 := 304) (lv2 := [(0, .ref 67), (1, .int x1), (3, .int x3)]) (st2 := [.ref 67]) (h2 := (sh_rep m.T (sh_u2 (sh_u2 m.I 69 (Int32.toNatClampNeg (m.I 66 11)) x3) 70 (Int32.toNatClampNeg (m.I 66 11)) (x1 - x3)) m.J)) rfl rfl rfl ?_
    refine sh_w (i := .dup) (len := 1) (pc2 := 305) (lv2 := [(0, .ref 67), (1, .int x1), (3, .int x3)]) (st2 := [.ref 67, .ref 67]) (h2 := (sh_rep m.T (sh_u2 (sh_u2 m.I 69 (Int32.toNatClampNeg (m.I 66 11)) x3) 70 (Int32.toNatClampNeg (m.I 66 11)) (x1 - x3)) m.J)) rfl rfl rfl ?_
    refine sh_gI1 (len := 3) (x := m.I 66 11) (pc2 := 308) rfl rfl (sh_s66 hT.st) rfl rfl rfl ?_
    refine sh_w (i := (.iconst 1)) (len := 1) (pc2 := 309) (lv2 := [(0, .ref 67), (1, .int x1), (3, .int x3)]) (st2 := [.int 1, .int (m.I 66 11), .ref 67]) (h2 := (sh_rep m.T (sh_u2 (sh_u2 m.I 69 (Int32.toNatClampNeg (m.I 66 11)) x3) 70 (Int32.toNatClampNeg (m.I 66 11)) (x1 - x3)) m.J)) rfl rfl rfl ?_
    refine sh_w (i := .iadd) (len := 1) (pc2 := 310) (lv2 := [(0, .ref 67), (1, .int x1), (3, .int x3)]) (st2 := [.int ((m.I 66 11) + 1), .ref 67]) (h2 := (sh_rep m.T (sh_u2 (sh_u2 m.I 69 (Int32.toNatClampNeg (m.I 66 11)) x3) 70 (Int32.toNatClampNeg (m.I 66 11)) (x1 - x3)) m.J)) rfl rfl rfl ?_
    refine sh_pI1 (x := (m.I 66 11) + 1) (pc2 := 313) rfl rfl (sh_s66 hT.st) rfl rfl rfl rfl ?_
    refine sh_w (i := (.goto (-306))) (len := 3) (pc2 := 7) (lv2 := [(0, .ref 67), (1, .int x1), (3, .int x3)]) (st2 := []) (h2 := (sh_rep m.T (sh_u2 (sh_u2 (sh_u2 m.I 69 (Int32.toNatClampNeg (m.I 66 11)) x3) 70 (Int32.toNatClampNeg (m.I 66 11)) (x1 - x3)) 66 11 ((m.I 66 11) + 1)) m.J)) rfl rfl rfl ?_
    exact kk
  obtain rfl := Option.some.inj e
  exact sh_Lk_sub (sh_sub_c rfl (sh_sub_c rfl (sh_sub_n))) tg
theorem sl_248_90s {x1 : Int32} {x3 : Int32} {m m2 : sh_X} {o : Outcome} {z : ((Int32 × sh_X) ⊕ ((Int32 × sh_X) ⊕ (Bool × sh_X)))} (e : sf_248_90s x1 x3 m = some z) (tg : (sh_el (fun q => sh_Lk 248 90 [(0, .ref 67), (1, .int q.1), (3, .int x3)] [] q.2 o m2 31 621) (sh_el (fun q => sh_Lk 248 7 [(0, .ref 67), (1, .int q.1)] [] q.2 o m2 31 621) (sh_tZ o m2))) z) : sh_Lk 248 90 [(0, .ref 67), (1, .int x1), (3, .int x3)] [] m o m2 31 621 := by
  unfold sf_248_90s at e
  refine sh_Lk_lift (T := m.T) (I := m.I) (J := m.J) (s := m.s) (pc2 := 92) (lv2 := [(0, .ref 67), (1, .int x1), (3, .int x3)]) (st2 := [.int x1, .ref 67]) (I2 := m.I) (J2 := m.J) (fun hT v kk => ?_) ?_
  · refine sh_w (i := (.aload_n 0)) (len := 1) (pc2 := 91) (lv2 := [(0, .ref 67), (1, .int x1), (3, .int x3)]) (st2 := [.ref 67]) (h2 := (sh_rep m.T m.I m.J)) rfl rfl rfl ?_
    refine sh_w (i := (.iload_n 1)) (len := 1) (pc2 := 92) (lv2 := [(0, .ref 67), (1, .int x1), (3, .int x3)]) (st2 := [.int x1, .ref 67]) (h2 := (sh_rep m.T m.I m.J)) rfl rfl rfl ?_
    exact kk
  obtain ⟨r1, e1, e⟩ := sh_bc_e e
  refine sh_Lk_cV (r := (some (.int r1))) (st2 := [.int r1]) (pc2 := 95) (k2 := 249) (a := 66) (as := [.ref 67, .int x1]) (rest := []) rfl rfl rfl (fun hT => (sh_s66 hT.st)) rfl rfl ⟨Nat.le_of_ble_eq_true rfl, Nat.le_of_ble_eq_true rfl⟩ (sl_249 e1 ⟨rfl, rfl⟩) rfl rfl (Nat.le_of_ble_eq_true rfl) (Nat.le_of_ble_eq_true rfl) ?_
  refine sh_Lk_cS (r := (some (.int (sh_b2 (sf_250 r1))))) (st2 := [.int (sh_b2 (sf_250 r1))]) (pc2 := 98) (k2 := 250) (as := [.int r1]) (rest := []) rfl rfl (by decide) (Nat.le_of_ble_eq_true rfl) rfl rfl ⟨Nat.le_of_ble_eq_true rfl, Nat.le_of_ble_eq_true rfl⟩ (sl_250 (m := m) rfl ⟨rfl, rfl⟩) rfl rfl (Nat.le_of_ble_eq_true rfl) (Nat.le_of_ble_eq_true rfl) ?_
  rcases sh_ite e with ⟨c, e⟩ | ⟨c, e⟩
  · refine sh_Lk_lift (T := m.T) (I := m.I) (J := m.J) (s := m.s) (pc2 := 122) (lv2 := [(0, .ref 67), (1, .int x1), (3, .int x3)]) (st2 := []) (I2 := m.I) (J2 := m.J) (fun hT v kk => ?_) ?_
    · refine sh_j0 (c := .ne) (off := (24)) (pc2 := 122) true rfl (sh_Znet c) rfl ?_
      exact kk
    exact sh_Lk_sub (sh_sub_c rfl (sh_sub_c rfl (sh_sub_c rfl (sh_sub_n)))) (sl_248_122 e tg)
  · refine sh_Lk_lift (T := m.T) (I := m.I) (J := m.J) (s := m.s) (pc2 := 103) (lv2 := [(0, .ref 67), (1, .int x1), (3, .int x3)]) (st2 := [.int x1, .ref 67]) (I2 := m.I) (J2 := m.J) (fun hT v kk => ?_) ?_
    · refine sh_j0 (c := .ne) (off := (24)) (pc2 := 101) false rfl (sh_Znef c) rfl ?_
      refine sh_w (i := (.aload_n 0)) (len := 1) (pc2 := 102) (lv2 := [(0, .ref 67), (1, .int x1), (3, .int x3)]) (st2 := [.ref 67]) (h2 := (sh_rep m.T m.I m.J)) rfl rfl rfl ?_
      refine sh_w (i := (.iload_n 1)) (len := 1) (pc2 := 103) (lv2 := [(0, .ref 67), (1, .int x1), (3, .int x3)]) (st2 := [.int x1, .ref 67]) (h2 := (sh_rep m.T m.I m.J)) rfl rfl rfl ?_
      exact kk
    obtain ⟨r3, e3, e⟩ := sh_bc_e e
    refine sh_Lk_cV (r := (some (.int r3))) (st2 := [.int r3]) (pc2 := 106) (k2 := 249) (a := 66) (as := [.ref 67, .int x1]) (rest := []) rfl rfl rfl (fun hT => (sh_s66 hT.st)) rfl rfl ⟨Nat.le_of_ble_eq_true rfl, Nat.le_of_ble_eq_true rfl⟩ (sl_249 e3 ⟨rfl, rfl⟩) rfl rfl (Nat.le_of_ble_eq_true rfl) (Nat.le_of_ble_eq_true rfl) ?_
    refine sh_Lk_cS (r := (some (.int (sh_b2 (sf_251 r3))))) (st2 := [.int (sh_b2 (sf_251 r3))]) (pc2 := 109) (k2 := 251) (as := [.int r3]) (rest := []) rfl rfl (by decide) (Nat.le_of_ble_eq_true rfl) rfl rfl ⟨Nat.le_of_ble_eq_true rfl, Nat.le_of_ble_eq_true rfl⟩ (sl_251 (m := m) rfl ⟨rfl, rfl⟩) rfl rfl (Nat.le_of_ble_eq_true rfl) (Nat.le_of_ble_eq_true rfl) ?_
    rcases sh_ite e with ⟨c, e⟩ | ⟨c, e⟩
    · refine sh_Lk_lift (T := m.T) (I := m.I) (J := m.J) (s := m.s) (pc2 := 122) (lv2 := [(0, .ref 67), (1, .int x1), (3, .int x3)]) (st2 := []) (I2 := m.I) (J2 := m.J) (fun hT v kk => ?_) ?_
      · refine sh_j0 (c := .ne) (off := (13)) (pc2 := 122) true rfl (sh_Znet c) rfl ?_
        exact kk
      exact sh_Lk_sub (sh_sub_c rfl (sh_sub_c rfl (sh_sub_c rfl (sh_sub_n)))) (sl_248_122 e tg)
    · refine sh_Lk_lift (T := m.T) (I := m.I) (J := m.J) (s := m.s) (pc2 := 114) (lv2 := [(0, .ref 67), (1, .int x1), (3, .int x3)]) (st2 := [.int x1, .ref 67]) (I2 := m.I) (J2 := m.J) (fun hT v kk => ?_) ?_
      · refine sh_j0 (c := .ne) (off := (13)) (pc2 := 112) false rfl (sh_Znef c) rfl ?_
        refine sh_w (i := (.aload_n 0)) (len := 1) (pc2 := 113) (lv2 := [(0, .ref 67), (1, .int x1), (3, .int x3)]) (st2 := [.ref 67]) (h2 := (sh_rep m.T m.I m.J)) rfl rfl rfl ?_
        refine sh_w (i := (.iload_n 1)) (len := 1) (pc2 := 114) (lv2 := [(0, .ref 67), (1, .int x1), (3, .int x3)]) (st2 := [.int x1, .ref 67]) (h2 := (sh_rep m.T m.I m.J)) rfl rfl rfl ?_
        exact kk
      obtain ⟨r5, e5, e⟩ := sh_bc_e e
      refine sh_Lk_cV (r := (some (.int r5))) (st2 := [.int r5]) (pc2 := 117) (k2 := 249) (a := 66) (as := [.ref 67, .int x1]) (rest := []) rfl rfl rfl (fun hT => (sh_s66 hT.st)) rfl rfl ⟨Nat.le_of_ble_eq_true rfl, Nat.le_of_ble_eq_true rfl⟩ (sl_249 e5 ⟨rfl, rfl⟩) rfl rfl (Nat.le_of_ble_eq_true rfl) (Nat.le_of_ble_eq_true rfl) ?_
      refine sh_Lk_lift (T := m.T) (I := m.I) (J := m.J) (s := m.s) (pc2 := 119) (lv2 := [(0, .ref 67), (1, .int x1), (3, .int x3)]) (st2 := [.int 95, .int r5]) (I2 := m.I) (J2 := m.J) (fun hT v kk => ?_) ?_
      · refine sh_w (i := (.bipush 95)) (len := 2) (pc2 := 119) (lv2 := [(0, .ref 67), (1, .int x1), (3, .int x3)]) (st2 := [.int 95, .int r5]) (h2 := (sh_rep m.T m.I m.J)) rfl rfl rfl ?_
        exact kk
      rcases sh_ite e with ⟨c, e⟩ | ⟨c, e⟩
      · refine sh_Lk_lift (T := m.T) (I := m.I) (J := m.J) (s := m.s) (pc2 := 122) (lv2 := [(0, .ref 67), (1, .int x1), (3, .int x3)]) (st2 := []) (I2 := m.I) (J2 := m.J) (fun hT v kk => ?_) ?_
        · refine sh_jc (c := .ne) (off := (9)) (pc2 := 122) false rfl (sh_Bnef c) rfl ?_
          exact kk
        exact sh_Lk_sub (sh_sub_c rfl (sh_sub_c rfl (sh_sub_c rfl (sh_sub_n)))) (sl_248_122 e tg)
      · refine sh_Lk_lift (T := m.T) (I := m.I) (J := m.J) (s := m.s) (pc2 := 133) (lv2 := [(0, .ref 67), (1, .int x1), (3, .int x3)]) (st2 := [.int 12, .int (x1 - x3)]) (I2 := m.I) (J2 := m.J) (fun hT v kk => ?_) ?_
        · refine sh_jc (c := .ne) (off := (9)) (pc2 := 128) true rfl (sh_Bnet c) rfl ?_
          refine sh_w (i := (.iload_n 1)) (len := 1) (pc2 := 129) (lv2 := [(0, .ref 67), (1, .int x1), (3, .int x3)]) (st2 := [.int x1]) (h2 := (sh_rep m.T m.I m.J)) rfl rfl rfl ?_
          refine sh_w (i := (.iload_n 3)) (len := 1) (pc2 := 130) (lv2 := [(0, .ref 67), (1, .int x1), (3, .int x3)]) (st2 := [.int x3, .int x1]) (h2 := (sh_rep m.T m.I m.J)) rfl rfl rfl ?_
          refine sh_w (i := .isub) (len := 1) (pc2 := 131) (lv2 := [(0, .ref 67), (1, .int x1), (3, .int x3)]) (st2 := [.int (x1 - x3)]) (h2 := (sh_rep m.T m.I m.J)) rfl rfl rfl ?_
          refine sh_w (i := (.bipush 12)) (len := 2) (pc2 := 133) (lv2 := [(0, .ref 67), (1, .int x1), (3, .int x3)]) (st2 := [.int 12, .int (x1 - x3)]) (h2 := (sh_rep m.T m.I m.J)) rfl rfl rfl ?_
          exact kk
        rcases sh_ite e with ⟨c, e⟩ | ⟨c, e⟩
        · refine sh_Lk_lift (T := m.T) (I := m.I) (J := m.J) (s := m.s) (pc2 := 139) (lv2 := [(0, .ref 67), (1, .int x1), (3, .int x3)]) (st2 := [.int x3, .int 1, .ref 67]) (I2 := m.I) (J2 := m.J) (fun hT v kk => ?_) ?_
          · refine sh_jc (c := .le) (off := (10)) (pc2 := 136) false rfl (sh_Blef c) rfl ?_
            refine sh_w (i := (.aload_n 0)) (len := 1) (pc2 := 137) (lv2 := [(0, .ref 67), (1, .int x1), (3, .int x3)]) (st2 := [.ref 67]) (h2 := (sh_rep m.T m.I m.J)) rfl rfl rfl ?_
            refine sh_w (i := (.iconst 1)) (len := 1) (pc2 := 138) (lv2 := [(0, .ref 67), (1, .int x1), (3, .int x3)]) (st2 := [.int 1, .ref 67]) (h2 := (sh_rep m.T m.I m.J)) rfl rfl rfl ?_
            refine sh_w (i := (.iload_n 3)) (len := 1) (pc2 := 139) (lv2 := [(0, .ref 67), (1, .int x1), (3, .int x3)]) (st2 := [.int x3, .int 1, .ref 67]) (h2 := (sh_rep m.T m.I m.J)) rfl rfl rfl ?_
            exact kk
          obtain ⟨r6, m16, e6, e⟩ := sh_bn_e e
          refine sh_Lk_cV (r := (some (.int (sh_b2 r6)))) (st2 := [.int (sh_b2 r6)]) (pc2 := 142) (k2 := 252) (a := 66) (as := [.ref 67, .int 1, .int x3]) (rest := []) rfl rfl rfl (fun hT => (sh_s66 hT.st)) rfl rfl ⟨Nat.le_of_ble_eq_true rfl, Nat.le_of_ble_eq_true rfl⟩ (sl_252 e6 ⟨rfl, rfl⟩) rfl rfl (Nat.le_of_ble_eq_true rfl) (Nat.le_of_ble_eq_true rfl) ?_
          obtain rfl := Option.some.inj e
          obtain ⟨rfl, rfl⟩ := tg
          exact sh_Lk_ret (i := .ireturn) rfl rfl (sh_rb rfl _) (Nat.le_of_ble_eq_true rfl) (Nat.le_of_ble_eq_true rfl)
        · refine sh_Lk_lift (T := m.T) (I := m.I) (J := m.J) (s := m.s) (pc2 := 152) (lv2 := [(0, .ref 67), (1, .int x1), (3, .int x3)]) (st2 := [.int 1, .int (m.I 66 11), .ref 69]) (I2 := m.I) (J2 := m.J) (fun hT v kk => ?_) ?_
          · refine sh_jc (c := .le) (off := (10)) (pc2 := 143) true rfl (sh_Blet c) rfl ?_
            refine sh_w (i := (.aload_n 0)) (len := 1) (pc2 := 144) (lv2 := [(0, .ref 67), (1, .int x1), (3, .int x3)]) (st2 := [.ref 67]) (h2 := (sh_rep m.T m.I m.J)) rfl rfl rfl ?_
            refine sh_gR1 (len := 3) (x := .ref 69) (pc2 := 147) rfl rfl (sh_s66 hT.st) rfl rfl ?_
            refine sh_w (i := (.aload_n 0)) (len := 1) (pc2 := 148) (lv2 := [(0, .ref 67), (1, .int x1), (3, .int x3)]) (st2 := [.ref 67, .ref 69]) (h2 := (sh_rep m.T m.I m.J)) rfl rfl rfl ?_
            refine sh_gI1 (len := 3) (x := m.I 66 11) (pc2 := 151) rfl rfl (sh_s66 hT.st) rfl rfl rfl ?_
            refine sh_w (i := (.iconst 1)) (len := 1) (pc2 := 152) (lv2 := [(0, .ref 67), (1, .int x1), (3, .int x3)]) (st2 := [.int 1, .int (m.I 66 11), .ref 69]) (h2 := (sh_rep m.T m.I m.J)) rfl rfl rfl ?_
            exact kk
          obtain ⟨c, e⟩ := sh_gd e
          refine sh_Lk_lift (T := m.T) (I := m.I) (J := m.J) (s := m.s) (pc2 := 281) (lv2 := [(0, .ref 67), (1, .int x1), (3, .int x3)]) (st2 := []) (I2 := sh_u2 m.I 68 (Int32.toNatClampNeg (m.I 66 11)) 1) (J2 := m.J) (fun hT v kk => ?_) ?_
          · refine sh_is1 (x := 1) (i := m.I 66 11) (pc2 := 153) rfl (sh_s68 hT.st) (sh_okb1 c) (sh_okb2 c) rfl ?_
            refine sh_w (i := (.goto 128)) (len := 3) (pc2 := 281) (lv2 := [(0, .ref 67), (1, .int x1), (3, .int x3)]) (st2 := []) (h2 := (sh_rep m.T (sh_u2 m.I 68 (Int32.toNatClampNeg (m.I 66 11)) 1) m.J)) rfl rfl rfl ?_
            exact kk
          obtain ⟨_, eu, rfl⟩ := sh_up_e e
          exact sh_Lk_sub (sh_sub_c rfl (sh_sub_c rfl (sh_sub_c rfl (sh_sub_n)))) (sl_248_281 eu tg)
theorem sl_248_90 {x1 : Int32} {x3 : Int32} {m m2 : sh_X} {o : Outcome} {z : ((Int32 × sh_X) ⊕ (Bool × sh_X))} (e : sf_248_90 x1 x3 m = some z) (tg : (sh_el (fun q => sh_Lk 248 7 [(0, .ref 67), (1, .int q.1)] [] q.2 o m2 31 621) (sh_tZ o m2)) z) : sh_Lk 248 90 [(0, .ref 67), (1, .int x1), (3, .int x3)] [] m o m2 31 621 := by
  unfold sf_248_90 at e
  exact sh_while_lk (P := fun q => sh_Lk 248 90 [(0, .ref 67), (1, .int q.1), (3, .int x3)] [] q.2 o m2 31 621) (Q := (sh_el (fun q => sh_Lk 248 7 [(0, .ref 67), (1, .int q.1)] [] q.2 o m2 31 621) (sh_tZ o m2))) (fun q z e tg => sl_248_90s (x1 := q.1) (x3 := x3) (m := q.2) e tg) (s := (x1, m)) e tg
theorem sl_248_163s {x1 : Int32} {x3 : Int32} {m m2 : sh_X} {o : Outcome} {z : ((Int32 × sh_X) ⊕ ((Int32 × sh_X) ⊕ (Bool × sh_X)))} (e : sf_248_163s x1 x3 m = some z) (tg : (sh_el (fun q => sh_Lk 248 163 [(0, .ref 67), (1, .int q.1), (3, .int x3)] [] q.2 o m2 31 621) (sh_el (fun q => sh_Lk 248 7 [(0, .ref 67), (1, .int q.1)] [] q.2 o m2 31 621) (sh_tZ o m2))) z) : sh_Lk 248 163 [(0, .ref 67), (1, .int x1), (3, .int x3)] [] m o m2 31 621 := by
  unfold sf_248_163s at e
  refine sh_Lk_lift (T := m.T) (I := m.I) (J := m.J) (s := m.s) (pc2 := 165) (lv2 := [(0, .ref 67), (1, .int x1), (3, .int x3)]) (st2 := [.int x1, .ref 67]) (I2 := m.I) (J2 := m.J) (fun hT v kk => ?_) ?_
  · refine sh_w (i := (.aload_n 0)) (len := 1) (pc2 := 164) (lv2 := [(0, .ref 67), (1, .int x1), (3, .int x3)]) (st2 := [.ref 67]) (h2 := (sh_rep m.T m.I m.J)) rfl rfl rfl ?_
    refine sh_w (i := (.iload_n 1)) (len := 1) (pc2 := 165) (lv2 := [(0, .ref 67), (1, .int x1), (3, .int x3)]) (st2 := [.int x1, .ref 67]) (h2 := (sh_rep m.T m.I m.J)) rfl rfl rfl ?_
    exact kk
  obtain ⟨r1, e1, e⟩ := sh_bc_e e
  refine sh_Lk_cV (r := (some (.int r1))) (st2 := [.int r1]) (pc2 := 168) (k2 := 249) (a := 66) (as := [.ref 67, .int x1]) (rest := []) rfl rfl rfl (fun hT => (sh_s66 hT.st)) rfl rfl ⟨Nat.le_of_ble_eq_true rfl, Nat.le_of_ble_eq_true rfl⟩ (sl_249 e1 ⟨rfl, rfl⟩) rfl rfl (Nat.le_of_ble_eq_true rfl) (Nat.le_of_ble_eq_true rfl) ?_
  refine sh_Lk_cS (r := (some (.int (sh_b2 (sf_251 r1))))) (st2 := [.int (sh_b2 (sf_251 r1))]) (pc2 := 171) (k2 := 251) (as := [.int r1]) (rest := []) rfl rfl (by decide) (Nat.le_of_ble_eq_true rfl) rfl rfl ⟨Nat.le_of_ble_eq_true rfl, Nat.le_of_ble_eq_true rfl⟩ (sl_251 (m := m) rfl ⟨rfl, rfl⟩) rfl rfl (Nat.le_of_ble_eq_true rfl) (Nat.le_of_ble_eq_true rfl) ?_
  rcases sh_ite e with ⟨c, e⟩ | ⟨c, e⟩
  · refine sh_Lk_lift (T := m.T) (I := m.I) (J := m.J) (s := m.s) (pc2 := 163) (lv2 := [(1, .int (x1 + 1)), (0, .ref 67), (3, .int x3)]) (st2 := []) (I2 := m.I) (J2 := m.J) (fun hT v kk => ?_) ?_
    · refine sh_j0 (c := .eq) (off := (9)) (pc2 := 174) false rfl (sh_Zeqf c) rfl ?_
      refine sh_w (i := (.iinc 1 1)) (len := 3) (pc2 := 177) (lv2 := [(1, .int (x1 + 1)), (0, .ref 67), (3, .int x3)]) (st2 := []) (h2 := (sh_rep m.T m.I m.J)) rfl rfl rfl ?_
      refine sh_w (i := (.goto (-14))) (len := 3) (pc2 := 163) (lv2 := [(1, .int (x1 + 1)), (0, .ref 67), (3, .int x3)]) (st2 := []) (h2 := (sh_rep m.T m.I m.J)) rfl rfl rfl ?_
      exact kk
    obtain rfl := Option.some.inj e
    exact sh_Lk_sub (sh_sub_c rfl (sh_sub_c rfl (sh_sub_c rfl (sh_sub_n)))) tg
  · refine sh_Lk_lift (T := m.T) (I := m.I) (J := m.J) (s := m.s) (pc2 := 185) (lv2 := [(0, .ref 67), (1, .int x1), (3, .int x3)]) (st2 := [.int 18, .int (x1 - x3)]) (I2 := m.I) (J2 := m.J) (fun hT v kk => ?_) ?_
    · refine sh_j0 (c := .eq) (off := (9)) (pc2 := 180) true rfl (sh_Zeqt c) rfl ?_
      refine sh_w (i := (.iload_n 1)) (len := 1) (pc2 := 181) (lv2 := [(0, .ref 67), (1, .int x1), (3, .int x3)]) (st2 := [.int x1]) (h2 := (sh_rep m.T m.I m.J)) rfl rfl rfl ?_
      refine sh_w (i := (.iload_n 3)) (len := 1) (pc2 := 182) (lv2 := [(0, .ref 67), (1, .int x1), (3, .int x3)]) (st2 := [.int x3, .int x1]) (h2 := (sh_rep m.T m.I m.J)) rfl rfl rfl ?_
      refine sh_w (i := .isub) (len := 1) (pc2 := 183) (lv2 := [(0, .ref 67), (1, .int x1), (3, .int x3)]) (st2 := [.int (x1 - x3)]) (h2 := (sh_rep m.T m.I m.J)) rfl rfl rfl ?_
      refine sh_w (i := (.bipush 18)) (len := 2) (pc2 := 185) (lv2 := [(0, .ref 67), (1, .int x1), (3, .int x3)]) (st2 := [.int 18, .int (x1 - x3)]) (h2 := (sh_rep m.T m.I m.J)) rfl rfl rfl ?_
      exact kk
    rcases sh_ite e with ⟨c, e⟩ | ⟨c, e⟩
    · refine sh_Lk_lift (T := m.T) (I := m.I) (J := m.J) (s := m.s) (pc2 := 191) (lv2 := [(0, .ref 67), (1, .int x1), (3, .int x3)]) (st2 := [.int x3, .int 1, .ref 67]) (I2 := m.I) (J2 := m.J) (fun hT v kk => ?_) ?_
      · refine sh_jc (c := .le) (off := (10)) (pc2 := 188) false rfl (sh_Blef c) rfl ?_
        refine sh_w (i := (.aload_n 0)) (len := 1) (pc2 := 189) (lv2 := [(0, .ref 67), (1, .int x1), (3, .int x3)]) (st2 := [.ref 67]) (h2 := (sh_rep m.T m.I m.J)) rfl rfl rfl ?_
        refine sh_w (i := (.iconst 1)) (len := 1) (pc2 := 190) (lv2 := [(0, .ref 67), (1, .int x1), (3, .int x3)]) (st2 := [.int 1, .ref 67]) (h2 := (sh_rep m.T m.I m.J)) rfl rfl rfl ?_
        refine sh_w (i := (.iload_n 3)) (len := 1) (pc2 := 191) (lv2 := [(0, .ref 67), (1, .int x1), (3, .int x3)]) (st2 := [.int x3, .int 1, .ref 67]) (h2 := (sh_rep m.T m.I m.J)) rfl rfl rfl ?_
        exact kk
      obtain ⟨r3, m13, e3, e⟩ := sh_bn_e e
      refine sh_Lk_cV (r := (some (.int (sh_b2 r3)))) (st2 := [.int (sh_b2 r3)]) (pc2 := 194) (k2 := 252) (a := 66) (as := [.ref 67, .int 1, .int x3]) (rest := []) rfl rfl rfl (fun hT => (sh_s66 hT.st)) rfl rfl ⟨Nat.le_of_ble_eq_true rfl, Nat.le_of_ble_eq_true rfl⟩ (sl_252 e3 ⟨rfl, rfl⟩) rfl rfl (Nat.le_of_ble_eq_true rfl) (Nat.le_of_ble_eq_true rfl) ?_
      obtain rfl := Option.some.inj e
      obtain ⟨rfl, rfl⟩ := tg
      exact sh_Lk_ret (i := .ireturn) rfl rfl (sh_rb rfl _) (Nat.le_of_ble_eq_true rfl) (Nat.le_of_ble_eq_true rfl)
    · refine sh_Lk_lift (T := m.T) (I := m.I) (J := m.J) (s := m.s) (pc2 := 204) (lv2 := [(0, .ref 67), (1, .int x1), (3, .int x3)]) (st2 := [.int 2, .int (m.I 66 11), .ref 69]) (I2 := m.I) (J2 := m.J) (fun hT v kk => ?_) ?_
      · refine sh_jc (c := .le) (off := (10)) (pc2 := 195) true rfl (sh_Blet c) rfl ?_
        refine sh_w (i := (.aload_n 0)) (len := 1) (pc2 := 196) (lv2 := [(0, .ref 67), (1, .int x1), (3, .int x3)]) (st2 := [.ref 67]) (h2 := (sh_rep m.T m.I m.J)) rfl rfl rfl ?_
        refine sh_gR1 (len := 3) (x := .ref 69) (pc2 := 199) rfl rfl (sh_s66 hT.st) rfl rfl ?_
        refine sh_w (i := (.aload_n 0)) (len := 1) (pc2 := 200) (lv2 := [(0, .ref 67), (1, .int x1), (3, .int x3)]) (st2 := [.ref 67, .ref 69]) (h2 := (sh_rep m.T m.I m.J)) rfl rfl rfl ?_
        refine sh_gI1 (len := 3) (x := m.I 66 11) (pc2 := 203) rfl rfl (sh_s66 hT.st) rfl rfl rfl ?_
        refine sh_w (i := (.iconst 2)) (len := 1) (pc2 := 204) (lv2 := [(0, .ref 67), (1, .int x1), (3, .int x3)]) (st2 := [.int 2, .int (m.I 66 11), .ref 69]) (h2 := (sh_rep m.T m.I m.J)) rfl rfl rfl ?_
        exact kk
      obtain ⟨c, e⟩ := sh_gd e
      refine sh_Lk_lift (T := m.T) (I := m.I) (J := m.J) (s := m.s) (pc2 := 281) (lv2 := [(0, .ref 67), (1, .int x1), (3, .int x3)]) (st2 := []) (I2 := sh_u2 m.I 68 (Int32.toNatClampNeg (m.I 66 11)) 2) (J2 := m.J) (fun hT v kk => ?_) ?_
      · refine sh_is1 (x := 2) (i := m.I 66 11) (pc2 := 205) rfl (sh_s68 hT.st) (sh_okb1 c) (sh_okb2 c) rfl ?_
        refine sh_w (i := (.goto 76)) (len := 3) (pc2 := 281) (lv2 := [(0, .ref 67), (1, .int x1), (3, .int x3)]) (st2 := []) (h2 := (sh_rep m.T (sh_u2 m.I 68 (Int32.toNatClampNeg (m.I 66 11)) 2) m.J)) rfl rfl rfl ?_
        exact kk
      obtain ⟨_, eu, rfl⟩ := sh_up_e e
      exact sh_Lk_sub (sh_sub_c rfl (sh_sub_c rfl (sh_sub_c rfl (sh_sub_n)))) (sl_248_281 eu tg)
theorem sl_248_163 {x1 : Int32} {x3 : Int32} {m m2 : sh_X} {o : Outcome} {z : ((Int32 × sh_X) ⊕ (Bool × sh_X))} (e : sf_248_163 x1 x3 m = some z) (tg : (sh_el (fun q => sh_Lk 248 7 [(0, .ref 67), (1, .int q.1)] [] q.2 o m2 31 621) (sh_tZ o m2)) z) : sh_Lk 248 163 [(0, .ref 67), (1, .int x1), (3, .int x3)] [] m o m2 31 621 := by
  unfold sf_248_163 at e
  exact sh_while_lk (P := fun q => sh_Lk 248 163 [(0, .ref 67), (1, .int q.1), (3, .int x3)] [] q.2 o m2 31 621) (Q := (sh_el (fun q => sh_Lk 248 7 [(0, .ref 67), (1, .int q.1)] [] q.2 o m2 31 621) (sh_tZ o m2))) (fun q z e tg => sl_248_163s (x1 := q.1) (x3 := x3) (m := q.2) e tg) (s := (x1, m)) e tg
theorem sl_248_7s {x1 : Int32} {m m2 : sh_X} {o : Outcome} {z : ((Int32 × sh_X) ⊕ (Bool × sh_X))} (e : sf_248_7s x1 m = some z) (tg : (sh_el (fun q => sh_Lk 248 7 [(0, .ref 67), (1, .int q.1)] [] q.2 o m2 31 621) (sh_tZ o m2)) z) : sh_Lk 248 7 [(0, .ref 67), (1, .int x1)] [] m o m2 31 621 := by
  unfold sf_248_7s at e
  refine sh_Lk_lift (T := m.T) (I := m.I) (J := m.J) (s := m.s) (pc2 := 12) (lv2 := [(0, .ref 67), (1, .int x1)]) (st2 := [.int (m.I 66 3), .int x1]) (I2 := m.I) (J2 := m.J) (fun hT v kk => ?_) ?_
  · refine sh_w (i := (.iload_n 1)) (len := 1) (pc2 := 8) (lv2 := [(0, .ref 67), (1, .int x1)]) (st2 := [.int x1]) (h2 := (sh_rep m.T m.I m.J)) rfl rfl rfl ?_
    refine sh_w (i := (.aload_n 0)) (len := 1) (pc2 := 9) (lv2 := [(0, .ref 67), (1, .int x1)]) (st2 := [.ref 67, .int x1]) (h2 := (sh_rep m.T m.I m.J)) rfl rfl rfl ?_
    refine sh_gI1 (len := 3) (x := m.I 66 3) (pc2 := 12) rfl rfl (sh_s66 hT.st) rfl rfl rfl ?_
    exact kk
  rcases sh_ite e with ⟨c, e⟩ | ⟨c, e⟩
  · refine sh_Lk_lift (T := m.T) (I := m.I) (J := m.J) (s := m.s) (pc2 := 17) (lv2 := [(0, .ref 67), (1, .int x1)]) (st2 := [.int x1, .ref 67]) (I2 := m.I) (J2 := m.J) (fun hT v kk => ?_) ?_
    · refine sh_jc (c := .ge) (off := (304)) (pc2 := 15) false rfl (sh_Bgef c) rfl ?_
      refine sh_w (i := (.aload_n 0)) (len := 1) (pc2 := 16) (lv2 := [(0, .ref 67), (1, .int x1)]) (st2 := [.ref 67]) (h2 := (sh_rep m.T m.I m.J)) rfl rfl rfl ?_
      refine sh_w (i := (.iload_n 1)) (len := 1) (pc2 := 17) (lv2 := [(0, .ref 67), (1, .int x1)]) (st2 := [.int x1, .ref 67]) (h2 := (sh_rep m.T m.I m.J)) rfl rfl rfl ?_
      exact kk
    obtain ⟨r1, e1, e⟩ := sh_bc_e e
    refine sh_Lk_cV (r := (some (.int r1))) (st2 := [.int r1]) (pc2 := 20) (k2 := 249) (a := 66) (as := [.ref 67, .int x1]) (rest := []) rfl rfl rfl (fun hT => (sh_s66 hT.st)) rfl rfl ⟨Nat.le_of_ble_eq_true rfl, Nat.le_of_ble_eq_true rfl⟩ (sl_249 e1 ⟨rfl, rfl⟩) rfl rfl (Nat.le_of_ble_eq_true rfl) (Nat.le_of_ble_eq_true rfl) ?_
    refine sh_Lk_lift (T := m.T) (I := m.I) (J := m.J) (s := m.s) (pc2 := 26) (lv2 := [(3, .int x1), (2, .int r1), (0, .ref 67), (1, .int x1)]) (st2 := [.int 32, .int r1]) (I2 := m.I) (J2 := m.J) (fun hT v kk => ?_) ?_
    · refine sh_w (i := (.istore_n 2)) (len := 1) (pc2 := 21) (lv2 := [(2, .int r1), (0, .ref 67), (1, .int x1)]) (st2 := []) (h2 := (sh_rep m.T m.I m.J)) rfl rfl rfl ?_
      refine sh_w (i := (.iload_n 1)) (len := 1) (pc2 := 22) (lv2 := [(2, .int r1), (0, .ref 67), (1, .int x1)]) (st2 := [.int x1]) (h2 := (sh_rep m.T m.I m.J)) rfl rfl rfl ?_
      refine sh_w (i := (.istore_n 3)) (len := 1) (pc2 := 23) (lv2 := [(3, .int x1), (2, .int r1), (0, .ref 67), (1, .int x1)]) (st2 := []) (h2 := (sh_rep m.T m.I m.J)) rfl rfl rfl ?_
      refine sh_w (i := (.iload_n 2)) (len := 1) (pc2 := 24) (lv2 := [(3, .int x1), (2, .int r1), (0, .ref 67), (1, .int x1)]) (st2 := [.int r1]) (h2 := (sh_rep m.T m.I m.J)) rfl rfl rfl ?_
      refine sh_w (i := (.bipush 32)) (len := 2) (pc2 := 26) (lv2 := [(3, .int x1), (2, .int r1), (0, .ref 67), (1, .int x1)]) (st2 := [.int 32, .int r1]) (h2 := (sh_rep m.T m.I m.J)) rfl rfl rfl ?_
      exact kk
    rcases sh_ite e with ⟨c, e⟩ | ⟨c, e⟩
    · refine sh_Lk_lift (T := m.T) (I := m.I) (J := m.J) (s := m.s) (pc2 := 47) (lv2 := [(3, .int x1), (2, .int r1), (0, .ref 67), (1, .int x1)]) (st2 := []) (I2 := m.I) (J2 := m.J) (fun hT v kk => ?_) ?_
      · refine sh_jc (c := .eq) (off := (21)) (pc2 := 47) true rfl (sh_Beqt c) rfl ?_
        exact kk
      exact sh_Lk_sub (sh_sub_c rfl (sh_sub_c rfl (sh_sub_n))) (sl_248_47 e tg)
    · refine sh_Lk_lift (T := m.T) (I := m.I) (J := m.J) (s := m.s) (pc2 := 32) (lv2 := [(3, .int x1), (2, .int r1), (0, .ref 67), (1, .int x1)]) (st2 := [.int 9, .int r1]) (I2 := m.I) (J2 := m.J) (fun hT v kk => ?_) ?_
      · refine sh_jc (c := .eq) (off := (21)) (pc2 := 29) false rfl (sh_Beqf c) rfl ?_
        refine sh_w (i := (.iload_n 2)) (len := 1) (pc2 := 30) (lv2 := [(3, .int x1), (2, .int r1), (0, .ref 67), (1, .int x1)]) (st2 := [.int r1]) (h2 := (sh_rep m.T m.I m.J)) rfl rfl rfl ?_
        refine sh_w (i := (.bipush 9)) (len := 2) (pc2 := 32) (lv2 := [(3, .int x1), (2, .int r1), (0, .ref 67), (1, .int x1)]) (st2 := [.int 9, .int r1]) (h2 := (sh_rep m.T m.I m.J)) rfl rfl rfl ?_
        exact kk
      rcases sh_ite e with ⟨c, e⟩ | ⟨c, e⟩
      · refine sh_Lk_lift (T := m.T) (I := m.I) (J := m.J) (s := m.s) (pc2 := 47) (lv2 := [(3, .int x1), (2, .int r1), (0, .ref 67), (1, .int x1)]) (st2 := []) (I2 := m.I) (J2 := m.J) (fun hT v kk => ?_) ?_
        · refine sh_jc (c := .eq) (off := (15)) (pc2 := 47) true rfl (sh_Beqt c) rfl ?_
          exact kk
        exact sh_Lk_sub (sh_sub_c rfl (sh_sub_c rfl (sh_sub_n))) (sl_248_47 e tg)
      · refine sh_Lk_lift (T := m.T) (I := m.I) (J := m.J) (s := m.s) (pc2 := 38) (lv2 := [(3, .int x1), (2, .int r1), (0, .ref 67), (1, .int x1)]) (st2 := [.int 10, .int r1]) (I2 := m.I) (J2 := m.J) (fun hT v kk => ?_) ?_
        · refine sh_jc (c := .eq) (off := (15)) (pc2 := 35) false rfl (sh_Beqf c) rfl ?_
          refine sh_w (i := (.iload_n 2)) (len := 1) (pc2 := 36) (lv2 := [(3, .int x1), (2, .int r1), (0, .ref 67), (1, .int x1)]) (st2 := [.int r1]) (h2 := (sh_rep m.T m.I m.J)) rfl rfl rfl ?_
          refine sh_w (i := (.bipush 10)) (len := 2) (pc2 := 38) (lv2 := [(3, .int x1), (2, .int r1), (0, .ref 67), (1, .int x1)]) (st2 := [.int 10, .int r1]) (h2 := (sh_rep m.T m.I m.J)) rfl rfl rfl ?_
          exact kk
        rcases sh_ite e with ⟨c, e⟩ | ⟨c, e⟩
        · refine sh_Lk_lift (T := m.T) (I := m.I) (J := m.J) (s := m.s) (pc2 := 47) (lv2 := [(3, .int x1), (2, .int r1), (0, .ref 67), (1, .int x1)]) (st2 := []) (I2 := m.I) (J2 := m.J) (fun hT v kk => ?_) ?_
          · refine sh_jc (c := .eq) (off := (9)) (pc2 := 47) true rfl (sh_Beqt c) rfl ?_
            exact kk
          exact sh_Lk_sub (sh_sub_c rfl (sh_sub_c rfl (sh_sub_n))) (sl_248_47 e tg)
        · refine sh_Lk_lift (T := m.T) (I := m.I) (J := m.J) (s := m.s) (pc2 := 44) (lv2 := [(3, .int x1), (2, .int r1), (0, .ref 67), (1, .int x1)]) (st2 := [.int 13, .int r1]) (I2 := m.I) (J2 := m.J) (fun hT v kk => ?_) ?_
          · refine sh_jc (c := .eq) (off := (9)) (pc2 := 41) false rfl (sh_Beqf c) rfl ?_
            refine sh_w (i := (.iload_n 2)) (len := 1) (pc2 := 42) (lv2 := [(3, .int x1), (2, .int r1), (0, .ref 67), (1, .int x1)]) (st2 := [.int r1]) (h2 := (sh_rep m.T m.I m.J)) rfl rfl rfl ?_
            refine sh_w (i := (.bipush 13)) (len := 2) (pc2 := 44) (lv2 := [(3, .int x1), (2, .int r1), (0, .ref 67), (1, .int x1)]) (st2 := [.int 13, .int r1]) (h2 := (sh_rep m.T m.I m.J)) rfl rfl rfl ?_
            exact kk
          rcases sh_ite e with ⟨c, e⟩ | ⟨c, e⟩
          · refine sh_Lk_lift (T := m.T) (I := m.I) (J := m.J) (s := m.s) (pc2 := 47) (lv2 := [(3, .int x1), (2, .int r1), (0, .ref 67), (1, .int x1)]) (st2 := []) (I2 := m.I) (J2 := m.J) (fun hT v kk => ?_) ?_
            · refine sh_jc (c := .ne) (off := (9)) (pc2 := 47) false rfl (sh_Bnef c) rfl ?_
              exact kk
            exact sh_Lk_sub (sh_sub_c rfl (sh_sub_c rfl (sh_sub_n))) (sl_248_47 e tg)
          · refine sh_Lk_lift (T := m.T) (I := m.I) (J := m.J) (s := m.s) (pc2 := 56) (lv2 := [(3, .int x1), (2, .int r1), (0, .ref 67), (1, .int x1)]) (st2 := [.int 35, .int r1]) (I2 := m.I) (J2 := m.J) (fun hT v kk => ?_) ?_
            · refine sh_jc (c := .ne) (off := (9)) (pc2 := 53) true rfl (sh_Bnet c) rfl ?_
              refine sh_w (i := (.iload_n 2)) (len := 1) (pc2 := 54) (lv2 := [(3, .int x1), (2, .int r1), (0, .ref 67), (1, .int x1)]) (st2 := [.int r1]) (h2 := (sh_rep m.T m.I m.J)) rfl rfl rfl ?_
              refine sh_w (i := (.bipush 35)) (len := 2) (pc2 := 56) (lv2 := [(3, .int x1), (2, .int r1), (0, .ref 67), (1, .int x1)]) (st2 := [.int 35, .int r1]) (h2 := (sh_rep m.T m.I m.J)) rfl rfl rfl ?_
              exact kk
            rcases sh_ite e with ⟨c, e⟩ | ⟨c, e⟩
            · refine sh_Lk_lift (T := m.T) (I := m.I) (J := m.J) (s := m.s) (pc2 := 59) (lv2 := [(3, .int x1), (2, .int r1), (0, .ref 67), (1, .int x1)]) (st2 := []) (I2 := m.I) (J2 := m.J) (fun hT v kk => ?_) ?_
              · refine sh_jc (c := .ne) (off := (27)) (pc2 := 59) false rfl (sh_Bnef c) rfl ?_
                exact kk
              exact sh_Lk_sub (sh_sub_c rfl (sh_sub_c rfl (sh_sub_n))) (sl_248_59 e tg)
            · refine sh_Lk_lift (T := m.T) (I := m.I) (J := m.J) (s := m.s) (pc2 := 84) (lv2 := [(3, .int x1), (2, .int r1), (0, .ref 67), (1, .int x1)]) (st2 := [.int r1]) (I2 := m.I) (J2 := m.J) (fun hT v kk => ?_) ?_
              · refine sh_jc (c := .ne) (off := (27)) (pc2 := 83) true rfl (sh_Bnet c) rfl ?_
                refine sh_w (i := (.iload_n 2)) (len := 1) (pc2 := 84) (lv2 := [(3, .int x1), (2, .int r1), (0, .ref 67), (1, .int x1)]) (st2 := [.int r1]) (h2 := (sh_rep m.T m.I m.J)) rfl rfl rfl ?_
                exact kk
              refine sh_Lk_cS (r := (some (.int (sh_b2 (sf_250 r1))))) (st2 := [.int (sh_b2 (sf_250 r1))]) (pc2 := 87) (k2 := 250) (as := [.int r1]) (rest := []) rfl rfl (by decide) (Nat.le_of_ble_eq_true rfl) rfl rfl ⟨Nat.le_of_ble_eq_true rfl, Nat.le_of_ble_eq_true rfl⟩ (sl_250 (m := m) rfl ⟨rfl, rfl⟩) rfl rfl (Nat.le_of_ble_eq_true rfl) (Nat.le_of_ble_eq_true rfl) ?_
              rcases sh_ite e with ⟨c, e⟩ | ⟨c, e⟩
              · refine sh_Lk_lift (T := m.T) (I := m.I) (J := m.J) (s := m.s) (pc2 := 90) (lv2 := [(3, .int x1), (2, .int r1), (0, .ref 67), (1, .int x1)]) (st2 := []) (I2 := m.I) (J2 := m.J) (fun hT v kk => ?_) ?_
                · refine sh_j0 (c := .eq) (off := (69)) (pc2 := 90) false rfl (sh_Zeqf c) rfl ?_
                  exact kk
                exact sh_Lk_sub (sh_sub_c rfl (sh_sub_c rfl (sh_sub_c rfl (sh_sub_n)))) (sl_248_90 e tg)
              · refine sh_Lk_lift (T := m.T) (I := m.I) (J := m.J) (s := m.s) (pc2 := 157) (lv2 := [(3, .int x1), (2, .int r1), (0, .ref 67), (1, .int x1)]) (st2 := [.int r1]) (I2 := m.I) (J2 := m.J) (fun hT v kk => ?_) ?_
                · refine sh_j0 (c := .eq) (off := (69)) (pc2 := 156) true rfl (sh_Zeqt c) rfl ?_
                  refine sh_w (i := (.iload_n 2)) (len := 1) (pc2 := 157) (lv2 := [(3, .int x1), (2, .int r1), (0, .ref 67), (1, .int x1)]) (st2 := [.int r1]) (h2 := (sh_rep m.T m.I m.J)) rfl rfl rfl ?_
                  exact kk
                refine sh_Lk_cS (r := (some (.int (sh_b2 (sf_251 r1))))) (st2 := [.int (sh_b2 (sf_251 r1))]) (pc2 := 160) (k2 := 251) (as := [.int r1]) (rest := []) rfl rfl (by decide) (Nat.le_of_ble_eq_true rfl) rfl rfl ⟨Nat.le_of_ble_eq_true rfl, Nat.le_of_ble_eq_true rfl⟩ (sl_251 (m := m) rfl ⟨rfl, rfl⟩) rfl rfl (Nat.le_of_ble_eq_true rfl) (Nat.le_of_ble_eq_true rfl) ?_
                rcases sh_ite e with ⟨c, e⟩ | ⟨c, e⟩
                · refine sh_Lk_lift (T := m.T) (I := m.I) (J := m.J) (s := m.s) (pc2 := 163) (lv2 := [(3, .int x1), (2, .int r1), (0, .ref 67), (1, .int x1)]) (st2 := []) (I2 := m.I) (J2 := m.J) (fun hT v kk => ?_) ?_
                  · refine sh_j0 (c := .eq) (off := (48)) (pc2 := 163) false rfl (sh_Zeqf c) rfl ?_
                    exact kk
                  exact sh_Lk_sub (sh_sub_c rfl (sh_sub_c rfl (sh_sub_c rfl (sh_sub_n)))) (sl_248_163 e tg)
                · refine sh_Lk_lift (T := m.T) (I := m.I) (J := m.J) (s := m.s) (pc2 := 214) (lv2 := [(3, .int x1), (2, .int r1), (0, .ref 67), (1, .int x1)]) (st2 := [.int (x1 + 1), .ref 67, .int r1, .ref 67]) (I2 := m.I) (J2 := m.J) (fun hT v kk => ?_) ?_
                  · refine sh_j0 (c := .eq) (off := (48)) (pc2 := 208) true rfl (sh_Zeqt c) rfl ?_
                    refine sh_w (i := (.aload_n 0)) (len := 1) (pc2 := 209) (lv2 := [(3, .int x1), (2, .int r1), (0, .ref 67), (1, .int x1)]) (st2 := [.ref 67]) (h2 := (sh_rep m.T m.I m.J)) rfl rfl rfl ?_
                    refine sh_w (i := (.iload_n 2)) (len := 1) (pc2 := 210) (lv2 := [(3, .int x1), (2, .int r1), (0, .ref 67), (1, .int x1)]) (st2 := [.int r1, .ref 67]) (h2 := (sh_rep m.T m.I m.J)) rfl rfl rfl ?_
                    refine sh_w (i := (.aload_n 0)) (len := 1) (pc2 := 211) (lv2 := [(3, .int x1), (2, .int r1), (0, .ref 67), (1, .int x1)]) (st2 := [.ref 67, .int r1, .ref 67]) (h2 := (sh_rep m.T m.I m.J)) rfl rfl rfl ?_
                    refine sh_w (i := (.iload_n 1)) (len := 1) (pc2 := 212) (lv2 := [(3, .int x1), (2, .int r1), (0, .ref 67), (1, .int x1)]) (st2 := [.int x1, .ref 67, .int r1, .ref 67]) (h2 := (sh_rep m.T m.I m.J)) rfl rfl rfl ?_
                    refine sh_w (i := (.iconst 1)) (len := 1) (pc2 := 213) (lv2 := [(3, .int x1), (2, .int r1), (0, .ref 67), (1, .int x1)]) (st2 := [.int 1, .int x1, .ref 67, .int r1, .ref 67]) (h2 := (sh_rep m.T m.I m.J)) rfl rfl rfl ?_
                    refine sh_w (i := .iadd) (len := 1) (pc2 := 214) (lv2 := [(3, .int x1), (2, .int r1), (0, .ref 67), (1, .int x1)]) (st2 := [.int (x1 + 1), .ref 67, .int r1, .ref 67]) (h2 := (sh_rep m.T m.I m.J)) rfl rfl rfl ?_
                    exact kk
                  obtain ⟨r4, e4, e⟩ := sh_bc_e e
                  refine sh_Lk_cV (r := (some (.int r4))) (st2 := [.int r4, .int r1, .ref 67]) (pc2 := 217) (k2 := 249) (a := 66) (as := [.ref 67, .int (x1 + 1)]) (rest := [.int r1, .ref 67]) rfl rfl rfl (fun hT => (sh_s66 hT.st)) rfl rfl ⟨Nat.le_of_ble_eq_true rfl, Nat.le_of_ble_eq_true rfl⟩ (sl_249 e4 ⟨rfl, rfl⟩) rfl rfl (Nat.le_of_ble_eq_true rfl) (Nat.le_of_ble_eq_true rfl) ?_
                  refine sh_Lk_cV (r := (some (.int (sh_b2 (sf_253 r1 r4))))) (st2 := [.int (sh_b2 (sf_253 r1 r4))]) (pc2 := 220) (k2 := 253) (a := 66) (as := [.ref 67, .int r1, .int r4]) (rest := []) rfl rfl rfl (fun hT => (sh_s66 hT.st)) rfl rfl ⟨Nat.le_of_ble_eq_true rfl, Nat.le_of_ble_eq_true rfl⟩ (sl_253 (m := m) rfl ⟨rfl, rfl⟩) rfl rfl (Nat.le_of_ble_eq_true rfl) (Nat.le_of_ble_eq_true rfl) ?_
                  rcases sh_ite e with ⟨c, e⟩ | ⟨c, e⟩
                  · refine sh_Lk_lift (T := m.T) (I := m.I) (J := m.J) (s := m.s) (pc2 := 240) (lv2 := [(3, .int x1), (2, .int r1), (0, .ref 67), (1, .int x1)]) (st2 := [.int (x1 + 1), .ref 67, .int (256 * r1), .int (m.I 66 11), .ref 69]) (I2 := m.I) (J2 := m.J) (fun hT v kk => ?_) ?_
                    · refine sh_j0 (c := .eq) (off := (31)) (pc2 := 223) false rfl (sh_Zeqf c) rfl ?_
                      refine sh_w (i := (.aload_n 0)) (len := 1) (pc2 := 224) (lv2 := [(3, .int x1), (2, .int r1), (0, .ref 67), (1, .int x1)]) (st2 := [.ref 67]) (h2 := (sh_rep m.T m.I m.J)) rfl rfl rfl ?_
                      refine sh_gR1 (len := 3) (x := .ref 69) (pc2 := 227) rfl rfl (sh_s66 hT.st) rfl rfl ?_
                      refine sh_w (i := (.aload_n 0)) (len := 1) (pc2 := 228) (lv2 := [(3, .int x1), (2, .int r1), (0, .ref 67), (1, .int x1)]) (st2 := [.ref 67, .ref 69]) (h2 := (sh_rep m.T m.I m.J)) rfl rfl rfl ?_
                      refine sh_gI1 (len := 3) (x := m.I 66 11) (pc2 := 231) rfl rfl (sh_s66 hT.st) rfl rfl rfl ?_
                      refine sh_w (i := (.sipush 256)) (len := 3) (pc2 := 234) (lv2 := [(3, .int x1), (2, .int r1), (0, .ref 67), (1, .int x1)]) (st2 := [.int 256, .int (m.I 66 11), .ref 69]) (h2 := (sh_rep m.T m.I m.J)) rfl rfl rfl ?_
                      refine sh_w (i := (.iload_n 2)) (len := 1) (pc2 := 235) (lv2 := [(3, .int x1), (2, .int r1), (0, .ref 67), (1, .int x1)]) (st2 := [.int r1, .int 256, .int (m.I 66 11), .ref 69]) (h2 := (sh_rep m.T m.I m.J)) rfl rfl rfl ?_
                      refine sh_w (i := .imul) (len := 1) (pc2 := 236) (lv2 := [(3, .int x1), (2, .int r1), (0, .ref 67), (1, .int x1)]) (st2 := [.int (256 * r1), .int (m.I 66 11), .ref 69]) (h2 := (sh_rep m.T m.I m.J)) rfl rfl rfl ?_
                      refine sh_w (i := (.aload_n 0)) (len := 1) (pc2 := 237) (lv2 := [(3, .int x1), (2, .int r1), (0, .ref 67), (1, .int x1)]) (st2 := [.ref 67, .int (256 * r1), .int (m.I 66 11), .ref 69]) (h2 := (sh_rep m.T m.I m.J)) rfl rfl rfl ?_
                      refine sh_w (i := (.iload_n 1)) (len := 1) (pc2 := 238) (lv2 := [(3, .int x1), (2, .int r1), (0, .ref 67), (1, .int x1)]) (st2 := [.int x1, .ref 67, .int (256 * r1), .int (m.I 66 11), .ref 69]) (h2 := (sh_rep m.T m.I m.J)) rfl rfl rfl ?_
                      refine sh_w (i := (.iconst 1)) (len := 1) (pc2 := 239) (lv2 := [(3, .int x1), (2, .int r1), (0, .ref 67), (1, .int x1)]) (st2 := [.int 1, .int x1, .ref 67, .int (256 * r1), .int (m.I 66 11), .ref 69]) (h2 := (sh_rep m.T m.I m.J)) rfl rfl rfl ?_
                      refine sh_w (i := .iadd) (len := 1) (pc2 := 240) (lv2 := [(3, .int x1), (2, .int r1), (0, .ref 67), (1, .int x1)]) (st2 := [.int (x1 + 1), .ref 67, .int (256 * r1), .int (m.I 66 11), .ref 69]) (h2 := (sh_rep m.T m.I m.J)) rfl rfl rfl ?_
                      exact kk
                    obtain ⟨r6, e6, e⟩ := sh_bc_e e
                    refine sh_Lk_cV (r := (some (.int r6))) (st2 := [.int r6, .int (256 * r1), .int (m.I 66 11), .ref 69]) (pc2 := 243) (k2 := 249) (a := 66) (as := [.ref 67, .int (x1 + 1)]) (rest := [.int (256 * r1), .int (m.I 66 11), .ref 69]) rfl rfl rfl (fun hT => (sh_s66 hT.st)) rfl rfl ⟨Nat.le_of_ble_eq_true rfl, Nat.le_of_ble_eq_true rfl⟩ (sl_249 e6 ⟨rfl, rfl⟩) rfl rfl (Nat.le_of_ble_eq_true rfl) (Nat.le_of_ble_eq_true rfl) ?_
                    refine sh_Lk_lift (T := m.T) (I := m.I) (J := m.J) (s := m.s) (pc2 := 244) (lv2 := [(3, .int x1), (2, .int r1), (0, .ref 67), (1, .int x1)]) (st2 := [.int ((256 * r1) + r6), .int (m.I 66 11), .ref 69]) (I2 := m.I) (J2 := m.J) (fun hT v kk => ?_) ?_
                    · refine sh_w (i := .iadd) (len := 1) (pc2 := 244) (lv2 := [(3, .int x1), (2, .int r1), (0, .ref 67), (1, .int x1)]) (st2 := [.int ((256 * r1) + r6), .int (m.I 66 11), .ref 69]) (h2 := (sh_rep m.T m.I m.J)) rfl rfl rfl ?_
                      exact kk
                    obtain ⟨c, e⟩ := sh_gd e
                    refine sh_Lk_lift (T := m.T) (I := m.I) (J := m.J) (s := m.s) (pc2 := 281) (lv2 := [(1, .int (x1 + 2)), (3, .int x1), (2, .int r1), (0, .ref 67)]) (st2 := []) (I2 := sh_u2 m.I 68 (Int32.toNatClampNeg (m.I 66 11)) ((256 * r1) + r6)) (J2 := m.J) (fun hT v kk => ?_) ?_
                    · refine sh_is1 (x := (256 * r1) + r6) (i := m.I 66 11) (pc2 := 245) rfl (sh_s68 hT.st) (sh_okb1 c) (sh_okb2 c) rfl ?_
                      refine sh_w (i := (.iinc 1 2)) (len := 3) (pc2 := 248) (lv2 := [(1, .int (x1 + 2)), (3, .int x1), (2, .int r1), (0, .ref 67)]) (st2 := []) (h2 := (sh_rep m.T (sh_u2 m.I 68 (Int32.toNatClampNeg (m.I 66 11)) ((256 * r1) + r6)) m.J)) rfl rfl rfl ?_
                      refine sh_w (i := (.goto 33)) (len := 3) (pc2 := 281) (lv2 := [(1, .int (x1 + 2)), (3, .int x1), (2, .int r1), (0, .ref 67)]) (st2 := []) (h2 := (sh_rep m.T (sh_u2 m.I 68 (Int32.toNatClampNeg (m.I 66 11)) ((256 * r1) + r6)) m.J)) rfl rfl rfl ?_
                      exact kk
                    exact sh_Lk_sub (sh_sub_c rfl (sh_sub_c rfl (sh_sub_c rfl (sh_sub_n)))) (sl_248_281 e tg)
                  · refine sh_Lk_lift (T := m.T) (I := m.I) (J := m.J) (s := m.s) (pc2 := 252) (lv2 := [(3, .int x1), (2, .int r1), (0, .ref 67), (1, .int x1)]) (st2 := [.int r1]) (I2 := m.I) (J2 := m.J) (fun hT v kk => ?_) ?_
                    · refine sh_j0 (c := .eq) (off := (31)) (pc2 := 251) true rfl (sh_Zeqt c) rfl ?_
                      refine sh_w (i := (.iload_n 2)) (len := 1) (pc2 := 252) (lv2 := [(3, .int x1), (2, .int r1), (0, .ref 67), (1, .int x1)]) (st2 := [.int r1]) (h2 := (sh_rep m.T m.I m.J)) rfl rfl rfl ?_
                      exact kk
                    obtain ⟨r7, e7, e⟩ := sh_bc_e e
                    refine sh_Lk_cS (r := (some (.int (sh_b2 r7)))) (st2 := [.int (sh_b2 r7)]) (pc2 := 255) (k2 := 254) (as := [.int r1]) (rest := []) rfl rfl (by decide) (Nat.le_of_ble_eq_true rfl) rfl rfl ⟨Nat.le_of_ble_eq_true rfl, Nat.le_of_ble_eq_true rfl⟩ (sl_254 e7 ⟨rfl, rfl⟩) rfl rfl (Nat.le_of_ble_eq_true rfl) (Nat.le_of_ble_eq_true rfl) ?_
                    rcases sh_ite e with ⟨c, e⟩ | ⟨c, e⟩
                    · refine sh_Lk_lift (T := m.T) (I := m.I) (J := m.J) (s := m.s) (pc2 := 267) (lv2 := [(3, .int x1), (2, .int r1), (0, .ref 67), (1, .int x1)]) (st2 := [.int r1, .int (m.I 66 11), .ref 69]) (I2 := m.I) (J2 := m.J) (fun hT v kk => ?_) ?_
                      · refine sh_j0 (c := .eq) (off := (19)) (pc2 := 258) false rfl (sh_Zeqf c) rfl ?_
                        refine sh_w (i := (.aload_n 0)) (len := 1) (pc2 := 259) (lv2 := [(3, .int x1), (2, .int r1), (0, .ref 67), (1, .int x1)]) (st2 := [.ref 67]) (h2 := (sh_rep m.T m.I m.J)) rfl rfl rfl ?_
                        refine sh_gR1 (len := 3) (x := .ref 69) (pc2 := 262) rfl rfl (sh_s66 hT.st) rfl rfl ?_
                        refine sh_w (i := (.aload_n 0)) (len := 1) (pc2 := 263) (lv2 := [(3, .int x1), (2, .int r1), (0, .ref 67), (1, .int x1)]) (st2 := [.ref 67, .ref 69]) (h2 := (sh_rep m.T m.I m.J)) rfl rfl rfl ?_
                        refine sh_gI1 (len := 3) (x := m.I 66 11) (pc2 := 266) rfl rfl (sh_s66 hT.st) rfl rfl rfl ?_
                        refine sh_w (i := (.iload_n 2)) (len := 1) (pc2 := 267) (lv2 := [(3, .int x1), (2, .int r1), (0, .ref 67), (1, .int x1)]) (st2 := [.int r1, .int (m.I 66 11), .ref 69]) (h2 := (sh_rep m.T m.I m.J)) rfl rfl rfl ?_
                        exact kk
                      obtain ⟨c, e⟩ := sh_gd e
                      refine sh_Lk_lift (T := m.T) (I := m.I) (J := m.J) (s := m.s) (pc2 := 281) (lv2 := [(1, .int (x1 + 1)), (3, .int x1), (2, .int r1), (0, .ref 67)]) (st2 := []) (I2 := sh_u2 m.I 68 (Int32.toNatClampNeg (m.I 66 11)) r1) (J2 := m.J) (fun hT v kk => ?_) ?_
                      · refine sh_is1 (x := r1) (i := m.I 66 11) (pc2 := 268) rfl (sh_s68 hT.st) (sh_okb1 c) (sh_okb2 c) rfl ?_
                        refine sh_w (i := (.iinc 1 1)) (len := 3) (pc2 := 271) (lv2 := [(1, .int (x1 + 1)), (3, .int x1), (2, .int r1), (0, .ref 67)]) (st2 := []) (h2 := (sh_rep m.T (sh_u2 m.I 68 (Int32.toNatClampNeg (m.I 66 11)) r1) m.J)) rfl rfl rfl ?_
                        refine sh_w (i := (.goto 10)) (len := 3) (pc2 := 281) (lv2 := [(1, .int (x1 + 1)), (3, .int x1), (2, .int r1), (0, .ref 67)]) (st2 := []) (h2 := (sh_rep m.T (sh_u2 m.I 68 (Int32.toNatClampNeg (m.I 66 11)) r1) m.J)) rfl rfl rfl ?_
                        exact kk
                      exact sh_Lk_sub (sh_sub_c rfl (sh_sub_c rfl (sh_sub_c rfl (sh_sub_n)))) (sl_248_281 e tg)
                    · refine sh_Lk_lift (T := m.T) (I := m.I) (J := m.J) (s := m.s) (pc2 := 277) (lv2 := [(3, .int x1), (2, .int r1), (0, .ref 67), (1, .int x1)]) (st2 := [.int x1, .int 1, .ref 67]) (I2 := m.I) (J2 := m.J) (fun hT v kk => ?_) ?_
                      · refine sh_j0 (c := .eq) (off := (19)) (pc2 := 274) true rfl (sh_Zeqt c) rfl ?_
                        refine sh_w (i := (.aload_n 0)) (len := 1) (pc2 := 275) (lv2 := [(3, .int x1), (2, .int r1), (0, .ref 67), (1, .int x1)]) (st2 := [.ref 67]) (h2 := (sh_rep m.T m.I m.J)) rfl rfl rfl ?_
                        refine sh_w (i := (.iconst 1)) (len := 1) (pc2 := 276) (lv2 := [(3, .int x1), (2, .int r1), (0, .ref 67), (1, .int x1)]) (st2 := [.int 1, .ref 67]) (h2 := (sh_rep m.T m.I m.J)) rfl rfl rfl ?_
                        refine sh_w (i := (.iload_n 3)) (len := 1) (pc2 := 277) (lv2 := [(3, .int x1), (2, .int r1), (0, .ref 67), (1, .int x1)]) (st2 := [.int x1, .int 1, .ref 67]) (h2 := (sh_rep m.T m.I m.J)) rfl rfl rfl ?_
                        exact kk
                      obtain ⟨r8, m18, e8, e⟩ := sh_bn_e e
                      refine sh_Lk_cV (r := (some (.int (sh_b2 r8)))) (st2 := [.int (sh_b2 r8)]) (pc2 := 280) (k2 := 252) (a := 66) (as := [.ref 67, .int 1, .int x1]) (rest := []) rfl rfl rfl (fun hT => (sh_s66 hT.st)) rfl rfl ⟨Nat.le_of_ble_eq_true rfl, Nat.le_of_ble_eq_true rfl⟩ (sl_252 e8 ⟨rfl, rfl⟩) rfl rfl (Nat.le_of_ble_eq_true rfl) (Nat.le_of_ble_eq_true rfl) ?_
                      obtain rfl := Option.some.inj e
                      obtain ⟨rfl, rfl⟩ := tg
                      exact sh_Lk_ret (i := .ireturn) rfl rfl (sh_rb rfl _) (Nat.le_of_ble_eq_true rfl) (Nat.le_of_ble_eq_true rfl)
  · refine sh_Lk_lift (T := m.T) (I := m.I) (J := m.J) (s := m.s) (pc2 := 325) (lv2 := [(0, .ref 67), (1, .int x1)]) (st2 := [.int 0, .int (m.I 66 11), .ref 69]) (I2 := m.I) (J2 := m.J) (fun hT v kk => ?_) ?_
    · refine sh_jc (c := .ge) (off := (304)) (pc2 := 316) true rfl (sh_Bget c) rfl ?_
      refine sh_w (i := (.aload_n 0)) (len := 1) (pc2 := 317) (lv2 := [(0, .ref 67), (1, .int x1)]) (st2 := [.ref 67]) (h2 := (sh_rep m.T m.I m.J)) rfl rfl rfl ?_
      refine sh_gR1 (len := 3) (x := .ref 69) (pc2 := 320) rfl rfl (sh_s66 hT.st) rfl rfl ?_
      refine sh_w (i := (.aload_n 0)) (len := 1) (pc2 := 321) (lv2 := [(0, .ref 67), (1, .int x1)]) (st2 := [.ref 67, .ref 69]) (h2 := (sh_rep m.T m.I m.J)) rfl rfl rfl ?_
      refine sh_gI1 (len := 3) (x := m.I 66 11) (pc2 := 324) rfl rfl (sh_s66 hT.st) rfl rfl rfl ?_
      refine sh_w (i := (.iconst 0)) (len := 1) (pc2 := 325) (lv2 := [(0, .ref 67), (1, .int x1)]) (st2 := [.int 0, .int (m.I 66 11), .ref 69]) (h2 := (sh_rep m.T m.I m.J)) rfl rfl rfl ?_
      exact kk
    obtain ⟨c, e⟩ := sh_gd e
    refine sh_Lk_lift (T := m.T) (I := m.I) (J := m.J) (s := m.s) (pc2 := 338) (lv2 := [(0, .ref 67), (1, .int x1)]) (st2 := [.int (m.I 66 3), .int (m.I 66 11), .ref 70]) (I2 := sh_u2 m.I 68 (Int32.toNatClampNeg (m.I 66 11)) 0) (J2 := m.J) (fun hT v kk => ?_) ?_
    · refine sh_is1 (x := 0) (i := m.I 66 11) (pc2 := 326) rfl (sh_s68 hT.st) (sh_okb1 c) (sh_okb2 c) rfl ?_
      refine sh_w (i := (.aload_n 0)) (len := 1) (pc2 := 327) (lv2 := [(0, .ref 67), (1, .int x1)]) (st2 := [.ref 67]) (h2 := (sh_rep m.T (sh_u2 m.I 68 (Int32.toNatClampNeg (m.I 66 11)) 0) m.J)) rfl rfl rfl ?_
      refine sh_gR1 (len := 3) (x := .ref 70) (pc2 := 330) rfl rfl (sh_s66 hT.st) rfl rfl ?_
      refine sh_w (i := (.aload_n 0)) (len := 1) (pc2 := 331) (lv2 := [(0, .ref 67), (1, .int x1)]) (st2 := [.ref 67, .ref 70]) (h2 := (sh_rep m.T (sh_u2 m.I 68 (Int32.toNatClampNeg (m.I 66 11)) 0) m.J)) rfl rfl rfl ?_
      refine sh_gI1 (len := 3) (x := m.I 66 11) (pc2 := 334) rfl rfl (sh_s66 hT.st) rfl rfl rfl ?_
      refine sh_w (i := (.aload_n 0)) (len := 1) (pc2 := 335) (lv2 := [(0, .ref 67), (1, .int x1)]) (st2 := [.ref 67, .int (m.I 66 11), .ref 70]) (h2 := (sh_rep m.T (sh_u2 m.I 68 (Int32.toNatClampNeg (m.I 66 11)) 0) m.J)) rfl rfl rfl ?_
      refine sh_gI1 (len := 3) (x := m.I 66 3) (pc2 := 338) rfl rfl (sh_s66 hT.st) rfl rfl rfl ?_
      exact kk
    obtain ⟨c, e⟩ := sh_gd e
    refine sh_Lk_lift (T := m.T) (I := sh_u2 m.I 68 (Int32.toNatClampNeg (m.I 66 11)) 0) (J := m.J) (s := m.s) (pc2 := 348) (lv2 := [(0, .ref 67), (1, .int x1)]) (st2 := [.int 0, .int (m.I 66 11), .ref 71]) (I2 := sh_u2 (sh_u2 m.I 68 (Int32.toNatClampNeg (m.I 66 11)) 0) 69 (Int32.toNatClampNeg (m.I 66 11)) (m.I 66 3)) (J2 := m.J) (fun hT v kk => ?_) ?_
    · refine sh_is1 (x := m.I 66 3) (i := m.I 66 11) (pc2 := 339) rfl (sh_s69 hT.st) (sh_okb1 c) (sh_okb2 c) rfl ?_
      refine sh_w (i := (.aload_n 0)) (len := 1) (pc2 := 340) (lv2 := [(0, .ref 67), (1, .int x1)]) (st2 := [.ref 67]) (h2 := (sh_rep m.T (sh_u2 (sh_u2 m.I 68 (Int32.toNatClampNeg (m.I 66 11)) 0) 69 (Int32.toNatClampNeg (m.I 66 11)) (m.I 66 3)) m.J)) rfl rfl rfl ?_
      refine sh_gR1 (len := 3) (x := .ref 71) (pc2 := 343) rfl rfl (sh_s66 hT.st) rfl rfl ?_
      refine sh_w (i := (.aload_n 0)) (len := 1) (pc2 := 344) (lv2 := [(0, .ref 67), (1, .int x1)]) (st2 := [.ref 67, .ref 71]) (h2 := (sh_rep m.T (sh_u2 (sh_u2 m.I 68 (Int32.toNatClampNeg (m.I 66 11)) 0) 69 (Int32.toNatClampNeg (m.I 66 11)) (m.I 66 3)) m.J)) rfl rfl rfl ?_
      refine sh_gI1 (len := 3) (x := m.I 66 11) (pc2 := 347) rfl rfl (sh_s66 hT.st) rfl rfl rfl ?_
      refine sh_w (i := (.iconst 0)) (len := 1) (pc2 := 348) (lv2 := [(0, .ref 67), (1, .int x1)]) (st2 := [.int 0, .int (m.I 66 11), .ref 71]) (h2 := (sh_rep m.T (sh_u2 (sh_u2 m.I 68 (Int32.toNatClampNeg (m.I 66 11)) 0) 69 (Int32.toNatClampNeg (m.I 66 11)) (m.I 66 3)) m.J)) rfl rfl rfl ?_
      exact kk
    obtain ⟨c, e⟩ := sh_gd e
    refine sh_Lk_lift (T := m.T) (I := sh_u2 (sh_u2 m.I 68 (Int32.toNatClampNeg (m.I 66 11)) 0) 69 (Int32.toNatClampNeg (m.I 66 11)) (m.I 66 3)) (J := m.J) (s := m.s) (pc2 := 350) (lv2 := [(0, .ref 67), (1, .int x1)]) (st2 := [.int 1]) (I2 := sh_u2 (sh_u2 (sh_u2 m.I 68 (Int32.toNatClampNeg (m.I 66 11)) 0) 69 (Int32.toNatClampNeg (m.I 66 11)) (m.I 66 3)) 70 (Int32.toNatClampNeg (m.I 66 11)) 0) (J2 := m.J) (fun hT v kk => ?_) ?_
    · refine sh_is1 (x := 0) (i := m.I 66 11) (pc2 := 349) rfl (sh_s70 hT.st) (sh_okb1 c) (sh_okb2 c) rfl ?_
      refine sh_w (i := (.iconst 1)) (len := 1) (pc2 := 350) (lv2 := [(0, .ref 67), (1, .int x1)]) (st2 := [.int 1]) (h2 := (sh_rep m.T (sh_u2 (sh_u2 (sh_u2 m.I 68 (Int32.toNatClampNeg (m.I 66 11)) 0) 69 (Int32.toNatClampNeg (m.I 66 11)) (m.I 66 3)) 70 (Int32.toNatClampNeg (m.I 66 11)) 0) m.J)) rfl rfl rfl ?_
      exact kk
    obtain rfl := Option.some.inj e
    obtain ⟨rfl, rfl⟩ := tg
    exact sh_Lk_ret (i := .ireturn) rfl rfl rfl (Nat.le_of_ble_eq_true rfl) (Nat.le_of_ble_eq_true rfl)
theorem sl_248_7 {x1 : Int32} {m m2 : sh_X} {o : Outcome} {z : (Bool × sh_X)} (e : sf_248_7 x1 m = some z) (tg : (sh_tZ o m2) z) : sh_Lk 248 7 [(0, .ref 67), (1, .int x1)] [] m o m2 31 621 := by
  unfold sf_248_7 at e
  exact sh_while_lk (P := fun q => sh_Lk 248 7 [(0, .ref 67), (1, .int q.1)] [] q.2 o m2 31 621) (Q := (sh_tZ o m2)) (fun q z e tg => sl_248_7s (x1 := q.1) (m := q.2) e tg) (s := (x1, m)) e tg
theorem sl_248 {m m2 : sh_X} {o : Outcome} {z : (Bool × sh_X)} (e : sf_248 m = some z) (tg : (sh_tZ o m2) z) : sh_Lk 248 0 [(0, .ref 67)] [] m o m2 31 621 := by
  unfold sf_248 at e
  refine sh_Lk_lift (T := m.T) (I := m.I) (J := m.J) (s := m.s) (pc2 := 7) (lv2 := [(1, .int 0), (0, .ref 67)]) (st2 := []) (I2 := sh_u2 m.I 66 11 0) (J2 := m.J) (fun hT v kk => ?_) ?_
  · refine sh_w (i := (.aload_n 0)) (len := 1) (pc2 := 1) (lv2 := [(0, .ref 67)]) (st2 := [.ref 67]) (h2 := (sh_rep m.T m.I m.J)) rfl rfl rfl ?_
    refine sh_w (i := (.iconst 0)) (len := 1) (pc2 := 2) (lv2 := [(0, .ref 67)]) (st2 := [.int 0, .ref 67]) (h2 := (sh_rep m.T m.I m.J)) rfl rfl rfl ?_
    refine sh_pI1 (x := 0) (pc2 := 5) rfl rfl (sh_s66 hT.st) rfl rfl rfl rfl ?_
    refine sh_w (i := (.iconst 0)) (len := 1) (pc2 := 6) (lv2 := [(0, .ref 67)]) (st2 := [.int 0]) (h2 := (sh_rep m.T (sh_u2 m.I 66 11 0) m.J)) rfl rfl rfl ?_
    refine sh_w (i := (.istore_n 1)) (len := 1) (pc2 := 7) (lv2 := [(1, .int 0), (0, .ref 67)]) (st2 := []) (h2 := (sh_rep m.T (sh_u2 m.I 66 11 0) m.J)) rfl rfl rfl ?_
    exact kk
  exact sh_Lk_sub (sh_sub_c rfl (sh_sub_c rfl (sh_sub_n))) (sl_248_7 e tg)
theorem sl_256_27s {x1 : Int32} {x2 : Nat} {x3 : Int32} {m m2 : sh_X} {o : Outcome} {z : (Int32 ⊕ Bool)} (e : sf_256_27s x1 x2 x3 m = some z) (tg : (sh_el (fun q => sh_Lk 256 27 [(0, .ref 67), (1, .int x1), (2, .ref (1000001 + x2)), (3, .int q)] [] m o m2 30 600) (sh_tZc m o m2)) z) : sh_Lk 256 27 [(0, .ref 67), (1, .int x1), (2, .ref (1000001 + x2)), (3, .int x3)] [] m o m2 30 600 := by
  unfold sf_256_27s at e
  refine sh_Lk_lift (T := m.T) (I := m.I) (J := m.J) (s := m.s) (pc2 := 33) (lv2 := [(0, .ref 67), (1, .int x1), (2, .ref (1000001 + x2)), (3, .int x3)]) (st2 := [.int x1, .ref 71, .int x3]) (I2 := m.I) (J2 := m.J) (fun hT v kk => ?_) ?_
  · refine sh_w (i := (.iload_n 3)) (len := 1) (pc2 := 28) (lv2 := [(0, .ref 67), (1, .int x1), (2, .ref (1000001 + x2)), (3, .int x3)]) (st2 := [.int x3]) (h2 := (sh_rep m.T m.I m.J)) rfl rfl rfl ?_
    refine sh_w (i := (.aload_n 0)) (len := 1) (pc2 := 29) (lv2 := [(0, .ref 67), (1, .int x1), (2, .ref (1000001 + x2)), (3, .int x3)]) (st2 := [.ref 67, .int x3]) (h2 := (sh_rep m.T m.I m.J)) rfl rfl rfl ?_
    refine sh_gR1 (len := 3) (x := .ref 71) (pc2 := 32) rfl rfl (sh_s66 hT.st) rfl rfl ?_
    refine sh_w (i := (.iload_n 1)) (len := 1) (pc2 := 33) (lv2 := [(0, .ref 67), (1, .int x1), (2, .ref (1000001 + x2)), (3, .int x3)]) (st2 := [.int x1, .ref 71, .int x3]) (h2 := (sh_rep m.T m.I m.J)) rfl rfl rfl ?_
    exact kk
  obtain ⟨c, e⟩ := sh_gd e
  refine sh_Lk_lift (T := m.T) (I := m.I) (J := m.J) (s := m.s) (pc2 := 34) (lv2 := [(0, .ref 67), (1, .int x1), (2, .ref (1000001 + x2)), (3, .int x3)]) (st2 := [.int (m.I 70 (Int32.toNatClampNeg x1)), .int x3]) (I2 := m.I) (J2 := m.J) (fun hT v kk => ?_) ?_
  · refine sh_ia1 (x := m.I 70 (Int32.toNatClampNeg x1)) (pc2 := 34) rfl (sh_s70 hT.st) (sh_okb1 c) (sh_okb2 c) rfl rfl ?_
    exact kk
  rcases sh_ite e with ⟨c, e⟩ | ⟨c, e⟩
  · refine sh_Lk_lift (T := m.T) (I := m.I) (J := m.J) (s := m.s) (pc2 := 46) (lv2 := [(0, .ref 67), (1, .int x1), (2, .ref (1000001 + x2)), (3, .int x3)]) (st2 := [.int x1, .ref 70, .ref 68]) (I2 := m.I) (J2 := m.J) (fun hT v kk => ?_) ?_
    · refine sh_jc (c := .ge) (off := (32)) (pc2 := 37) false rfl (sh_Bgef c) rfl ?_
      refine sh_w (i := (.aload_n 0)) (len := 1) (pc2 := 38) (lv2 := [(0, .ref 67), (1, .int x1), (2, .ref (1000001 + x2)), (3, .int x3)]) (st2 := [.ref 67]) (h2 := (sh_rep m.T m.I m.J)) rfl rfl rfl ?_
      refine sh_gR1 (len := 3) (x := .ref 68) (pc2 := 41) rfl rfl (sh_s66 hT.st) rfl rfl ?_
      refine sh_w (i := (.aload_n 0)) (len := 1) (pc2 := 42) (lv2 := [(0, .ref 67), (1, .int x1), (2, .ref (1000001 + x2)), (3, .int x3)]) (st2 := [.ref 67, .ref 68]) (h2 := (sh_rep m.T m.I m.J)) rfl rfl rfl ?_
      refine sh_gR1 (len := 3) (x := .ref 70) (pc2 := 45) rfl rfl (sh_s66 hT.st) rfl rfl ?_
      refine sh_w (i := (.iload_n 1)) (len := 1) (pc2 := 46) (lv2 := [(0, .ref 67), (1, .int x1), (2, .ref (1000001 + x2)), (3, .int x3)]) (st2 := [.int x1, .ref 70, .ref 68]) (h2 := (sh_rep m.T m.I m.J)) rfl rfl rfl ?_
      exact kk
    obtain ⟨c, e⟩ := sh_gd e
    refine sh_Lk_lift (T := m.T) (I := m.I) (J := m.J) (s := m.s) (pc2 := 49) (lv2 := [(0, .ref 67), (1, .int x1), (2, .ref (1000001 + x2)), (3, .int x3)]) (st2 := [.int ((m.I 69 (Int32.toNatClampNeg x1)) + x3), .ref 68]) (I2 := m.I) (J2 := m.J) (fun hT v kk => ?_) ?_
    · refine sh_ia1 (x := m.I 69 (Int32.toNatClampNeg x1)) (pc2 := 47) rfl (sh_s69 hT.st) (sh_okb1 c) (sh_okb2 c) rfl rfl ?_
      refine sh_w (i := (.iload_n 3)) (len := 1) (pc2 := 48) (lv2 := [(0, .ref 67), (1, .int x1), (2, .ref (1000001 + x2)), (3, .int x3)]) (st2 := [.int x3, .int (m.I 69 (Int32.toNatClampNeg x1)), .ref 68]) (h2 := (sh_rep m.T m.I m.J)) rfl rfl rfl ?_
      refine sh_w (i := .iadd) (len := 1) (pc2 := 49) (lv2 := [(0, .ref 67), (1, .int x1), (2, .ref (1000001 + x2)), (3, .int x3)]) (st2 := [.int ((m.I 69 (Int32.toNatClampNeg x1)) + x3), .ref 68]) (h2 := (sh_rep m.T m.I m.J)) rfl rfl rfl ?_
      exact kk
    obtain ⟨c, e⟩ := sh_gd e
    refine sh_Lk_lift (T := m.T) (I := m.I) (J := m.J) (s := m.s) (pc2 := 52) (lv2 := [(0, .ref 67), (1, .int x1), (2, .ref (1000001 + x2)), (3, .int x3)]) (st2 := [.int x3, .ref (1000001 + x2), .int (m.I 67 (Int32.toNatClampNeg ((m.I 69 (Int32.toNatClampNeg x1)) + x3)))]) (I2 := m.I) (J2 := m.J) (fun hT v kk => ?_) ?_
    · refine sh_ba1 (x := m.I 67 (Int32.toNatClampNeg ((m.I 69 (Int32.toNatClampNeg x1)) + x3))) (pc2 := 50) rfl (sh_s67 hT.st) (Or.inl rfl) (sh_okb1 c) (sh_okb2 c) rfl rfl ?_
      refine sh_w (i := (.aload_n 2)) (len := 1) (pc2 := 51) (lv2 := [(0, .ref 67), (1, .int x1), (2, .ref (1000001 + x2)), (3, .int x3)]) (st2 := [.ref (1000001 + x2), .int (m.I 67 (Int32.toNatClampNeg ((m.I 69 (Int32.toNatClampNeg x1)) + x3)))]) (h2 := (sh_rep m.T m.I m.J)) rfl rfl rfl ?_
      refine sh_w (i := (.iload_n 3)) (len := 1) (pc2 := 52) (lv2 := [(0, .ref 67), (1, .int x1), (2, .ref (1000001 + x2)), (3, .int x3)]) (st2 := [.int x3, .ref (1000001 + x2), .int (m.I 67 (Int32.toNatClampNeg ((m.I 69 (Int32.toNatClampNeg x1)) + x3)))]) (h2 := (sh_rep m.T m.I m.J)) rfl rfl rfl ?_
      exact kk
    obtain ⟨c, e⟩ := sh_gd e
    refine sh_Lk_tc (j := x2) (pc2 := 55) rfl rfl rfl c (Nat.le_of_ble_eq_true rfl) rfl (Nat.le_of_ble_eq_true rfl) (Nat.le_of_ble_eq_true rfl) ?_
    rcases sh_ite e with ⟨c, e⟩ | ⟨c, e⟩
    · refine sh_Lk_lift (T := m.T) (I := m.I) (J := m.J) (s := m.s) (pc2 := 27) (lv2 := [(3, .int (x3 + 1)), (0, .ref 67), (1, .int x1), (2, .ref (1000001 + x2))]) (st2 := []) (I2 := m.I) (J2 := m.J) (fun hT v kk => ?_) ?_
      · refine sh_jc (c := .eq) (off := (5)) (pc2 := 60) true rfl (sh_Beqt c) rfl ?_
        refine sh_w (i := (.iinc 3 1)) (len := 3) (pc2 := 63) (lv2 := [(3, .int (x3 + 1)), (0, .ref 67), (1, .int x1), (2, .ref (1000001 + x2))]) (st2 := []) (h2 := (sh_rep m.T m.I m.J)) rfl rfl rfl ?_
        refine sh_w (i := (.goto (-36))) (len := 3) (pc2 := 27) (lv2 := [(3, .int (x3 + 1)), (0, .ref 67), (1, .int x1), (2, .ref (1000001 + x2))]) (st2 := []) (h2 := (sh_rep m.T m.I m.J)) rfl rfl rfl ?_
        exact kk
      obtain rfl := Option.some.inj e
      exact sh_Lk_sub (sh_sub_c rfl (sh_sub_c rfl (sh_sub_c rfl (sh_sub_c rfl (sh_sub_n))))) tg
    · refine sh_Lk_lift (T := m.T) (I := m.I) (J := m.J) (s := m.s) (pc2 := 59) (lv2 := [(0, .ref 67), (1, .int x1), (2, .ref (1000001 + x2)), (3, .int x3)]) (st2 := [.int 0]) (I2 := m.I) (J2 := m.J) (fun hT v kk => ?_) ?_
      · refine sh_jc (c := .eq) (off := (5)) (pc2 := 58) false rfl (sh_Beqf c) rfl ?_
        refine sh_w (i := (.iconst 0)) (len := 1) (pc2 := 59) (lv2 := [(0, .ref 67), (1, .int x1), (2, .ref (1000001 + x2)), (3, .int x3)]) (st2 := [.int 0]) (h2 := (sh_rep m.T m.I m.J)) rfl rfl rfl ?_
        exact kk
      obtain rfl := Option.some.inj e
      obtain ⟨rfl, rfl⟩ := tg
      exact sh_Lk_ret (i := .ireturn) rfl rfl rfl (Nat.le_of_ble_eq_true rfl) (Nat.le_of_ble_eq_true rfl)
  · refine sh_Lk_lift (T := m.T) (I := m.I) (J := m.J) (s := m.s) (pc2 := 67) (lv2 := [(0, .ref 67), (1, .int x1), (2, .ref (1000001 + x2)), (3, .int x3)]) (st2 := [.int 1]) (I2 := m.I) (J2 := m.J) (fun hT v kk => ?_) ?_
    · refine sh_jc (c := .ge) (off := (32)) (pc2 := 66) true rfl (sh_Bget c) rfl ?_
      refine sh_w (i := (.iconst 1)) (len := 1) (pc2 := 67) (lv2 := [(0, .ref 67), (1, .int x1), (2, .ref (1000001 + x2)), (3, .int x3)]) (st2 := [.int 1]) (h2 := (sh_rep m.T m.I m.J)) rfl rfl rfl ?_
      exact kk
    obtain rfl := Option.some.inj e
    obtain ⟨rfl, rfl⟩ := tg
    exact sh_Lk_ret (i := .ireturn) rfl rfl rfl (Nat.le_of_ble_eq_true rfl) (Nat.le_of_ble_eq_true rfl)
theorem sl_256_27 {x1 : Int32} {x2 : Nat} {x3 : Int32} {m m2 : sh_X} {o : Outcome} {z : Bool} (e : sf_256_27 x1 x2 x3 m = some z) (tg : (sh_tZc m o m2) z) : sh_Lk 256 27 [(0, .ref 67), (1, .int x1), (2, .ref (1000001 + x2)), (3, .int x3)] [] m o m2 30 600 := by
  unfold sf_256_27 at e
  exact sh_while_lk (P := fun q => sh_Lk 256 27 [(0, .ref 67), (1, .int x1), (2, .ref (1000001 + x2)), (3, .int q)] [] m o m2 30 600) (Q := (sh_tZc m o m2)) (fun q z e tg => sl_256_27s (x1 := x1) (x2 := x2) (x3 := q) (m := m) e tg) (s := x3) e tg
theorem sl_256 {x1 : Int32} {x2 : Nat} {m m2 : sh_X} {o : Outcome} {z : Bool} (e : sf_256 x1 x2 m = some z) (tg : (sh_tZc m o m2) z) : sh_Lk 256 0 [(0, .ref 67), (1, .int x1), (2, .ref (1000001 + x2))] [] m o m2 30 600 := by
  unfold sf_256 at e
  refine sh_Lk_lift (T := m.T) (I := m.I) (J := m.J) (s := m.s) (pc2 := 5) (lv2 := [(0, .ref 67), (1, .int x1), (2, .ref (1000001 + x2))]) (st2 := [.int x1, .ref 69]) (I2 := m.I) (J2 := m.J) (fun hT v kk => ?_) ?_
  · refine sh_w (i := (.aload_n 0)) (len := 1) (pc2 := 1) (lv2 := [(0, .ref 67), (1, .int x1), (2, .ref (1000001 + x2))]) (st2 := [.ref 67]) (h2 := (sh_rep m.T m.I m.J)) rfl rfl rfl ?_
    refine sh_gR1 (len := 3) (x := .ref 69) (pc2 := 4) rfl rfl (sh_s66 hT.st) rfl rfl ?_
    refine sh_w (i := (.iload_n 1)) (len := 1) (pc2 := 5) (lv2 := [(0, .ref 67), (1, .int x1), (2, .ref (1000001 + x2))]) (st2 := [.int x1, .ref 69]) (h2 := (sh_rep m.T m.I m.J)) rfl rfl rfl ?_
    exact kk
  obtain ⟨c, e⟩ := sh_gd e
  refine sh_Lk_lift (T := m.T) (I := m.I) (J := m.J) (s := m.s) (pc2 := 7) (lv2 := [(0, .ref 67), (1, .int x1), (2, .ref (1000001 + x2))]) (st2 := [.int 1, .int (m.I 68 (Int32.toNatClampNeg x1))]) (I2 := m.I) (J2 := m.J) (fun hT v kk => ?_) ?_
  · refine sh_ia1 (x := m.I 68 (Int32.toNatClampNeg x1)) (pc2 := 6) rfl (sh_s68 hT.st) (sh_okb1 c) (sh_okb2 c) rfl rfl ?_
    refine sh_w (i := (.iconst 1)) (len := 1) (pc2 := 7) (lv2 := [(0, .ref 67), (1, .int x1), (2, .ref (1000001 + x2))]) (st2 := [.int 1, .int (m.I 68 (Int32.toNatClampNeg x1))]) (h2 := (sh_rep m.T m.I m.J)) rfl rfl rfl ?_
    exact kk
  rcases sh_ite e with ⟨c, e⟩ | ⟨c, e⟩
  · refine sh_Lk_lift (T := m.T) (I := m.I) (J := m.J) (s := m.s) (pc2 := 15) (lv2 := [(0, .ref 67), (1, .int x1), (2, .ref (1000001 + x2))]) (st2 := [.int x1, .ref 71]) (I2 := m.I) (J2 := m.J) (fun hT v kk => ?_) ?_
    · refine sh_jc (c := .ne) (off := (16)) (pc2 := 10) false rfl (sh_Bnef c) rfl ?_
      refine sh_w (i := (.aload_n 0)) (len := 1) (pc2 := 11) (lv2 := [(0, .ref 67), (1, .int x1), (2, .ref (1000001 + x2))]) (st2 := [.ref 67]) (h2 := (sh_rep m.T m.I m.J)) rfl rfl rfl ?_
      refine sh_gR1 (len := 3) (x := .ref 71) (pc2 := 14) rfl rfl (sh_s66 hT.st) rfl rfl ?_
      refine sh_w (i := (.iload_n 1)) (len := 1) (pc2 := 15) (lv2 := [(0, .ref 67), (1, .int x1), (2, .ref (1000001 + x2))]) (st2 := [.int x1, .ref 71]) (h2 := (sh_rep m.T m.I m.J)) rfl rfl rfl ?_
      exact kk
    obtain ⟨c, e⟩ := sh_gd e
    refine sh_Lk_lift (T := m.T) (I := m.I) (J := m.J) (s := m.s) (pc2 := 17) (lv2 := [(0, .ref 67), (1, .int x1), (2, .ref (1000001 + x2))]) (st2 := [.ref (1000001 + x2), .int (m.I 70 (Int32.toNatClampNeg x1))]) (I2 := m.I) (J2 := m.J) (fun hT v kk => ?_) ?_
    · refine sh_ia1 (x := m.I 70 (Int32.toNatClampNeg x1)) (pc2 := 16) rfl (sh_s70 hT.st) (sh_okb1 c) (sh_okb2 c) rfl rfl ?_
      refine sh_w (i := (.aload_n 2)) (len := 1) (pc2 := 17) (lv2 := [(0, .ref 67), (1, .int x1), (2, .ref (1000001 + x2))]) (st2 := [.ref (1000001 + x2), .int (m.I 70 (Int32.toNatClampNeg x1))]) (h2 := (sh_rep m.T m.I m.J)) rfl rfl rfl ?_
      exact kk
    obtain ⟨c, e⟩ := sh_gd e
    refine sh_Lk_tl (j := x2) (pc2 := 20) rfl rfl rfl c (Nat.le_of_ble_eq_true rfl) rfl (Nat.le_of_ble_eq_true rfl) (Nat.le_of_ble_eq_true rfl) ?_
    rcases sh_ite e with ⟨c, e⟩ | ⟨c, e⟩
    · refine sh_Lk_lift (T := m.T) (I := m.I) (J := m.J) (s := m.s) (pc2 := 27) (lv2 := [(3, .int 0), (0, .ref 67), (1, .int x1), (2, .ref (1000001 + x2))]) (st2 := []) (I2 := m.I) (J2 := m.J) (fun hT v kk => ?_) ?_
      · refine sh_jc (c := .eq) (off := (5)) (pc2 := 25) true rfl (sh_Beqt c) rfl ?_
        refine sh_w (i := (.iconst 0)) (len := 1) (pc2 := 26) (lv2 := [(0, .ref 67), (1, .int x1), (2, .ref (1000001 + x2))]) (st2 := [.int 0]) (h2 := (sh_rep m.T m.I m.J)) rfl rfl rfl ?_
        refine sh_w (i := (.istore_n 3)) (len := 1) (pc2 := 27) (lv2 := [(3, .int 0), (0, .ref 67), (1, .int x1), (2, .ref (1000001 + x2))]) (st2 := []) (h2 := (sh_rep m.T m.I m.J)) rfl rfl rfl ?_
        exact kk
      exact sh_Lk_sub (sh_sub_c rfl (sh_sub_c rfl (sh_sub_c rfl (sh_sub_c rfl (sh_sub_n))))) (sl_256_27 e tg)
    · refine sh_Lk_lift (T := m.T) (I := m.I) (J := m.J) (s := m.s) (pc2 := 24) (lv2 := [(0, .ref 67), (1, .int x1), (2, .ref (1000001 + x2))]) (st2 := [.int 0]) (I2 := m.I) (J2 := m.J) (fun hT v kk => ?_) ?_
      · refine sh_jc (c := .eq) (off := (5)) (pc2 := 23) false rfl (sh_Beqf c) rfl ?_
        refine sh_w (i := (.iconst 0)) (len := 1) (pc2 := 24) (lv2 := [(0, .ref 67), (1, .int x1), (2, .ref (1000001 + x2))]) (st2 := [.int 0]) (h2 := (sh_rep m.T m.I m.J)) rfl rfl rfl ?_
        exact kk
      obtain rfl := Option.some.inj e
      obtain ⟨rfl, rfl⟩ := tg
      exact sh_Lk_ret (i := .ireturn) rfl rfl rfl (Nat.le_of_ble_eq_true rfl) (Nat.le_of_ble_eq_true rfl)
  · refine sh_Lk_lift (T := m.T) (I := m.I) (J := m.J) (s := m.s) (pc2 := 24) (lv2 := [(0, .ref 67), (1, .int x1), (2, .ref (1000001 + x2))]) (st2 := [.int 0]) (I2 := m.I) (J2 := m.J) (fun hT v kk => ?_) ?_
    · refine sh_jc (c := .ne) (off := (16)) (pc2 := 23) true rfl (sh_Bnet c) rfl ?_
      refine sh_w (i := (.iconst 0)) (len := 1) (pc2 := 24) (lv2 := [(0, .ref 67), (1, .int x1), (2, .ref (1000001 + x2))]) (st2 := [.int 0]) (h2 := (sh_rep m.T m.I m.J)) rfl rfl rfl ?_
      exact kk
    obtain rfl := Option.some.inj e
    obtain ⟨rfl, rfl⟩ := tg
    exact sh_Lk_ret (i := .ireturn) rfl rfl rfl (Nat.le_of_ble_eq_true rfl) (Nat.le_of_ble_eq_true rfl)
theorem sl_260_139 {m m2 : sh_X} {o : Outcome} {z : Bool} (e : sf_260_139 m = some z) (tg : (sh_tZc m o m2) z) : sh_Lk 260 139 [] [] m o m2 31 623 := by
  unfold sf_260_139 at e
  refine sh_Lk_lift (T := m.T) (I := m.I) (J := m.J) (s := m.s) (pc2 := 144) (lv2 := []) (st2 := [.int 1]) (I2 := m.I) (J2 := m.J) (fun hT v kk => ?_) ?_
  · refine sh_w (i := (.iconst 1)) (len := 1) (pc2 := 140) (lv2 := []) (st2 := [.int 1]) (h2 := (sh_rep m.T m.I m.J)) rfl rfl rfl ?_
    refine sh_w (i := (.goto 4)) (len := 3) (pc2 := 144) (lv2 := []) (st2 := [.int 1]) (h2 := (sh_rep m.T m.I m.J)) rfl rfl rfl ?_
    exact kk
  obtain rfl := Option.some.inj e
  obtain ⟨rfl, rfl⟩ := tg
  exact sh_Lk_ret (i := .ireturn) rfl rfl rfl (Nat.le_of_ble_eq_true rfl) (Nat.le_of_ble_eq_true rfl)
theorem sl_260 {x1 : Int32} {m m2 : sh_X} {o : Outcome} {z : Bool} (e : sf_260 x1 m = some z) (tg : (sh_tZc m o m2) z) : sh_Lk 260 0 [(0, .ref 67), (1, .int x1)] [] m o m2 31 623 := by
  unfold sf_260 at e
  refine sh_Lk_lift (T := m.T) (I := m.I) (J := m.J) (s := m.s) (pc2 := 4) (lv2 := [(0, .ref 67), (1, .int x1)]) (st2 := [.ref 1000009, .int x1, .ref 67]) (I2 := m.I) (J2 := m.J) (fun hT v kk => ?_) ?_
  · refine sh_w (i := (.aload_n 0)) (len := 1) (pc2 := 1) (lv2 := [(0, .ref 67), (1, .int x1)]) (st2 := [.ref 67]) (h2 := (sh_rep m.T m.I m.J)) rfl rfl rfl ?_
    refine sh_w (i := (.iload_n 1)) (len := 1) (pc2 := 2) (lv2 := [(0, .ref 67), (1, .int x1)]) (st2 := [.int x1, .ref 67]) (h2 := (sh_rep m.T m.I m.J)) rfl rfl rfl ?_
    refine sh_w (i := (.ldc 250)) (len := 2) (pc2 := 4) (lv2 := [(0, .ref 67), (1, .int x1)]) (st2 := [.ref 1000009, .int x1, .ref 67]) (h2 := (sh_rep m.T m.I m.J)) rfl rfl rfl ?_
    exact kk
  obtain ⟨r1, e1, e⟩ := sh_bc_e e
  refine sh_Lk_cV (r := (some (.int (sh_b2 r1)))) (st2 := [.int (sh_b2 r1)]) (pc2 := 7) (k2 := 256) (a := 66) (as := [.ref 67, .int x1, .ref 1000009]) (rest := []) rfl rfl rfl (fun hT => (sh_s66 hT.st)) rfl rfl ⟨Nat.le_of_ble_eq_true rfl, Nat.le_of_ble_eq_true rfl⟩ (sl_256 e1 ⟨rfl, rfl⟩) rfl rfl (Nat.le_of_ble_eq_true rfl) (Nat.le_of_ble_eq_true rfl) ?_
  rcases sh_ite e with ⟨c, e⟩ | ⟨c, e⟩
  · refine sh_Lk_lift (T := m.T) (I := m.I) (J := m.J) (s := m.s) (pc2 := 139) (lv2 := [(0, .ref 67), (1, .int x1)]) (st2 := []) (I2 := m.I) (J2 := m.J) (fun hT v kk => ?_) ?_
    · refine sh_j0 (c := .ne) (off := (132)) (pc2 := 139) true rfl (sh_Znet c) rfl ?_
      exact kk
    exact sh_Lk_sub (sh_sub_n) (sl_260_139 e tg)
  · refine sh_Lk_lift (T := m.T) (I := m.I) (J := m.J) (s := m.s) (pc2 := 14) (lv2 := [(0, .ref 67), (1, .int x1)]) (st2 := [.ref 1000010, .int x1, .ref 67]) (I2 := m.I) (J2 := m.J) (fun hT v kk => ?_) ?_
    · refine sh_j0 (c := .ne) (off := (132)) (pc2 := 10) false rfl (sh_Znef c) rfl ?_
      refine sh_w (i := (.aload_n 0)) (len := 1) (pc2 := 11) (lv2 := [(0, .ref 67), (1, .int x1)]) (st2 := [.ref 67]) (h2 := (sh_rep m.T m.I m.J)) rfl rfl rfl ?_
      refine sh_w (i := (.iload_n 1)) (len := 1) (pc2 := 12) (lv2 := [(0, .ref 67), (1, .int x1)]) (st2 := [.int x1, .ref 67]) (h2 := (sh_rep m.T m.I m.J)) rfl rfl rfl ?_
      refine sh_w (i := (.ldc 252)) (len := 2) (pc2 := 14) (lv2 := [(0, .ref 67), (1, .int x1)]) (st2 := [.ref 1000010, .int x1, .ref 67]) (h2 := (sh_rep m.T m.I m.J)) rfl rfl rfl ?_
      exact kk
    obtain ⟨r2, e2, e⟩ := sh_bc_e e
    refine sh_Lk_cV (r := (some (.int (sh_b2 r2)))) (st2 := [.int (sh_b2 r2)]) (pc2 := 17) (k2 := 256) (a := 66) (as := [.ref 67, .int x1, .ref 1000010]) (rest := []) rfl rfl rfl (fun hT => (sh_s66 hT.st)) rfl rfl ⟨Nat.le_of_ble_eq_true rfl, Nat.le_of_ble_eq_true rfl⟩ (sl_256 e2 ⟨rfl, rfl⟩) rfl rfl (Nat.le_of_ble_eq_true rfl) (Nat.le_of_ble_eq_true rfl) ?_
    rcases sh_ite e with ⟨c, e⟩ | ⟨c, e⟩
    · refine sh_Lk_lift (T := m.T) (I := m.I) (J := m.J) (s := m.s) (pc2 := 139) (lv2 := [(0, .ref 67), (1, .int x1)]) (st2 := []) (I2 := m.I) (J2 := m.J) (fun hT v kk => ?_) ?_
      · refine sh_j0 (c := .ne) (off := (122)) (pc2 := 139) true rfl (sh_Znet c) rfl ?_
        exact kk
      exact sh_Lk_sub (sh_sub_n) (sl_260_139 e tg)
    · refine sh_Lk_lift (T := m.T) (I := m.I) (J := m.J) (s := m.s) (pc2 := 24) (lv2 := [(0, .ref 67), (1, .int x1)]) (st2 := [.ref 1000011, .int x1, .ref 67]) (I2 := m.I) (J2 := m.J) (fun hT v kk => ?_) ?_
      · refine sh_j0 (c := .ne) (off := (122)) (pc2 := 20) false rfl (sh_Znef c) rfl ?_
        refine sh_w (i := (.aload_n 0)) (len := 1) (pc2 := 21) (lv2 := [(0, .ref 67), (1, .int x1)]) (st2 := [.ref 67]) (h2 := (sh_rep m.T m.I m.J)) rfl rfl rfl ?_
        refine sh_w (i := (.iload_n 1)) (len := 1) (pc2 := 22) (lv2 := [(0, .ref 67), (1, .int x1)]) (st2 := [.int x1, .ref 67]) (h2 := (sh_rep m.T m.I m.J)) rfl rfl rfl ?_
        refine sh_w (i := (.ldc 244)) (len := 2) (pc2 := 24) (lv2 := [(0, .ref 67), (1, .int x1)]) (st2 := [.ref 1000011, .int x1, .ref 67]) (h2 := (sh_rep m.T m.I m.J)) rfl rfl rfl ?_
        exact kk
      obtain ⟨r3, e3, e⟩ := sh_bc_e e
      refine sh_Lk_cV (r := (some (.int (sh_b2 r3)))) (st2 := [.int (sh_b2 r3)]) (pc2 := 27) (k2 := 256) (a := 66) (as := [.ref 67, .int x1, .ref 1000011]) (rest := []) rfl rfl rfl (fun hT => (sh_s66 hT.st)) rfl rfl ⟨Nat.le_of_ble_eq_true rfl, Nat.le_of_ble_eq_true rfl⟩ (sl_256 e3 ⟨rfl, rfl⟩) rfl rfl (Nat.le_of_ble_eq_true rfl) (Nat.le_of_ble_eq_true rfl) ?_
      rcases sh_ite e with ⟨c, e⟩ | ⟨c, e⟩
      · refine sh_Lk_lift (T := m.T) (I := m.I) (J := m.J) (s := m.s) (pc2 := 139) (lv2 := [(0, .ref 67), (1, .int x1)]) (st2 := []) (I2 := m.I) (J2 := m.J) (fun hT v kk => ?_) ?_
        · refine sh_j0 (c := .ne) (off := (112)) (pc2 := 139) true rfl (sh_Znet c) rfl ?_
          exact kk
        exact sh_Lk_sub (sh_sub_n) (sl_260_139 e tg)
      · refine sh_Lk_lift (T := m.T) (I := m.I) (J := m.J) (s := m.s) (pc2 := 34) (lv2 := [(0, .ref 67), (1, .int x1)]) (st2 := [.ref 1000012, .int x1, .ref 67]) (I2 := m.I) (J2 := m.J) (fun hT v kk => ?_) ?_
        · refine sh_j0 (c := .ne) (off := (112)) (pc2 := 30) false rfl (sh_Znef c) rfl ?_
          refine sh_w (i := (.aload_n 0)) (len := 1) (pc2 := 31) (lv2 := [(0, .ref 67), (1, .int x1)]) (st2 := [.ref 67]) (h2 := (sh_rep m.T m.I m.J)) rfl rfl rfl ?_
          refine sh_w (i := (.iload_n 1)) (len := 1) (pc2 := 32) (lv2 := [(0, .ref 67), (1, .int x1)]) (st2 := [.int x1, .ref 67]) (h2 := (sh_rep m.T m.I m.J)) rfl rfl rfl ?_
          refine sh_w (i := (.ldc 254)) (len := 2) (pc2 := 34) (lv2 := [(0, .ref 67), (1, .int x1)]) (st2 := [.ref 1000012, .int x1, .ref 67]) (h2 := (sh_rep m.T m.I m.J)) rfl rfl rfl ?_
          exact kk
        obtain ⟨r4, e4, e⟩ := sh_bc_e e
        refine sh_Lk_cV (r := (some (.int (sh_b2 r4)))) (st2 := [.int (sh_b2 r4)]) (pc2 := 37) (k2 := 256) (a := 66) (as := [.ref 67, .int x1, .ref 1000012]) (rest := []) rfl rfl rfl (fun hT => (sh_s66 hT.st)) rfl rfl ⟨Nat.le_of_ble_eq_true rfl, Nat.le_of_ble_eq_true rfl⟩ (sl_256 e4 ⟨rfl, rfl⟩) rfl rfl (Nat.le_of_ble_eq_true rfl) (Nat.le_of_ble_eq_true rfl) ?_
        rcases sh_ite e with ⟨c, e⟩ | ⟨c, e⟩
        · refine sh_Lk_lift (T := m.T) (I := m.I) (J := m.J) (s := m.s) (pc2 := 139) (lv2 := [(0, .ref 67), (1, .int x1)]) (st2 := []) (I2 := m.I) (J2 := m.J) (fun hT v kk => ?_) ?_
          · refine sh_j0 (c := .ne) (off := (102)) (pc2 := 139) true rfl (sh_Znet c) rfl ?_
            exact kk
          exact sh_Lk_sub (sh_sub_n) (sl_260_139 e tg)
        · refine sh_Lk_lift (T := m.T) (I := m.I) (J := m.J) (s := m.s) (pc2 := 45) (lv2 := [(0, .ref 67), (1, .int x1)]) (st2 := [.ref 1000013, .int x1, .ref 67]) (I2 := m.I) (J2 := m.J) (fun hT v kk => ?_) ?_
          · refine sh_j0 (c := .ne) (off := (102)) (pc2 := 40) false rfl (sh_Znef c) rfl ?_
            refine sh_w (i := (.aload_n 0)) (len := 1) (pc2 := 41) (lv2 := [(0, .ref 67), (1, .int x1)]) (st2 := [.ref 67]) (h2 := (sh_rep m.T m.I m.J)) rfl rfl rfl ?_
            refine sh_w (i := (.iload_n 1)) (len := 1) (pc2 := 42) (lv2 := [(0, .ref 67), (1, .int x1)]) (st2 := [.int x1, .ref 67]) (h2 := (sh_rep m.T m.I m.J)) rfl rfl rfl ?_
            refine sh_w (i := (.ldc_w 256)) (len := 3) (pc2 := 45) (lv2 := [(0, .ref 67), (1, .int x1)]) (st2 := [.ref 1000013, .int x1, .ref 67]) (h2 := (sh_rep m.T m.I m.J)) rfl rfl rfl ?_
            exact kk
          obtain ⟨r5, e5, e⟩ := sh_bc_e e
          refine sh_Lk_cV (r := (some (.int (sh_b2 r5)))) (st2 := [.int (sh_b2 r5)]) (pc2 := 48) (k2 := 256) (a := 66) (as := [.ref 67, .int x1, .ref 1000013]) (rest := []) rfl rfl rfl (fun hT => (sh_s66 hT.st)) rfl rfl ⟨Nat.le_of_ble_eq_true rfl, Nat.le_of_ble_eq_true rfl⟩ (sl_256 e5 ⟨rfl, rfl⟩) rfl rfl (Nat.le_of_ble_eq_true rfl) (Nat.le_of_ble_eq_true rfl) ?_
          rcases sh_ite e with ⟨c, e⟩ | ⟨c, e⟩
          · refine sh_Lk_lift (T := m.T) (I := m.I) (J := m.J) (s := m.s) (pc2 := 139) (lv2 := [(0, .ref 67), (1, .int x1)]) (st2 := []) (I2 := m.I) (J2 := m.J) (fun hT v kk => ?_) ?_
            · refine sh_j0 (c := .ne) (off := (91)) (pc2 := 139) true rfl (sh_Znet c) rfl ?_
              exact kk
            exact sh_Lk_sub (sh_sub_n) (sl_260_139 e tg)
          · refine sh_Lk_lift (T := m.T) (I := m.I) (J := m.J) (s := m.s) (pc2 := 56) (lv2 := [(0, .ref 67), (1, .int x1)]) (st2 := [.ref 1000008, .int x1, .ref 67]) (I2 := m.I) (J2 := m.J) (fun hT v kk => ?_) ?_
            · refine sh_j0 (c := .ne) (off := (91)) (pc2 := 51) false rfl (sh_Znef c) rfl ?_
              refine sh_w (i := (.aload_n 0)) (len := 1) (pc2 := 52) (lv2 := [(0, .ref 67), (1, .int x1)]) (st2 := [.ref 67]) (h2 := (sh_rep m.T m.I m.J)) rfl rfl rfl ?_
              refine sh_w (i := (.iload_n 1)) (len := 1) (pc2 := 53) (lv2 := [(0, .ref 67), (1, .int x1)]) (st2 := [.int x1, .ref 67]) (h2 := (sh_rep m.T m.I m.J)) rfl rfl rfl ?_
              refine sh_w (i := (.ldc_w 258)) (len := 3) (pc2 := 56) (lv2 := [(0, .ref 67), (1, .int x1)]) (st2 := [.ref 1000008, .int x1, .ref 67]) (h2 := (sh_rep m.T m.I m.J)) rfl rfl rfl ?_
              exact kk
            obtain ⟨r6, e6, e⟩ := sh_bc_e e
            refine sh_Lk_cV (r := (some (.int (sh_b2 r6)))) (st2 := [.int (sh_b2 r6)]) (pc2 := 59) (k2 := 256) (a := 66) (as := [.ref 67, .int x1, .ref 1000008]) (rest := []) rfl rfl rfl (fun hT => (sh_s66 hT.st)) rfl rfl ⟨Nat.le_of_ble_eq_true rfl, Nat.le_of_ble_eq_true rfl⟩ (sl_256 e6 ⟨rfl, rfl⟩) rfl rfl (Nat.le_of_ble_eq_true rfl) (Nat.le_of_ble_eq_true rfl) ?_
            rcases sh_ite e with ⟨c, e⟩ | ⟨c, e⟩
            · refine sh_Lk_lift (T := m.T) (I := m.I) (J := m.J) (s := m.s) (pc2 := 139) (lv2 := [(0, .ref 67), (1, .int x1)]) (st2 := []) (I2 := m.I) (J2 := m.J) (fun hT v kk => ?_) ?_
              · refine sh_j0 (c := .ne) (off := (80)) (pc2 := 139) true rfl (sh_Znet c) rfl ?_
                exact kk
              exact sh_Lk_sub (sh_sub_n) (sl_260_139 e tg)
            · refine sh_Lk_lift (T := m.T) (I := m.I) (J := m.J) (s := m.s) (pc2 := 67) (lv2 := [(0, .ref 67), (1, .int x1)]) (st2 := [.ref 1000014, .int x1, .ref 67]) (I2 := m.I) (J2 := m.J) (fun hT v kk => ?_) ?_
              · refine sh_j0 (c := .ne) (off := (80)) (pc2 := 62) false rfl (sh_Znef c) rfl ?_
                refine sh_w (i := (.aload_n 0)) (len := 1) (pc2 := 63) (lv2 := [(0, .ref 67), (1, .int x1)]) (st2 := [.ref 67]) (h2 := (sh_rep m.T m.I m.J)) rfl rfl rfl ?_
                refine sh_w (i := (.iload_n 1)) (len := 1) (pc2 := 64) (lv2 := [(0, .ref 67), (1, .int x1)]) (st2 := [.int x1, .ref 67]) (h2 := (sh_rep m.T m.I m.J)) rfl rfl rfl ?_
                refine sh_w (i := (.ldc_w 260)) (len := 3) (pc2 := 67) (lv2 := [(0, .ref 67), (1, .int x1)]) (st2 := [.ref 1000014, .int x1, .ref 67]) (h2 := (sh_rep m.T m.I m.J)) rfl rfl rfl ?_
                exact kk
              obtain ⟨r7, e7, e⟩ := sh_bc_e e
              refine sh_Lk_cV (r := (some (.int (sh_b2 r7)))) (st2 := [.int (sh_b2 r7)]) (pc2 := 70) (k2 := 256) (a := 66) (as := [.ref 67, .int x1, .ref 1000014]) (rest := []) rfl rfl rfl (fun hT => (sh_s66 hT.st)) rfl rfl ⟨Nat.le_of_ble_eq_true rfl, Nat.le_of_ble_eq_true rfl⟩ (sl_256 e7 ⟨rfl, rfl⟩) rfl rfl (Nat.le_of_ble_eq_true rfl) (Nat.le_of_ble_eq_true rfl) ?_
              rcases sh_ite e with ⟨c, e⟩ | ⟨c, e⟩
              · refine sh_Lk_lift (T := m.T) (I := m.I) (J := m.J) (s := m.s) (pc2 := 139) (lv2 := [(0, .ref 67), (1, .int x1)]) (st2 := []) (I2 := m.I) (J2 := m.J) (fun hT v kk => ?_) ?_
                · refine sh_j0 (c := .ne) (off := (69)) (pc2 := 139) true rfl (sh_Znet c) rfl ?_
                  exact kk
                exact sh_Lk_sub (sh_sub_n) (sl_260_139 e tg)
              · refine sh_Lk_lift (T := m.T) (I := m.I) (J := m.J) (s := m.s) (pc2 := 78) (lv2 := [(0, .ref 67), (1, .int x1)]) (st2 := [.ref 1000015, .int x1, .ref 67]) (I2 := m.I) (J2 := m.J) (fun hT v kk => ?_) ?_
                · refine sh_j0 (c := .ne) (off := (69)) (pc2 := 73) false rfl (sh_Znef c) rfl ?_
                  refine sh_w (i := (.aload_n 0)) (len := 1) (pc2 := 74) (lv2 := [(0, .ref 67), (1, .int x1)]) (st2 := [.ref 67]) (h2 := (sh_rep m.T m.I m.J)) rfl rfl rfl ?_
                  refine sh_w (i := (.iload_n 1)) (len := 1) (pc2 := 75) (lv2 := [(0, .ref 67), (1, .int x1)]) (st2 := [.int x1, .ref 67]) (h2 := (sh_rep m.T m.I m.J)) rfl rfl rfl ?_
                  refine sh_w (i := (.ldc_w 262)) (len := 3) (pc2 := 78) (lv2 := [(0, .ref 67), (1, .int x1)]) (st2 := [.ref 1000015, .int x1, .ref 67]) (h2 := (sh_rep m.T m.I m.J)) rfl rfl rfl ?_
                  exact kk
                obtain ⟨r8, e8, e⟩ := sh_bc_e e
                refine sh_Lk_cV (r := (some (.int (sh_b2 r8)))) (st2 := [.int (sh_b2 r8)]) (pc2 := 81) (k2 := 256) (a := 66) (as := [.ref 67, .int x1, .ref 1000015]) (rest := []) rfl rfl rfl (fun hT => (sh_s66 hT.st)) rfl rfl ⟨Nat.le_of_ble_eq_true rfl, Nat.le_of_ble_eq_true rfl⟩ (sl_256 e8 ⟨rfl, rfl⟩) rfl rfl (Nat.le_of_ble_eq_true rfl) (Nat.le_of_ble_eq_true rfl) ?_
                rcases sh_ite e with ⟨c, e⟩ | ⟨c, e⟩
                · refine sh_Lk_lift (T := m.T) (I := m.I) (J := m.J) (s := m.s) (pc2 := 139) (lv2 := [(0, .ref 67), (1, .int x1)]) (st2 := []) (I2 := m.I) (J2 := m.J) (fun hT v kk => ?_) ?_
                  · refine sh_j0 (c := .ne) (off := (58)) (pc2 := 139) true rfl (sh_Znet c) rfl ?_
                    exact kk
                  exact sh_Lk_sub (sh_sub_n) (sl_260_139 e tg)
                · refine sh_Lk_lift (T := m.T) (I := m.I) (J := m.J) (s := m.s) (pc2 := 89) (lv2 := [(0, .ref 67), (1, .int x1)]) (st2 := [.ref 1000016, .int x1, .ref 67]) (I2 := m.I) (J2 := m.J) (fun hT v kk => ?_) ?_
                  · refine sh_j0 (c := .ne) (off := (58)) (pc2 := 84) false rfl (sh_Znef c) rfl ?_
                    refine sh_w (i := (.aload_n 0)) (len := 1) (pc2 := 85) (lv2 := [(0, .ref 67), (1, .int x1)]) (st2 := [.ref 67]) (h2 := (sh_rep m.T m.I m.J)) rfl rfl rfl ?_
                    refine sh_w (i := (.iload_n 1)) (len := 1) (pc2 := 86) (lv2 := [(0, .ref 67), (1, .int x1)]) (st2 := [.int x1, .ref 67]) (h2 := (sh_rep m.T m.I m.J)) rfl rfl rfl ?_
                    refine sh_w (i := (.ldc_w 264)) (len := 3) (pc2 := 89) (lv2 := [(0, .ref 67), (1, .int x1)]) (st2 := [.ref 1000016, .int x1, .ref 67]) (h2 := (sh_rep m.T m.I m.J)) rfl rfl rfl ?_
                    exact kk
                  obtain ⟨r9, e9, e⟩ := sh_bc_e e
                  refine sh_Lk_cV (r := (some (.int (sh_b2 r9)))) (st2 := [.int (sh_b2 r9)]) (pc2 := 92) (k2 := 256) (a := 66) (as := [.ref 67, .int x1, .ref 1000016]) (rest := []) rfl rfl rfl (fun hT => (sh_s66 hT.st)) rfl rfl ⟨Nat.le_of_ble_eq_true rfl, Nat.le_of_ble_eq_true rfl⟩ (sl_256 e9 ⟨rfl, rfl⟩) rfl rfl (Nat.le_of_ble_eq_true rfl) (Nat.le_of_ble_eq_true rfl) ?_
                  rcases sh_ite e with ⟨c, e⟩ | ⟨c, e⟩
                  · refine sh_Lk_lift (T := m.T) (I := m.I) (J := m.J) (s := m.s) (pc2 := 139) (lv2 := [(0, .ref 67), (1, .int x1)]) (st2 := []) (I2 := m.I) (J2 := m.J) (fun hT v kk => ?_) ?_
                    · refine sh_j0 (c := .ne) (off := (47)) (pc2 := 139) true rfl (sh_Znet c) rfl ?_
                      exact kk
                    exact sh_Lk_sub (sh_sub_n) (sl_260_139 e tg)
                  · refine sh_Lk_lift (T := m.T) (I := m.I) (J := m.J) (s := m.s) (pc2 := 100) (lv2 := [(0, .ref 67), (1, .int x1)]) (st2 := [.ref 1000017, .int x1, .ref 67]) (I2 := m.I) (J2 := m.J) (fun hT v kk => ?_) ?_
                    · refine sh_j0 (c := .ne) (off := (47)) (pc2 := 95) false rfl (sh_Znef c) rfl ?_
                      refine sh_w (i := (.aload_n 0)) (len := 1) (pc2 := 96) (lv2 := [(0, .ref 67), (1, .int x1)]) (st2 := [.ref 67]) (h2 := (sh_rep m.T m.I m.J)) rfl rfl rfl ?_
                      refine sh_w (i := (.iload_n 1)) (len := 1) (pc2 := 97) (lv2 := [(0, .ref 67), (1, .int x1)]) (st2 := [.int x1, .ref 67]) (h2 := (sh_rep m.T m.I m.J)) rfl rfl rfl ?_
                      refine sh_w (i := (.ldc_w 266)) (len := 3) (pc2 := 100) (lv2 := [(0, .ref 67), (1, .int x1)]) (st2 := [.ref 1000017, .int x1, .ref 67]) (h2 := (sh_rep m.T m.I m.J)) rfl rfl rfl ?_
                      exact kk
                    obtain ⟨r10, e10, e⟩ := sh_bc_e e
                    refine sh_Lk_cV (r := (some (.int (sh_b2 r10)))) (st2 := [.int (sh_b2 r10)]) (pc2 := 103) (k2 := 256) (a := 66) (as := [.ref 67, .int x1, .ref 1000017]) (rest := []) rfl rfl rfl (fun hT => (sh_s66 hT.st)) rfl rfl ⟨Nat.le_of_ble_eq_true rfl, Nat.le_of_ble_eq_true rfl⟩ (sl_256 e10 ⟨rfl, rfl⟩) rfl rfl (Nat.le_of_ble_eq_true rfl) (Nat.le_of_ble_eq_true rfl) ?_
                    rcases sh_ite e with ⟨c, e⟩ | ⟨c, e⟩
                    · refine sh_Lk_lift (T := m.T) (I := m.I) (J := m.J) (s := m.s) (pc2 := 139) (lv2 := [(0, .ref 67), (1, .int x1)]) (st2 := []) (I2 := m.I) (J2 := m.J) (fun hT v kk => ?_) ?_
                      · refine sh_j0 (c := .ne) (off := (36)) (pc2 := 139) true rfl (sh_Znet c) rfl ?_
                        exact kk
                      exact sh_Lk_sub (sh_sub_n) (sl_260_139 e tg)
                    · refine sh_Lk_lift (T := m.T) (I := m.I) (J := m.J) (s := m.s) (pc2 := 111) (lv2 := [(0, .ref 67), (1, .int x1)]) (st2 := [.ref 1000018, .int x1, .ref 67]) (I2 := m.I) (J2 := m.J) (fun hT v kk => ?_) ?_
                      · refine sh_j0 (c := .ne) (off := (36)) (pc2 := 106) false rfl (sh_Znef c) rfl ?_
                        refine sh_w (i := (.aload_n 0)) (len := 1) (pc2 := 107) (lv2 := [(0, .ref 67), (1, .int x1)]) (st2 := [.ref 67]) (h2 := (sh_rep m.T m.I m.J)) rfl rfl rfl ?_
                        refine sh_w (i := (.iload_n 1)) (len := 1) (pc2 := 108) (lv2 := [(0, .ref 67), (1, .int x1)]) (st2 := [.int x1, .ref 67]) (h2 := (sh_rep m.T m.I m.J)) rfl rfl rfl ?_
                        refine sh_w (i := (.ldc_w 268)) (len := 3) (pc2 := 111) (lv2 := [(0, .ref 67), (1, .int x1)]) (st2 := [.ref 1000018, .int x1, .ref 67]) (h2 := (sh_rep m.T m.I m.J)) rfl rfl rfl ?_
                        exact kk
                      obtain ⟨r11, e11, e⟩ := sh_bc_e e
                      refine sh_Lk_cV (r := (some (.int (sh_b2 r11)))) (st2 := [.int (sh_b2 r11)]) (pc2 := 114) (k2 := 256) (a := 66) (as := [.ref 67, .int x1, .ref 1000018]) (rest := []) rfl rfl rfl (fun hT => (sh_s66 hT.st)) rfl rfl ⟨Nat.le_of_ble_eq_true rfl, Nat.le_of_ble_eq_true rfl⟩ (sl_256 e11 ⟨rfl, rfl⟩) rfl rfl (Nat.le_of_ble_eq_true rfl) (Nat.le_of_ble_eq_true rfl) ?_
                      rcases sh_ite e with ⟨c, e⟩ | ⟨c, e⟩
                      · refine sh_Lk_lift (T := m.T) (I := m.I) (J := m.J) (s := m.s) (pc2 := 139) (lv2 := [(0, .ref 67), (1, .int x1)]) (st2 := []) (I2 := m.I) (J2 := m.J) (fun hT v kk => ?_) ?_
                        · refine sh_j0 (c := .ne) (off := (25)) (pc2 := 139) true rfl (sh_Znet c) rfl ?_
                          exact kk
                        exact sh_Lk_sub (sh_sub_n) (sl_260_139 e tg)
                      · refine sh_Lk_lift (T := m.T) (I := m.I) (J := m.J) (s := m.s) (pc2 := 122) (lv2 := [(0, .ref 67), (1, .int x1)]) (st2 := [.ref 1000019, .int x1, .ref 67]) (I2 := m.I) (J2 := m.J) (fun hT v kk => ?_) ?_
                        · refine sh_j0 (c := .ne) (off := (25)) (pc2 := 117) false rfl (sh_Znef c) rfl ?_
                          refine sh_w (i := (.aload_n 0)) (len := 1) (pc2 := 118) (lv2 := [(0, .ref 67), (1, .int x1)]) (st2 := [.ref 67]) (h2 := (sh_rep m.T m.I m.J)) rfl rfl rfl ?_
                          refine sh_w (i := (.iload_n 1)) (len := 1) (pc2 := 119) (lv2 := [(0, .ref 67), (1, .int x1)]) (st2 := [.int x1, .ref 67]) (h2 := (sh_rep m.T m.I m.J)) rfl rfl rfl ?_
                          refine sh_w (i := (.ldc_w 270)) (len := 3) (pc2 := 122) (lv2 := [(0, .ref 67), (1, .int x1)]) (st2 := [.ref 1000019, .int x1, .ref 67]) (h2 := (sh_rep m.T m.I m.J)) rfl rfl rfl ?_
                          exact kk
                        obtain ⟨r12, e12, e⟩ := sh_bc_e e
                        refine sh_Lk_cV (r := (some (.int (sh_b2 r12)))) (st2 := [.int (sh_b2 r12)]) (pc2 := 125) (k2 := 256) (a := 66) (as := [.ref 67, .int x1, .ref 1000019]) (rest := []) rfl rfl rfl (fun hT => (sh_s66 hT.st)) rfl rfl ⟨Nat.le_of_ble_eq_true rfl, Nat.le_of_ble_eq_true rfl⟩ (sl_256 e12 ⟨rfl, rfl⟩) rfl rfl (Nat.le_of_ble_eq_true rfl) (Nat.le_of_ble_eq_true rfl) ?_
                        rcases sh_ite e with ⟨c, e⟩ | ⟨c, e⟩
                        · refine sh_Lk_lift (T := m.T) (I := m.I) (J := m.J) (s := m.s) (pc2 := 139) (lv2 := [(0, .ref 67), (1, .int x1)]) (st2 := []) (I2 := m.I) (J2 := m.J) (fun hT v kk => ?_) ?_
                          · refine sh_j0 (c := .ne) (off := (14)) (pc2 := 139) true rfl (sh_Znet c) rfl ?_
                            exact kk
                          exact sh_Lk_sub (sh_sub_n) (sl_260_139 e tg)
                        · refine sh_Lk_lift (T := m.T) (I := m.I) (J := m.J) (s := m.s) (pc2 := 133) (lv2 := [(0, .ref 67), (1, .int x1)]) (st2 := [.ref 1000020, .int x1, .ref 67]) (I2 := m.I) (J2 := m.J) (fun hT v kk => ?_) ?_
                          · refine sh_j0 (c := .ne) (off := (14)) (pc2 := 128) false rfl (sh_Znef c) rfl ?_
                            refine sh_w (i := (.aload_n 0)) (len := 1) (pc2 := 129) (lv2 := [(0, .ref 67), (1, .int x1)]) (st2 := [.ref 67]) (h2 := (sh_rep m.T m.I m.J)) rfl rfl rfl ?_
                            refine sh_w (i := (.iload_n 1)) (len := 1) (pc2 := 130) (lv2 := [(0, .ref 67), (1, .int x1)]) (st2 := [.int x1, .ref 67]) (h2 := (sh_rep m.T m.I m.J)) rfl rfl rfl ?_
                            refine sh_w (i := (.ldc_w 272)) (len := 3) (pc2 := 133) (lv2 := [(0, .ref 67), (1, .int x1)]) (st2 := [.ref 1000020, .int x1, .ref 67]) (h2 := (sh_rep m.T m.I m.J)) rfl rfl rfl ?_
                            exact kk
                          obtain ⟨r13, e13, e⟩ := sh_bc_e e
                          refine sh_Lk_cV (r := (some (.int (sh_b2 r13)))) (st2 := [.int (sh_b2 r13)]) (pc2 := 136) (k2 := 256) (a := 66) (as := [.ref 67, .int x1, .ref 1000020]) (rest := []) rfl rfl rfl (fun hT => (sh_s66 hT.st)) rfl rfl ⟨Nat.le_of_ble_eq_true rfl, Nat.le_of_ble_eq_true rfl⟩ (sl_256 e13 ⟨rfl, rfl⟩) rfl rfl (Nat.le_of_ble_eq_true rfl) (Nat.le_of_ble_eq_true rfl) ?_
                          rcases sh_ite e with ⟨c, e⟩ | ⟨c, e⟩
                          · refine sh_Lk_lift (T := m.T) (I := m.I) (J := m.J) (s := m.s) (pc2 := 139) (lv2 := [(0, .ref 67), (1, .int x1)]) (st2 := []) (I2 := m.I) (J2 := m.J) (fun hT v kk => ?_) ?_
                            · refine sh_j0 (c := .eq) (off := (7)) (pc2 := 139) false rfl (sh_Zeqf c) rfl ?_
                              exact kk
                            exact sh_Lk_sub (sh_sub_n) (sl_260_139 e tg)
                          · refine sh_Lk_lift (T := m.T) (I := m.I) (J := m.J) (s := m.s) (pc2 := 144) (lv2 := [(0, .ref 67), (1, .int x1)]) (st2 := [.int 0]) (I2 := m.I) (J2 := m.J) (fun hT v kk => ?_) ?_
                            · refine sh_j0 (c := .eq) (off := (7)) (pc2 := 143) true rfl (sh_Zeqt c) rfl ?_
                              refine sh_w (i := (.iconst 0)) (len := 1) (pc2 := 144) (lv2 := [(0, .ref 67), (1, .int x1)]) (st2 := [.int 0]) (h2 := (sh_rep m.T m.I m.J)) rfl rfl rfl ?_
                              exact kk
                            obtain rfl := Option.some.inj e
                            obtain ⟨rfl, rfl⟩ := tg
                            exact sh_Lk_ret (i := .ireturn) rfl rfl rfl (Nat.le_of_ble_eq_true rfl) (Nat.le_of_ble_eq_true rfl)
theorem sl_261_177 {x3 : Int32} {y0 : Int32} {y1 : Int32} {m m2 : sh_X} {o : Outcome} {z : Int32} (e : sf_261_177 x3 y0 y1 m = some z) (tg : (sh_tIc m o m2) z) : sh_Lk 261 177 [(3, .int x3)] [.int y1, .int y0] m o m2 31 623 := by
  unfold sf_261_177 at e
  refine sh_Lk_lift (T := m.T) (I := m.I) (J := m.J) (s := m.s) (pc2 := 182) (lv2 := [(3, .int x3)]) (st2 := [.int (((y0 * y1) + x3) - 1)]) (I2 := m.I) (J2 := m.J) (fun hT v kk => ?_) ?_
  · refine sh_w (i := .imul) (len := 1) (pc2 := 178) (lv2 := [(3, .int x3)]) (st2 := [.int (y0 * y1)]) (h2 := (sh_rep m.T m.I m.J)) rfl rfl rfl ?_
    refine sh_w (i := (.iload_n 3)) (len := 1) (pc2 := 179) (lv2 := [(3, .int x3)]) (st2 := [.int x3, .int (y0 * y1)]) (h2 := (sh_rep m.T m.I m.J)) rfl rfl rfl ?_
    refine sh_w (i := .iadd) (len := 1) (pc2 := 180) (lv2 := [(3, .int x3)]) (st2 := [.int ((y0 * y1) + x3)]) (h2 := (sh_rep m.T m.I m.J)) rfl rfl rfl ?_
    refine sh_w (i := (.iconst 1)) (len := 1) (pc2 := 181) (lv2 := [(3, .int x3)]) (st2 := [.int 1, .int ((y0 * y1) + x3)]) (h2 := (sh_rep m.T m.I m.J)) rfl rfl rfl ?_
    refine sh_w (i := .isub) (len := 1) (pc2 := 182) (lv2 := [(3, .int x3)]) (st2 := [.int (((y0 * y1) + x3) - 1)]) (h2 := (sh_rep m.T m.I m.J)) rfl rfl rfl ?_
    exact kk
  obtain rfl := Option.some.inj e
  obtain ⟨rfl, rfl⟩ := tg
  exact sh_Lk_ret (i := .ireturn) rfl rfl rfl (Nat.le_of_ble_eq_true rfl) (Nat.le_of_ble_eq_true rfl)
theorem sl_261_164 {x2 : Int32} {x3 : Int32} {m m2 : sh_X} {o : Outcome} {z : Int32} (e : sf_261_164 x2 x3 m = some z) (tg : (sh_tIc m o m2) z) : sh_Lk 261 164 [(2, .int x2), (3, .int x3)] [] m o m2 31 623 := by
  unfold sf_261_164 at e
  refine sh_Lk_lift (T := m.T) (I := m.I) (J := m.J) (s := m.s) (pc2 := 169) (lv2 := [(2, .int x2), (3, .int x3)]) (st2 := [.int 117, .int x2, .int 64]) (I2 := m.I) (J2 := m.J) (fun hT v kk => ?_) ?_
  · refine sh_w (i := (.bipush 64)) (len := 2) (pc2 := 166) (lv2 := [(2, .int x2), (3, .int x3)]) (st2 := [.int 64]) (h2 := (sh_rep m.T m.I m.J)) rfl rfl rfl ?_
    refine sh_w (i := (.iload_n 2)) (len := 1) (pc2 := 167) (lv2 := [(2, .int x2), (3, .int x3)]) (st2 := [.int x2, .int 64]) (h2 := (sh_rep m.T m.I m.J)) rfl rfl rfl ?_
    refine sh_w (i := (.bipush 117)) (len := 2) (pc2 := 169) (lv2 := [(2, .int x2), (3, .int x3)]) (st2 := [.int 117, .int x2, .int 64]) (h2 := (sh_rep m.T m.I m.J)) rfl rfl rfl ?_
    exact kk
  rcases sh_ite e with ⟨c, e⟩ | ⟨c, e⟩
  · refine sh_Lk_lift (T := m.T) (I := m.I) (J := m.J) (s := m.s) (pc2 := 177) (lv2 := [(2, .int x2), (3, .int x3)]) (st2 := [.int 1, .int 64]) (I2 := m.I) (J2 := m.J) (fun hT v kk => ?_) ?_
    · refine sh_jc (c := .ne) (off := (7)) (pc2 := 172) false rfl (sh_Bnef c) rfl ?_
      refine sh_w (i := (.iconst 1)) (len := 1) (pc2 := 173) (lv2 := [(2, .int x2), (3, .int x3)]) (st2 := [.int 1, .int 64]) (h2 := (sh_rep m.T m.I m.J)) rfl rfl rfl ?_
      refine sh_w (i := (.goto 4)) (len := 3) (pc2 := 177) (lv2 := [(2, .int x2), (3, .int x3)]) (st2 := [.int 1, .int 64]) (h2 := (sh_rep m.T m.I m.J)) rfl rfl rfl ?_
      exact kk
    exact sh_Lk_sub (sh_sub_c rfl (sh_sub_n)) (sl_261_177 e tg)
  · refine sh_Lk_lift (T := m.T) (I := m.I) (J := m.J) (s := m.s) (pc2 := 177) (lv2 := [(2, .int x2), (3, .int x3)]) (st2 := [.int 2, .int 64]) (I2 := m.I) (J2 := m.J) (fun hT v kk => ?_) ?_
    · refine sh_jc (c := .ne) (off := (7)) (pc2 := 176) true rfl (sh_Bnet c) rfl ?_
      refine sh_w (i := (.iconst 2)) (len := 1) (pc2 := 177) (lv2 := [(2, .int x2), (3, .int x3)]) (st2 := [.int 2, .int 64]) (h2 := (sh_rep m.T m.I m.J)) rfl rfl rfl ?_
      exact kk
    exact sh_Lk_sub (sh_sub_c rfl (sh_sub_n)) (sl_261_177 e tg)
theorem sl_261_151 {x2 : Int32} {x3 : Int32} {m m2 : sh_X} {o : Outcome} {z : Int32} (e : sf_261_151 x2 x3 m = some z) (tg : (sh_tIc m o m2) z) : sh_Lk 261 151 [(2, .int x2), (3, .int x3)] [] m o m2 31 623 := by
  unfold sf_261_151 at e
  refine sh_Lk_lift (T := m.T) (I := m.I) (J := m.J) (s := m.s) (pc2 := 154) (lv2 := [(2, .int x2), (3, .int x3)]) (st2 := [.int 105, .int x2]) (I2 := m.I) (J2 := m.J) (fun hT v kk => ?_) ?_
  · refine sh_w (i := (.iload_n 2)) (len := 1) (pc2 := 152) (lv2 := [(2, .int x2), (3, .int x3)]) (st2 := [.int x2]) (h2 := (sh_rep m.T m.I m.J)) rfl rfl rfl ?_
    refine sh_w (i := (.bipush 105)) (len := 2) (pc2 := 154) (lv2 := [(2, .int x2), (3, .int x3)]) (st2 := [.int 105, .int x2]) (h2 := (sh_rep m.T m.I m.J)) rfl rfl rfl ?_
    exact kk
  rcases sh_ite e with ⟨c, e⟩ | ⟨c, e⟩
  · refine sh_Lk_lift (T := m.T) (I := m.I) (J := m.J) (s := m.s) (pc2 := 159) (lv2 := [(2, .int x2), (3, .int x3)]) (st2 := [.int 2, .int x3]) (I2 := m.I) (J2 := m.J) (fun hT v kk => ?_) ?_
    · refine sh_jc (c := .ne) (off := (10)) (pc2 := 157) false rfl (sh_Bnef c) rfl ?_
      refine sh_w (i := (.iload_n 3)) (len := 1) (pc2 := 158) (lv2 := [(2, .int x2), (3, .int x3)]) (st2 := [.int x3]) (h2 := (sh_rep m.T m.I m.J)) rfl rfl rfl ?_
      refine sh_w (i := (.iconst 2)) (len := 1) (pc2 := 159) (lv2 := [(2, .int x2), (3, .int x3)]) (st2 := [.int 2, .int x3]) (h2 := (sh_rep m.T m.I m.J)) rfl rfl rfl ?_
      exact kk
    rcases sh_ite e with ⟨c, e⟩ | ⟨c, e⟩
    · refine sh_Lk_lift (T := m.T) (I := m.I) (J := m.J) (s := m.s) (pc2 := 163) (lv2 := [(2, .int x2), (3, .int x3)]) (st2 := [.int (-1)]) (I2 := m.I) (J2 := m.J) (fun hT v kk => ?_) ?_
      · refine sh_jc (c := .ge) (off := (5)) (pc2 := 162) false rfl (sh_Bgef c) rfl ?_
        refine sh_w (i := (.iconst (-1))) (len := 1) (pc2 := 163) (lv2 := [(2, .int x2), (3, .int x3)]) (st2 := [.int (-1)]) (h2 := (sh_rep m.T m.I m.J)) rfl rfl rfl ?_
        exact kk
      obtain rfl := Option.some.inj e
      obtain ⟨rfl, rfl⟩ := tg
      exact sh_Lk_ret (i := .ireturn) rfl rfl rfl (Nat.le_of_ble_eq_true rfl) (Nat.le_of_ble_eq_true rfl)
    · refine sh_Lk_lift (T := m.T) (I := m.I) (J := m.J) (s := m.s) (pc2 := 164) (lv2 := [(2, .int x2), (3, .int x3)]) (st2 := []) (I2 := m.I) (J2 := m.J) (fun hT v kk => ?_) ?_
      · refine sh_jc (c := .ge) (off := (5)) (pc2 := 164) true rfl (sh_Bget c) rfl ?_
        exact kk
      exact sh_Lk_sub (sh_sub_c rfl (sh_sub_c rfl (sh_sub_n))) (sl_261_164 e tg)
  · refine sh_Lk_lift (T := m.T) (I := m.I) (J := m.J) (s := m.s) (pc2 := 164) (lv2 := [(2, .int x2), (3, .int x3)]) (st2 := []) (I2 := m.I) (J2 := m.J) (fun hT v kk => ?_) ?_
    · refine sh_jc (c := .ne) (off := (10)) (pc2 := 164) true rfl (sh_Bnet c) rfl ?_
      exact kk
    exact sh_Lk_sub (sh_sub_c rfl (sh_sub_c rfl (sh_sub_n))) (sl_261_164 e tg)
theorem sl_261_61s {x1 : Int32} {x2 : Int32} {x3 : Int32} {x4 : Int32} {m m2 : sh_X} {o : Outcome} {z : ((Int32 × Int32) ⊕ Int32)} (e : sf_261_61s x1 x2 x3 x4 m = some z) (tg : (sh_el (fun q => sh_Lk 261 61 [(0, .ref 67), (1, .int x1), (2, .int x2), (3, .int q.1), (4, .int q.2)] [] m o m2 31 623) (sh_tIc m o m2)) z) : sh_Lk 261 61 [(0, .ref 67), (1, .int x1), (2, .int x2), (3, .int x3), (4, .int x4)] [] m o m2 31 623 := by
  unfold sf_261_61s at e
  refine sh_Lk_lift (T := m.T) (I := m.I) (J := m.J) (s := m.s) (pc2 := 68) (lv2 := [(0, .ref 67), (1, .int x1), (2, .int x2), (3, .int x3), (4, .int x4)]) (st2 := [.int x1, .ref 71, .int x4]) (I2 := m.I) (J2 := m.J) (fun hT v kk => ?_) ?_
  · refine sh_w (i := (.iload 4)) (len := 2) (pc2 := 63) (lv2 := [(0, .ref 67), (1, .int x1), (2, .int x2), (3, .int x3), (4, .int x4)]) (st2 := [.int x4]) (h2 := (sh_rep m.T m.I m.J)) rfl rfl rfl ?_
    refine sh_w (i := (.aload_n 0)) (len := 1) (pc2 := 64) (lv2 := [(0, .ref 67), (1, .int x1), (2, .int x2), (3, .int x3), (4, .int x4)]) (st2 := [.ref 67, .int x4]) (h2 := (sh_rep m.T m.I m.J)) rfl rfl rfl ?_
    refine sh_gR1 (len := 3) (x := .ref 71) (pc2 := 67) rfl rfl (sh_s66 hT.st) rfl rfl ?_
    refine sh_w (i := (.iload_n 1)) (len := 1) (pc2 := 68) (lv2 := [(0, .ref 67), (1, .int x1), (2, .int x2), (3, .int x3), (4, .int x4)]) (st2 := [.int x1, .ref 71, .int x4]) (h2 := (sh_rep m.T m.I m.J)) rfl rfl rfl ?_
    exact kk
  obtain ⟨c, e⟩ := sh_gd e
  refine sh_Lk_lift (T := m.T) (I := m.I) (J := m.J) (s := m.s) (pc2 := 69) (lv2 := [(0, .ref 67), (1, .int x1), (2, .int x2), (3, .int x3), (4, .int x4)]) (st2 := [.int (m.I 70 (Int32.toNatClampNeg x1)), .int x4]) (I2 := m.I) (J2 := m.J) (fun hT v kk => ?_) ?_
  · refine sh_ia1 (x := m.I 70 (Int32.toNatClampNeg x1)) (pc2 := 69) rfl (sh_s70 hT.st) (sh_okb1 c) (sh_okb2 c) rfl rfl ?_
    exact kk
  rcases sh_ite e with ⟨c, e⟩ | ⟨c, e⟩
  · refine sh_Lk_lift (T := m.T) (I := m.I) (J := m.J) (s := m.s) (pc2 := 81) (lv2 := [(0, .ref 67), (1, .int x1), (2, .int x2), (3, .int x3), (4, .int x4)]) (st2 := [.int x1, .ref 70, .ref 68]) (I2 := m.I) (J2 := m.J) (fun hT v kk => ?_) ?_
    · refine sh_jc (c := .ge) (off := (46)) (pc2 := 72) false rfl (sh_Bgef c) rfl ?_
      refine sh_w (i := (.aload_n 0)) (len := 1) (pc2 := 73) (lv2 := [(0, .ref 67), (1, .int x1), (2, .int x2), (3, .int x3), (4, .int x4)]) (st2 := [.ref 67]) (h2 := (sh_rep m.T m.I m.J)) rfl rfl rfl ?_
      refine sh_gR1 (len := 3) (x := .ref 68) (pc2 := 76) rfl rfl (sh_s66 hT.st) rfl rfl ?_
      refine sh_w (i := (.aload_n 0)) (len := 1) (pc2 := 77) (lv2 := [(0, .ref 67), (1, .int x1), (2, .int x2), (3, .int x3), (4, .int x4)]) (st2 := [.ref 67, .ref 68]) (h2 := (sh_rep m.T m.I m.J)) rfl rfl rfl ?_
      refine sh_gR1 (len := 3) (x := .ref 70) (pc2 := 80) rfl rfl (sh_s66 hT.st) rfl rfl ?_
      refine sh_w (i := (.iload_n 1)) (len := 1) (pc2 := 81) (lv2 := [(0, .ref 67), (1, .int x1), (2, .int x2), (3, .int x3), (4, .int x4)]) (st2 := [.int x1, .ref 70, .ref 68]) (h2 := (sh_rep m.T m.I m.J)) rfl rfl rfl ?_
      exact kk
    obtain ⟨c, e⟩ := sh_gd e
    refine sh_Lk_lift (T := m.T) (I := m.I) (J := m.J) (s := m.s) (pc2 := 85) (lv2 := [(0, .ref 67), (1, .int x1), (2, .int x2), (3, .int x3), (4, .int x4)]) (st2 := [.int ((m.I 69 (Int32.toNatClampNeg x1)) + x4), .ref 68]) (I2 := m.I) (J2 := m.J) (fun hT v kk => ?_) ?_
    · refine sh_ia1 (x := m.I 69 (Int32.toNatClampNeg x1)) (pc2 := 82) rfl (sh_s69 hT.st) (sh_okb1 c) (sh_okb2 c) rfl rfl ?_
      refine sh_w (i := (.iload 4)) (len := 2) (pc2 := 84) (lv2 := [(0, .ref 67), (1, .int x1), (2, .int x2), (3, .int x3), (4, .int x4)]) (st2 := [.int x4, .int (m.I 69 (Int32.toNatClampNeg x1)), .ref 68]) (h2 := (sh_rep m.T m.I m.J)) rfl rfl rfl ?_
      refine sh_w (i := .iadd) (len := 1) (pc2 := 85) (lv2 := [(0, .ref 67), (1, .int x1), (2, .int x2), (3, .int x3), (4, .int x4)]) (st2 := [.int ((m.I 69 (Int32.toNatClampNeg x1)) + x4), .ref 68]) (h2 := (sh_rep m.T m.I m.J)) rfl rfl rfl ?_
      exact kk
    obtain ⟨c, e⟩ := sh_gd e
    refine sh_Lk_lift (T := m.T) (I := m.I) (J := m.J) (s := m.s) (pc2 := 90) (lv2 := [(5, .int (m.I 67 (Int32.toNatClampNeg ((m.I 69 (Int32.toNatClampNeg x1)) + x4)))), (0, .ref 67), (1, .int x1), (2, .int x2), (3, .int x3), (4, .int x4)]) (st2 := [.int (m.I 67 (Int32.toNatClampNeg ((m.I 69 (Int32.toNatClampNeg x1)) + x4)))]) (I2 := m.I) (J2 := m.J) (fun hT v kk => ?_) ?_
    · refine sh_ba1 (x := m.I 67 (Int32.toNatClampNeg ((m.I 69 (Int32.toNatClampNeg x1)) + x4))) (pc2 := 86) rfl (sh_s67 hT.st) (Or.inl rfl) (sh_okb1 c) (sh_okb2 c) rfl rfl ?_
      refine sh_w (i := (.istore 5)) (len := 2) (pc2 := 88) (lv2 := [(5, .int (m.I 67 (Int32.toNatClampNeg ((m.I 69 (Int32.toNatClampNeg x1)) + x4)))), (0, .ref 67), (1, .int x1), (2, .int x2), (3, .int x3), (4, .int x4)]) (st2 := []) (h2 := (sh_rep m.T m.I m.J)) rfl rfl rfl ?_
      refine sh_w (i := (.iload 5)) (len := 2) (pc2 := 90) (lv2 := [(5, .int (m.I 67 (Int32.toNatClampNeg ((m.I 69 (Int32.toNatClampNeg x1)) + x4)))), (0, .ref 67), (1, .int x1), (2, .int x2), (3, .int x3), (4, .int x4)]) (st2 := [.int (m.I 67 (Int32.toNatClampNeg ((m.I 69 (Int32.toNatClampNeg x1)) + x4)))]) (h2 := (sh_rep m.T m.I m.J)) rfl rfl rfl ?_
      exact kk
    refine sh_Lk_cS (r := (some (.int (sh_b2 (sf_251 (m.I 67 (Int32.toNatClampNeg ((m.I 69 (Int32.toNatClampNeg x1)) + x4)))))))) (st2 := [.int (sh_b2 (sf_251 (m.I 67 (Int32.toNatClampNeg ((m.I 69 (Int32.toNatClampNeg x1)) + x4)))))]) (pc2 := 93) (k2 := 251) (as := [.int (m.I 67 (Int32.toNatClampNeg ((m.I 69 (Int32.toNatClampNeg x1)) + x4)))]) (rest := []) rfl rfl (by decide) (Nat.le_of_ble_eq_true rfl) rfl rfl ⟨Nat.le_of_ble_eq_true rfl, Nat.le_of_ble_eq_true rfl⟩ (sl_251 (m := m) rfl ⟨rfl, rfl⟩) rfl rfl (Nat.le_of_ble_eq_true rfl) (Nat.le_of_ble_eq_true rfl) ?_
    rcases sh_ite e with ⟨c, e⟩ | ⟨c, e⟩
    · refine sh_Lk_lift (T := m.T) (I := m.I) (J := m.J) (s := m.s) (pc2 := 61) (lv2 := [(4, .int (x4 + 1)), (3, .int (((10 * x3) + (m.I 67 (Int32.toNatClampNeg ((m.I 69 (Int32.toNatClampNeg x1)) + x4)))) - 48)), (5, .int (m.I 67 (Int32.toNatClampNeg ((m.I 69 (Int32.toNatClampNeg x1)) + x4)))), (0, .ref 67), (1, .int x1), (2, .int x2)]) (st2 := []) (I2 := m.I) (J2 := m.J) (fun hT v kk => ?_) ?_
      · refine sh_j0 (c := .ne) (off := (5)) (pc2 := 98) true rfl (sh_Znet c) rfl ?_
        refine sh_w (i := (.bipush 10)) (len := 2) (pc2 := 100) (lv2 := [(5, .int (m.I 67 (Int32.toNatClampNeg ((m.I 69 (Int32.toNatClampNeg x1)) + x4)))), (0, .ref 67), (1, .int x1), (2, .int x2), (3, .int x3), (4, .int x4)]) (st2 := [.int 10]) (h2 := (sh_rep m.T m.I m.J)) rfl rfl rfl ?_
        refine sh_w (i := (.iload_n 3)) (len := 1) (pc2 := 101) (lv2 := [(5, .int (m.I 67 (Int32.toNatClampNeg ((m.I 69 (Int32.toNatClampNeg x1)) + x4)))), (0, .ref 67), (1, .int x1), (2, .int x2), (3, .int x3), (4, .int x4)]) (st2 := [.int x3, .int 10]) (h2 := (sh_rep m.T m.I m.J)) rfl rfl rfl ?_
        refine sh_w (i := .imul) (len := 1) (pc2 := 102) (lv2 := [(5, .int (m.I 67 (Int32.toNatClampNeg ((m.I 69 (Int32.toNatClampNeg x1)) + x4)))), (0, .ref 67), (1, .int x1), (2, .int x2), (3, .int x3), (4, .int x4)]) (st2 := [.int (10 * x3)]) (h2 := (sh_rep m.T m.I m.J)) rfl rfl rfl ?_
        refine sh_w (i := (.iload 5)) (len := 2) (pc2 := 104) (lv2 := [(5, .int (m.I 67 (Int32.toNatClampNeg ((m.I 69 (Int32.toNatClampNeg x1)) + x4)))), (0, .ref 67), (1, .int x1), (2, .int x2), (3, .int x3), (4, .int x4)]) (st2 := [.int (m.I 67 (Int32.toNatClampNeg ((m.I 69 (Int32.toNatClampNeg x1)) + x4))), .int (10 * x3)]) (h2 := (sh_rep m.T m.I m.J)) rfl rfl rfl ?_
        refine sh_w (i := .iadd) (len := 1) (pc2 := 105) (lv2 := [(5, .int (m.I 67 (Int32.toNatClampNeg ((m.I 69 (Int32.toNatClampNeg x1)) + x4)))), (0, .ref 67), (1, .int x1), (2, .int x2), (3, .int x3), (4, .int x4)]) (st2 := [.int ((10 * x3) + (m.I 67 (Int32.toNatClampNeg ((m.I 69 (Int32.toNatClampNeg x1)) + x4))))]) (h2 := (sh_rep m.T m.I m.J)) rfl rfl rfl ?_
        refine sh_w (i := (.bipush 48)) (len := 2) (pc2 := 107) (lv2 := [(5, .int (m.I 67 (Int32.toNatClampNeg ((m.I 69 (Int32.toNatClampNeg x1)) + x4)))), (0, .ref 67), (1, .int x1), (2, .int x2), (3, .int x3), (4, .int x4)]) (st2 := [.int 48, .int ((10 * x3) + (m.I 67 (Int32.toNatClampNeg ((m.I 69 (Int32.toNatClampNeg x1)) + x4))))]) (h2 := (sh_rep m.T m.I m.J)) rfl rfl rfl ?_
        refine sh_w (i := .isub) (len := 1) (pc2 := 108) (lv2 := [(5, .int (m.I 67 (Int32.toNatClampNeg ((m.I 69 (Int32.toNatClampNeg x1)) + x4)))), (0, .ref 67), (1, .int x1), (2, .int x2), (3, .int x3), (4, .int x4)]) (st2 := [.int (((10 * x3) + (m.I 67 (Int32.toNatClampNeg ((m.I 69 (Int32.toNatClampNeg x1)) + x4)))) - 48)]) (h2 := (sh_rep m.T m.I m.J)) rfl rfl rfl ?_
        refine sh_w (i := (.istore_n 3)) (len := 1) (pc2 := 109) (lv2 := [(3, .int (((10 * x3) + (m.I 67 (Int32.toNatClampNeg ((m.I 69 (Int32.toNatClampNeg x1)) + x4)))) - 48)), (5, .int (m.I 67 (Int32.toNatClampNeg ((m.I 69 (Int32.toNatClampNeg x1)) + x4)))), (0, .ref 67), (1, .int x1), (2, .int x2), (4, .int x4)]) (st2 := []) (h2 := (sh_rep m.T m.I m.J)) rfl rfl rfl ?_
        refine sh_w (i := (.iinc 4 1)) (len := 3) (pc2 := 112) (lv2 := [(4, .int (x4 + 1)), (3, .int (((10 * x3) + (m.I 67 (Int32.toNatClampNeg ((m.I 69 (Int32.toNatClampNeg x1)) + x4)))) - 48)), (5, .int (m.I 67 (Int32.toNatClampNeg ((m.I 69 (Int32.toNatClampNeg x1)) + x4)))), (0, .ref 67), (1, .int x1), (2, .int x2)]) (st2 := []) (h2 := (sh_rep m.T m.I m.J)) rfl rfl rfl ?_
        refine sh_w (i := (.goto (-51))) (len := 3) (pc2 := 61) (lv2 := [(4, .int (x4 + 1)), (3, .int (((10 * x3) + (m.I 67 (Int32.toNatClampNeg ((m.I 69 (Int32.toNatClampNeg x1)) + x4)))) - 48)), (5, .int (m.I 67 (Int32.toNatClampNeg ((m.I 69 (Int32.toNatClampNeg x1)) + x4)))), (0, .ref 67), (1, .int x1), (2, .int x2)]) (st2 := []) (h2 := (sh_rep m.T m.I m.J)) rfl rfl rfl ?_
        exact kk
      obtain rfl := Option.some.inj e
      exact sh_Lk_sub (sh_sub_c rfl (sh_sub_c rfl (sh_sub_c rfl (sh_sub_c rfl (sh_sub_c rfl (sh_sub_n)))))) tg
    · refine sh_Lk_lift (T := m.T) (I := m.I) (J := m.J) (s := m.s) (pc2 := 97) (lv2 := [(5, .int (m.I 67 (Int32.toNatClampNeg ((m.I 69 (Int32.toNatClampNeg x1)) + x4)))), (0, .ref 67), (1, .int x1), (2, .int x2), (3, .int x3), (4, .int x4)]) (st2 := [.int (-1)]) (I2 := m.I) (J2 := m.J) (fun hT v kk => ?_) ?_
      · refine sh_j0 (c := .ne) (off := (5)) (pc2 := 96) false rfl (sh_Znef c) rfl ?_
        refine sh_w (i := (.iconst (-1))) (len := 1) (pc2 := 97) (lv2 := [(5, .int (m.I 67 (Int32.toNatClampNeg ((m.I 69 (Int32.toNatClampNeg x1)) + x4)))), (0, .ref 67), (1, .int x1), (2, .int x2), (3, .int x3), (4, .int x4)]) (st2 := [.int (-1)]) (h2 := (sh_rep m.T m.I m.J)) rfl rfl rfl ?_
        exact kk
      obtain rfl := Option.some.inj e
      obtain ⟨rfl, rfl⟩ := tg
      exact sh_Lk_ret (i := .ireturn) rfl rfl rfl (Nat.le_of_ble_eq_true rfl) (Nat.le_of_ble_eq_true rfl)
  · refine sh_Lk_lift (T := m.T) (I := m.I) (J := m.J) (s := m.s) (pc2 := 124) (lv2 := [(0, .ref 67), (1, .int x1), (2, .int x2), (3, .int x3), (4, .int x4)]) (st2 := [.int x1, .ref 70, .ref 68]) (I2 := m.I) (J2 := m.J) (fun hT v kk => ?_) ?_
    · refine sh_jc (c := .ge) (off := (46)) (pc2 := 115) true rfl (sh_Bget c) rfl ?_
      refine sh_w (i := (.aload_n 0)) (len := 1) (pc2 := 116) (lv2 := [(0, .ref 67), (1, .int x1), (2, .int x2), (3, .int x3), (4, .int x4)]) (st2 := [.ref 67]) (h2 := (sh_rep m.T m.I m.J)) rfl rfl rfl ?_
      refine sh_gR1 (len := 3) (x := .ref 68) (pc2 := 119) rfl rfl (sh_s66 hT.st) rfl rfl ?_
      refine sh_w (i := (.aload_n 0)) (len := 1) (pc2 := 120) (lv2 := [(0, .ref 67), (1, .int x1), (2, .int x2), (3, .int x3), (4, .int x4)]) (st2 := [.ref 67, .ref 68]) (h2 := (sh_rep m.T m.I m.J)) rfl rfl rfl ?_
      refine sh_gR1 (len := 3) (x := .ref 70) (pc2 := 123) rfl rfl (sh_s66 hT.st) rfl rfl ?_
      refine sh_w (i := (.iload_n 1)) (len := 1) (pc2 := 124) (lv2 := [(0, .ref 67), (1, .int x1), (2, .int x2), (3, .int x3), (4, .int x4)]) (st2 := [.int x1, .ref 70, .ref 68]) (h2 := (sh_rep m.T m.I m.J)) rfl rfl rfl ?_
      exact kk
    obtain ⟨c, e⟩ := sh_gd e
    refine sh_Lk_lift (T := m.T) (I := m.I) (J := m.J) (s := m.s) (pc2 := 127) (lv2 := [(0, .ref 67), (1, .int x1), (2, .int x2), (3, .int x3), (4, .int x4)]) (st2 := [.int ((m.I 69 (Int32.toNatClampNeg x1)) + 1), .ref 68]) (I2 := m.I) (J2 := m.J) (fun hT v kk => ?_) ?_
    · refine sh_ia1 (x := m.I 69 (Int32.toNatClampNeg x1)) (pc2 := 125) rfl (sh_s69 hT.st) (sh_okb1 c) (sh_okb2 c) rfl rfl ?_
      refine sh_w (i := (.iconst 1)) (len := 1) (pc2 := 126) (lv2 := [(0, .ref 67), (1, .int x1), (2, .int x2), (3, .int x3), (4, .int x4)]) (st2 := [.int 1, .int (m.I 69 (Int32.toNatClampNeg x1)), .ref 68]) (h2 := (sh_rep m.T m.I m.J)) rfl rfl rfl ?_
      refine sh_w (i := .iadd) (len := 1) (pc2 := 127) (lv2 := [(0, .ref 67), (1, .int x1), (2, .int x2), (3, .int x3), (4, .int x4)]) (st2 := [.int ((m.I 69 (Int32.toNatClampNeg x1)) + 1), .ref 68]) (h2 := (sh_rep m.T m.I m.J)) rfl rfl rfl ?_
      exact kk
    obtain ⟨c, e⟩ := sh_gd e
    refine sh_Lk_lift (T := m.T) (I := m.I) (J := m.J) (s := m.s) (pc2 := 130) (lv2 := [(0, .ref 67), (1, .int x1), (2, .int x2), (3, .int x3), (4, .int x4)]) (st2 := [.int 48, .int (m.I 67 (Int32.toNatClampNeg ((m.I 69 (Int32.toNatClampNeg x1)) + 1)))]) (I2 := m.I) (J2 := m.J) (fun hT v kk => ?_) ?_
    · refine sh_ba1 (x := m.I 67 (Int32.toNatClampNeg ((m.I 69 (Int32.toNatClampNeg x1)) + 1))) (pc2 := 128) rfl (sh_s67 hT.st) (Or.inl rfl) (sh_okb1 c) (sh_okb2 c) rfl rfl ?_
      refine sh_w (i := (.bipush 48)) (len := 2) (pc2 := 130) (lv2 := [(0, .ref 67), (1, .int x1), (2, .int x2), (3, .int x3), (4, .int x4)]) (st2 := [.int 48, .int (m.I 67 (Int32.toNatClampNeg ((m.I 69 (Int32.toNatClampNeg x1)) + 1)))]) (h2 := (sh_rep m.T m.I m.J)) rfl rfl rfl ?_
      exact kk
    rcases sh_ite e with ⟨c, e⟩ | ⟨c, e⟩
    · refine sh_Lk_lift (T := m.T) (I := m.I) (J := m.J) (s := m.s) (pc2 := 163) (lv2 := [(0, .ref 67), (1, .int x1), (2, .int x2), (3, .int x3), (4, .int x4)]) (st2 := [.int (-1)]) (I2 := m.I) (J2 := m.J) (fun hT v kk => ?_) ?_
      · refine sh_jc (c := .eq) (off := (32)) (pc2 := 162) true rfl (sh_Beqt c) rfl ?_
        refine sh_w (i := (.iconst (-1))) (len := 1) (pc2 := 163) (lv2 := [(0, .ref 67), (1, .int x1), (2, .int x2), (3, .int x3), (4, .int x4)]) (st2 := [.int (-1)]) (h2 := (sh_rep m.T m.I m.J)) rfl rfl rfl ?_
        exact kk
      obtain rfl := Option.some.inj e
      obtain ⟨rfl, rfl⟩ := tg
      exact sh_Lk_ret (i := .ireturn) rfl rfl rfl (Nat.le_of_ble_eq_true rfl) (Nat.le_of_ble_eq_true rfl)
    · refine sh_Lk_lift (T := m.T) (I := m.I) (J := m.J) (s := m.s) (pc2 := 136) (lv2 := [(0, .ref 67), (1, .int x1), (2, .int x2), (3, .int x3), (4, .int x4)]) (st2 := [.int 64, .int x3]) (I2 := m.I) (J2 := m.J) (fun hT v kk => ?_) ?_
      · refine sh_jc (c := .eq) (off := (32)) (pc2 := 133) false rfl (sh_Beqf c) rfl ?_
        refine sh_w (i := (.iload_n 3)) (len := 1) (pc2 := 134) (lv2 := [(0, .ref 67), (1, .int x1), (2, .int x2), (3, .int x3), (4, .int x4)]) (st2 := [.int x3]) (h2 := (sh_rep m.T m.I m.J)) rfl rfl rfl ?_
        refine sh_w (i := (.bipush 64)) (len := 2) (pc2 := 136) (lv2 := [(0, .ref 67), (1, .int x1), (2, .int x2), (3, .int x3), (4, .int x4)]) (st2 := [.int 64, .int x3]) (h2 := (sh_rep m.T m.I m.J)) rfl rfl rfl ?_
        exact kk
      rcases sh_ite e with ⟨c, e⟩ | ⟨c, e⟩
      · refine sh_Lk_lift (T := m.T) (I := m.I) (J := m.J) (s := m.s) (pc2 := 163) (lv2 := [(0, .ref 67), (1, .int x1), (2, .int x2), (3, .int x3), (4, .int x4)]) (st2 := [.int (-1)]) (I2 := m.I) (J2 := m.J) (fun hT v kk => ?_) ?_
        · refine sh_jc (c := .gt) (off := (26)) (pc2 := 162) true rfl (sh_Bgtt c) rfl ?_
          refine sh_w (i := (.iconst (-1))) (len := 1) (pc2 := 163) (lv2 := [(0, .ref 67), (1, .int x1), (2, .int x2), (3, .int x3), (4, .int x4)]) (st2 := [.int (-1)]) (h2 := (sh_rep m.T m.I m.J)) rfl rfl rfl ?_
          exact kk
        obtain rfl := Option.some.inj e
        obtain ⟨rfl, rfl⟩ := tg
        exact sh_Lk_ret (i := .ireturn) rfl rfl rfl (Nat.le_of_ble_eq_true rfl) (Nat.le_of_ble_eq_true rfl)
      · refine sh_Lk_lift (T := m.T) (I := m.I) (J := m.J) (s := m.s) (pc2 := 142) (lv2 := [(0, .ref 67), (1, .int x1), (2, .int x2), (3, .int x3), (4, .int x4)]) (st2 := [.int 117, .int x2]) (I2 := m.I) (J2 := m.J) (fun hT v kk => ?_) ?_
        · refine sh_jc (c := .gt) (off := (26)) (pc2 := 139) false rfl (sh_Bgtf c) rfl ?_
          refine sh_w (i := (.iload_n 2)) (len := 1) (pc2 := 140) (lv2 := [(0, .ref 67), (1, .int x1), (2, .int x2), (3, .int x3), (4, .int x4)]) (st2 := [.int x2]) (h2 := (sh_rep m.T m.I m.J)) rfl rfl rfl ?_
          refine sh_w (i := (.bipush 117)) (len := 2) (pc2 := 142) (lv2 := [(0, .ref 67), (1, .int x1), (2, .int x2), (3, .int x3), (4, .int x4)]) (st2 := [.int 117, .int x2]) (h2 := (sh_rep m.T m.I m.J)) rfl rfl rfl ?_
          exact kk
        rcases sh_ite e with ⟨c, e⟩ | ⟨c, e⟩
        · refine sh_Lk_lift (T := m.T) (I := m.I) (J := m.J) (s := m.s) (pc2 := 151) (lv2 := [(0, .ref 67), (1, .int x1), (2, .int x2), (3, .int x3), (4, .int x4)]) (st2 := []) (I2 := m.I) (J2 := m.J) (fun hT v kk => ?_) ?_
          · refine sh_jc (c := .eq) (off := (9)) (pc2 := 151) true rfl (sh_Beqt c) rfl ?_
            exact kk
          obtain ⟨_, eu, rfl⟩ := sh_up_e e
          exact sh_Lk_sub (sh_sub_c rfl (sh_sub_c rfl (sh_sub_n))) (sl_261_151 eu tg)
        · refine sh_Lk_lift (T := m.T) (I := m.I) (J := m.J) (s := m.s) (pc2 := 148) (lv2 := [(0, .ref 67), (1, .int x1), (2, .int x2), (3, .int x3), (4, .int x4)]) (st2 := [.int 105, .int x2]) (I2 := m.I) (J2 := m.J) (fun hT v kk => ?_) ?_
          · refine sh_jc (c := .eq) (off := (9)) (pc2 := 145) false rfl (sh_Beqf c) rfl ?_
            refine sh_w (i := (.iload_n 2)) (len := 1) (pc2 := 146) (lv2 := [(0, .ref 67), (1, .int x1), (2, .int x2), (3, .int x3), (4, .int x4)]) (st2 := [.int x2]) (h2 := (sh_rep m.T m.I m.J)) rfl rfl rfl ?_
            refine sh_w (i := (.bipush 105)) (len := 2) (pc2 := 148) (lv2 := [(0, .ref 67), (1, .int x1), (2, .int x2), (3, .int x3), (4, .int x4)]) (st2 := [.int 105, .int x2]) (h2 := (sh_rep m.T m.I m.J)) rfl rfl rfl ?_
            exact kk
          rcases sh_ite e with ⟨c, e⟩ | ⟨c, e⟩
          · refine sh_Lk_lift (T := m.T) (I := m.I) (J := m.J) (s := m.s) (pc2 := 151) (lv2 := [(0, .ref 67), (1, .int x1), (2, .int x2), (3, .int x3), (4, .int x4)]) (st2 := []) (I2 := m.I) (J2 := m.J) (fun hT v kk => ?_) ?_
            · refine sh_jc (c := .ne) (off := (14)) (pc2 := 151) false rfl (sh_Bnef c) rfl ?_
              exact kk
            obtain ⟨_, eu, rfl⟩ := sh_up_e e
            exact sh_Lk_sub (sh_sub_c rfl (sh_sub_c rfl (sh_sub_n))) (sl_261_151 eu tg)
          · refine sh_Lk_lift (T := m.T) (I := m.I) (J := m.J) (s := m.s) (pc2 := 163) (lv2 := [(0, .ref 67), (1, .int x1), (2, .int x2), (3, .int x3), (4, .int x4)]) (st2 := [.int (-1)]) (I2 := m.I) (J2 := m.J) (fun hT v kk => ?_) ?_
            · refine sh_jc (c := .ne) (off := (14)) (pc2 := 162) true rfl (sh_Bnet c) rfl ?_
              refine sh_w (i := (.iconst (-1))) (len := 1) (pc2 := 163) (lv2 := [(0, .ref 67), (1, .int x1), (2, .int x2), (3, .int x3), (4, .int x4)]) (st2 := [.int (-1)]) (h2 := (sh_rep m.T m.I m.J)) rfl rfl rfl ?_
              exact kk
            obtain rfl := Option.some.inj e
            obtain ⟨rfl, rfl⟩ := tg
            exact sh_Lk_ret (i := .ireturn) rfl rfl rfl (Nat.le_of_ble_eq_true rfl) (Nat.le_of_ble_eq_true rfl)
theorem sl_261_61 {x1 : Int32} {x2 : Int32} {x3 : Int32} {x4 : Int32} {m m2 : sh_X} {o : Outcome} {z : Int32} (e : sf_261_61 x1 x2 x3 x4 m = some z) (tg : (sh_tIc m o m2) z) : sh_Lk 261 61 [(0, .ref 67), (1, .int x1), (2, .int x2), (3, .int x3), (4, .int x4)] [] m o m2 31 623 := by
  unfold sf_261_61 at e
  exact sh_while_lk (P := fun q => sh_Lk 261 61 [(0, .ref 67), (1, .int x1), (2, .int x2), (3, .int q.1), (4, .int q.2)] [] m o m2 31 623) (Q := (sh_tIc m o m2)) (fun q z e tg => sl_261_61s (x1 := x1) (x2 := x2) (x3 := q.1) (x4 := q.2) (m := m) e tg) (s := (x3, x4)) e tg
theorem sl_261 {x1 : Int32} {m m2 : sh_X} {o : Outcome} {z : Int32} (e : sf_261 x1 m = some z) (tg : (sh_tIc m o m2) z) : sh_Lk 261 0 [(0, .ref 67), (1, .int x1)] [] m o m2 31 623 := by
  unfold sf_261 at e
  refine sh_Lk_lift (T := m.T) (I := m.I) (J := m.J) (s := m.s) (pc2 := 4) (lv2 := [(0, .ref 67), (1, .int x1)]) (st2 := [.ref 1000011, .int x1, .ref 67]) (I2 := m.I) (J2 := m.J) (fun hT v kk => ?_) ?_
  · refine sh_w (i := (.aload_n 0)) (len := 1) (pc2 := 1) (lv2 := [(0, .ref 67), (1, .int x1)]) (st2 := [.ref 67]) (h2 := (sh_rep m.T m.I m.J)) rfl rfl rfl ?_
    refine sh_w (i := (.iload_n 1)) (len := 1) (pc2 := 2) (lv2 := [(0, .ref 67), (1, .int x1)]) (st2 := [.int x1, .ref 67]) (h2 := (sh_rep m.T m.I m.J)) rfl rfl rfl ?_
    refine sh_w (i := (.ldc 244)) (len := 2) (pc2 := 4) (lv2 := [(0, .ref 67), (1, .int x1)]) (st2 := [.ref 1000011, .int x1, .ref 67]) (h2 := (sh_rep m.T m.I m.J)) rfl rfl rfl ?_
    exact kk
  obtain ⟨r1, e1, e⟩ := sh_bc_e e
  refine sh_Lk_cV (r := (some (.int (sh_b2 r1)))) (st2 := [.int (sh_b2 r1)]) (pc2 := 7) (k2 := 256) (a := 66) (as := [.ref 67, .int x1, .ref 1000011]) (rest := []) rfl rfl rfl (fun hT => (sh_s66 hT.st)) rfl rfl ⟨Nat.le_of_ble_eq_true rfl, Nat.le_of_ble_eq_true rfl⟩ (sl_256 e1 ⟨rfl, rfl⟩) rfl rfl (Nat.le_of_ble_eq_true rfl) (Nat.le_of_ble_eq_true rfl) ?_
  rcases sh_ite e with ⟨c, e⟩ | ⟨c, e⟩
  · refine sh_Lk_lift (T := m.T) (I := m.I) (J := m.J) (s := m.s) (pc2 := 11) (lv2 := [(0, .ref 67), (1, .int x1)]) (st2 := [.int 0]) (I2 := m.I) (J2 := m.J) (fun hT v kk => ?_) ?_
    · refine sh_j0 (c := .eq) (off := (5)) (pc2 := 10) false rfl (sh_Zeqf c) rfl ?_
      refine sh_w (i := (.iconst 0)) (len := 1) (pc2 := 11) (lv2 := [(0, .ref 67), (1, .int x1)]) (st2 := [.int 0]) (h2 := (sh_rep m.T m.I m.J)) rfl rfl rfl ?_
      exact kk
    obtain rfl := Option.some.inj e
    obtain ⟨rfl, rfl⟩ := tg
    exact sh_Lk_ret (i := .ireturn) rfl rfl rfl (Nat.le_of_ble_eq_true rfl) (Nat.le_of_ble_eq_true rfl)
  · refine sh_Lk_lift (T := m.T) (I := m.I) (J := m.J) (s := m.s) (pc2 := 17) (lv2 := [(0, .ref 67), (1, .int x1)]) (st2 := [.int x1, .ref 69]) (I2 := m.I) (J2 := m.J) (fun hT v kk => ?_) ?_
    · refine sh_j0 (c := .eq) (off := (5)) (pc2 := 12) true rfl (sh_Zeqt c) rfl ?_
      refine sh_w (i := (.aload_n 0)) (len := 1) (pc2 := 13) (lv2 := [(0, .ref 67), (1, .int x1)]) (st2 := [.ref 67]) (h2 := (sh_rep m.T m.I m.J)) rfl rfl rfl ?_
      refine sh_gR1 (len := 3) (x := .ref 69) (pc2 := 16) rfl rfl (sh_s66 hT.st) rfl rfl ?_
      refine sh_w (i := (.iload_n 1)) (len := 1) (pc2 := 17) (lv2 := [(0, .ref 67), (1, .int x1)]) (st2 := [.int x1, .ref 69]) (h2 := (sh_rep m.T m.I m.J)) rfl rfl rfl ?_
      exact kk
    obtain ⟨c, e⟩ := sh_gd e
    refine sh_Lk_lift (T := m.T) (I := m.I) (J := m.J) (s := m.s) (pc2 := 19) (lv2 := [(0, .ref 67), (1, .int x1)]) (st2 := [.int 1, .int (m.I 68 (Int32.toNatClampNeg x1))]) (I2 := m.I) (J2 := m.J) (fun hT v kk => ?_) ?_
    · refine sh_ia1 (x := m.I 68 (Int32.toNatClampNeg x1)) (pc2 := 18) rfl (sh_s68 hT.st) (sh_okb1 c) (sh_okb2 c) rfl rfl ?_
      refine sh_w (i := (.iconst 1)) (len := 1) (pc2 := 19) (lv2 := [(0, .ref 67), (1, .int x1)]) (st2 := [.int 1, .int (m.I 68 (Int32.toNatClampNeg x1))]) (h2 := (sh_rep m.T m.I m.J)) rfl rfl rfl ?_
      exact kk
    rcases sh_ite e with ⟨c, e⟩ | ⟨c, e⟩
    · refine sh_Lk_lift (T := m.T) (I := m.I) (J := m.J) (s := m.s) (pc2 := 27) (lv2 := [(0, .ref 67), (1, .int x1)]) (st2 := [.int x1, .ref 71]) (I2 := m.I) (J2 := m.J) (fun hT v kk => ?_) ?_
      · refine sh_jc (c := .ne) (off := (23)) (pc2 := 22) false rfl (sh_Bnef c) rfl ?_
        refine sh_w (i := (.aload_n 0)) (len := 1) (pc2 := 23) (lv2 := [(0, .ref 67), (1, .int x1)]) (st2 := [.ref 67]) (h2 := (sh_rep m.T m.I m.J)) rfl rfl rfl ?_
        refine sh_gR1 (len := 3) (x := .ref 71) (pc2 := 26) rfl rfl (sh_s66 hT.st) rfl rfl ?_
        refine sh_w (i := (.iload_n 1)) (len := 1) (pc2 := 27) (lv2 := [(0, .ref 67), (1, .int x1)]) (st2 := [.int x1, .ref 71]) (h2 := (sh_rep m.T m.I m.J)) rfl rfl rfl ?_
        exact kk
      obtain ⟨c, e⟩ := sh_gd e
      refine sh_Lk_lift (T := m.T) (I := m.I) (J := m.J) (s := m.s) (pc2 := 29) (lv2 := [(0, .ref 67), (1, .int x1)]) (st2 := [.int 2, .int (m.I 70 (Int32.toNatClampNeg x1))]) (I2 := m.I) (J2 := m.J) (fun hT v kk => ?_) ?_
      · refine sh_ia1 (x := m.I 70 (Int32.toNatClampNeg x1)) (pc2 := 28) rfl (sh_s70 hT.st) (sh_okb1 c) (sh_okb2 c) rfl rfl ?_
        refine sh_w (i := (.iconst 2)) (len := 1) (pc2 := 29) (lv2 := [(0, .ref 67), (1, .int x1)]) (st2 := [.int 2, .int (m.I 70 (Int32.toNatClampNeg x1))]) (h2 := (sh_rep m.T m.I m.J)) rfl rfl rfl ?_
        exact kk
      rcases sh_ite e with ⟨c, e⟩ | ⟨c, e⟩
      · refine sh_Lk_lift (T := m.T) (I := m.I) (J := m.J) (s := m.s) (pc2 := 43) (lv2 := [(0, .ref 67), (1, .int x1)]) (st2 := [.int (-1)]) (I2 := m.I) (J2 := m.J) (fun hT v kk => ?_) ?_
        · refine sh_jc (c := .lt) (off := (13)) (pc2 := 42) true rfl (sh_Bltt c) rfl ?_
          refine sh_w (i := (.iconst (-1))) (len := 1) (pc2 := 43) (lv2 := [(0, .ref 67), (1, .int x1)]) (st2 := [.int (-1)]) (h2 := (sh_rep m.T m.I m.J)) rfl rfl rfl ?_
          exact kk
        obtain rfl := Option.some.inj e
        obtain ⟨rfl, rfl⟩ := tg
        exact sh_Lk_ret (i := .ireturn) rfl rfl rfl (Nat.le_of_ble_eq_true rfl) (Nat.le_of_ble_eq_true rfl)
      · refine sh_Lk_lift (T := m.T) (I := m.I) (J := m.J) (s := m.s) (pc2 := 37) (lv2 := [(0, .ref 67), (1, .int x1)]) (st2 := [.int x1, .ref 71]) (I2 := m.I) (J2 := m.J) (fun hT v kk => ?_) ?_
        · refine sh_jc (c := .lt) (off := (13)) (pc2 := 32) false rfl (sh_Bltf c) rfl ?_
          refine sh_w (i := (.aload_n 0)) (len := 1) (pc2 := 33) (lv2 := [(0, .ref 67), (1, .int x1)]) (st2 := [.ref 67]) (h2 := (sh_rep m.T m.I m.J)) rfl rfl rfl ?_
          refine sh_gR1 (len := 3) (x := .ref 71) (pc2 := 36) rfl rfl (sh_s66 hT.st) rfl rfl ?_
          refine sh_w (i := (.iload_n 1)) (len := 1) (pc2 := 37) (lv2 := [(0, .ref 67), (1, .int x1)]) (st2 := [.int x1, .ref 71]) (h2 := (sh_rep m.T m.I m.J)) rfl rfl rfl ?_
          exact kk
        obtain ⟨c, e⟩ := sh_gd e
        refine sh_Lk_lift (T := m.T) (I := m.I) (J := m.J) (s := m.s) (pc2 := 39) (lv2 := [(0, .ref 67), (1, .int x1)]) (st2 := [.int 3, .int (m.I 70 (Int32.toNatClampNeg x1))]) (I2 := m.I) (J2 := m.J) (fun hT v kk => ?_) ?_
        · refine sh_ia1 (x := m.I 70 (Int32.toNatClampNeg x1)) (pc2 := 38) rfl (sh_s70 hT.st) (sh_okb1 c) (sh_okb2 c) rfl rfl ?_
          refine sh_w (i := (.iconst 3)) (len := 1) (pc2 := 39) (lv2 := [(0, .ref 67), (1, .int x1)]) (st2 := [.int 3, .int (m.I 70 (Int32.toNatClampNeg x1))]) (h2 := (sh_rep m.T m.I m.J)) rfl rfl rfl ?_
          exact kk
        rcases sh_ite e with ⟨c, e⟩ | ⟨c, e⟩
        · refine sh_Lk_lift (T := m.T) (I := m.I) (J := m.J) (s := m.s) (pc2 := 43) (lv2 := [(0, .ref 67), (1, .int x1)]) (st2 := [.int (-1)]) (I2 := m.I) (J2 := m.J) (fun hT v kk => ?_) ?_
          · refine sh_jc (c := .le) (off := (5)) (pc2 := 42) false rfl (sh_Blef c) rfl ?_
            refine sh_w (i := (.iconst (-1))) (len := 1) (pc2 := 43) (lv2 := [(0, .ref 67), (1, .int x1)]) (st2 := [.int (-1)]) (h2 := (sh_rep m.T m.I m.J)) rfl rfl rfl ?_
            exact kk
          obtain rfl := Option.some.inj e
          obtain ⟨rfl, rfl⟩ := tg
          exact sh_Lk_ret (i := .ireturn) rfl rfl rfl (Nat.le_of_ble_eq_true rfl) (Nat.le_of_ble_eq_true rfl)
        · refine sh_Lk_lift (T := m.T) (I := m.I) (J := m.J) (s := m.s) (pc2 := 53) (lv2 := [(0, .ref 67), (1, .int x1)]) (st2 := [.int x1, .ref 70, .ref 68]) (I2 := m.I) (J2 := m.J) (fun hT v kk => ?_) ?_
          · refine sh_jc (c := .le) (off := (5)) (pc2 := 44) true rfl (sh_Blet c) rfl ?_
            refine sh_w (i := (.aload_n 0)) (len := 1) (pc2 := 45) (lv2 := [(0, .ref 67), (1, .int x1)]) (st2 := [.ref 67]) (h2 := (sh_rep m.T m.I m.J)) rfl rfl rfl ?_
            refine sh_gR1 (len := 3) (x := .ref 68) (pc2 := 48) rfl rfl (sh_s66 hT.st) rfl rfl ?_
            refine sh_w (i := (.aload_n 0)) (len := 1) (pc2 := 49) (lv2 := [(0, .ref 67), (1, .int x1)]) (st2 := [.ref 67, .ref 68]) (h2 := (sh_rep m.T m.I m.J)) rfl rfl rfl ?_
            refine sh_gR1 (len := 3) (x := .ref 70) (pc2 := 52) rfl rfl (sh_s66 hT.st) rfl rfl ?_
            refine sh_w (i := (.iload_n 1)) (len := 1) (pc2 := 53) (lv2 := [(0, .ref 67), (1, .int x1)]) (st2 := [.int x1, .ref 70, .ref 68]) (h2 := (sh_rep m.T m.I m.J)) rfl rfl rfl ?_
            exact kk
          obtain ⟨c, e⟩ := sh_gd e
          refine sh_Lk_lift (T := m.T) (I := m.I) (J := m.J) (s := m.s) (pc2 := 54) (lv2 := [(0, .ref 67), (1, .int x1)]) (st2 := [.int (m.I 69 (Int32.toNatClampNeg x1)), .ref 68]) (I2 := m.I) (J2 := m.J) (fun hT v kk => ?_) ?_
          · refine sh_ia1 (x := m.I 69 (Int32.toNatClampNeg x1)) (pc2 := 54) rfl (sh_s69 hT.st) (sh_okb1 c) (sh_okb2 c) rfl rfl ?_
            exact kk
          obtain ⟨c, e⟩ := sh_gd e
          refine sh_Lk_lift (T := m.T) (I := m.I) (J := m.J) (s := m.s) (pc2 := 61) (lv2 := [(4, .int 1), (3, .int 0), (2, .int (m.I 67 (Int32.toNatClampNeg (m.I 69 (Int32.toNatClampNeg x1))))), (0, .ref 67), (1, .int x1)]) (st2 := []) (I2 := m.I) (J2 := m.J) (fun hT v kk => ?_) ?_
          · refine sh_ba1 (x := m.I 67 (Int32.toNatClampNeg (m.I 69 (Int32.toNatClampNeg x1)))) (pc2 := 55) rfl (sh_s67 hT.st) (Or.inl rfl) (sh_okb1 c) (sh_okb2 c) rfl rfl ?_
            refine sh_w (i := (.istore_n 2)) (len := 1) (pc2 := 56) (lv2 := [(2, .int (m.I 67 (Int32.toNatClampNeg (m.I 69 (Int32.toNatClampNeg x1))))), (0, .ref 67), (1, .int x1)]) (st2 := []) (h2 := (sh_rep m.T m.I m.J)) rfl rfl rfl ?_
            refine sh_w (i := (.iconst 0)) (len := 1) (pc2 := 57) (lv2 := [(2, .int (m.I 67 (Int32.toNatClampNeg (m.I 69 (Int32.toNatClampNeg x1))))), (0, .ref 67), (1, .int x1)]) (st2 := [.int 0]) (h2 := (sh_rep m.T m.I m.J)) rfl rfl rfl ?_
            refine sh_w (i := (.istore_n 3)) (len := 1) (pc2 := 58) (lv2 := [(3, .int 0), (2, .int (m.I 67 (Int32.toNatClampNeg (m.I 69 (Int32.toNatClampNeg x1))))), (0, .ref 67), (1, .int x1)]) (st2 := []) (h2 := (sh_rep m.T m.I m.J)) rfl rfl rfl ?_
            refine sh_w (i := (.iconst 1)) (len := 1) (pc2 := 59) (lv2 := [(3, .int 0), (2, .int (m.I 67 (Int32.toNatClampNeg (m.I 69 (Int32.toNatClampNeg x1))))), (0, .ref 67), (1, .int x1)]) (st2 := [.int 1]) (h2 := (sh_rep m.T m.I m.J)) rfl rfl rfl ?_
            refine sh_w (i := (.istore 4)) (len := 2) (pc2 := 61) (lv2 := [(4, .int 1), (3, .int 0), (2, .int (m.I 67 (Int32.toNatClampNeg (m.I 69 (Int32.toNatClampNeg x1))))), (0, .ref 67), (1, .int x1)]) (st2 := []) (h2 := (sh_rep m.T m.I m.J)) rfl rfl rfl ?_
            exact kk
          exact sh_Lk_sub (sh_sub_c rfl (sh_sub_c rfl (sh_sub_c rfl (sh_sub_c rfl (sh_sub_c rfl (sh_sub_n)))))) (sl_261_61 e tg)
    · refine sh_Lk_lift (T := m.T) (I := m.I) (J := m.J) (s := m.s) (pc2 := 43) (lv2 := [(0, .ref 67), (1, .int x1)]) (st2 := [.int (-1)]) (I2 := m.I) (J2 := m.J) (fun hT v kk => ?_) ?_
      · refine sh_jc (c := .ne) (off := (23)) (pc2 := 42) true rfl (sh_Bnet c) rfl ?_
        refine sh_w (i := (.iconst (-1))) (len := 1) (pc2 := 43) (lv2 := [(0, .ref 67), (1, .int x1)]) (st2 := [.int (-1)]) (h2 := (sh_rep m.T m.I m.J)) rfl rfl rfl ?_
        exact kk
      obtain rfl := Option.some.inj e
      obtain ⟨rfl, rfl⟩ := tg
      exact sh_Lk_ret (i := .ireturn) rfl rfl rfl (Nat.le_of_ble_eq_true rfl) (Nat.le_of_ble_eq_true rfl)
theorem sl_259 {x1 : Int32} {m m2 : sh_X} {o : Outcome} {z : Bool} (e : sf_259 x1 m = some z) (tg : (sh_tZc m o m2) z) : sh_Lk 259 0 [(0, .ref 67), (1, .int x1)] [] m o m2 32 648 := by
  unfold sf_259 at e
  refine sh_Lk_lift (T := m.T) (I := m.I) (J := m.J) (s := m.s) (pc2 := 5) (lv2 := [(0, .ref 67), (1, .int x1)]) (st2 := [.int x1, .ref 69]) (I2 := m.I) (J2 := m.J) (fun hT v kk => ?_) ?_
  · refine sh_w (i := (.aload_n 0)) (len := 1) (pc2 := 1) (lv2 := [(0, .ref 67), (1, .int x1)]) (st2 := [.ref 67]) (h2 := (sh_rep m.T m.I m.J)) rfl rfl rfl ?_
    refine sh_gR1 (len := 3) (x := .ref 69) (pc2 := 4) rfl rfl (sh_s66 hT.st) rfl rfl ?_
    refine sh_w (i := (.iload_n 1)) (len := 1) (pc2 := 5) (lv2 := [(0, .ref 67), (1, .int x1)]) (st2 := [.int x1, .ref 69]) (h2 := (sh_rep m.T m.I m.J)) rfl rfl rfl ?_
    exact kk
  obtain ⟨c, e⟩ := sh_gd e
  refine sh_Lk_lift (T := m.T) (I := m.I) (J := m.J) (s := m.s) (pc2 := 7) (lv2 := [(0, .ref 67), (1, .int x1)]) (st2 := [.int 1, .int (m.I 68 (Int32.toNatClampNeg x1))]) (I2 := m.I) (J2 := m.J) (fun hT v kk => ?_) ?_
  · refine sh_ia1 (x := m.I 68 (Int32.toNatClampNeg x1)) (pc2 := 6) rfl (sh_s68 hT.st) (sh_okb1 c) (sh_okb2 c) rfl rfl ?_
    refine sh_w (i := (.iconst 1)) (len := 1) (pc2 := 7) (lv2 := [(0, .ref 67), (1, .int x1)]) (st2 := [.int 1, .int (m.I 68 (Int32.toNatClampNeg x1))]) (h2 := (sh_rep m.T m.I m.J)) rfl rfl rfl ?_
    exact kk
  rcases sh_ite e with ⟨c, e⟩ | ⟨c, e⟩
  · refine sh_Lk_lift (T := m.T) (I := m.I) (J := m.J) (s := m.s) (pc2 := 12) (lv2 := [(0, .ref 67), (1, .int x1)]) (st2 := [.int x1, .ref 67]) (I2 := m.I) (J2 := m.J) (fun hT v kk => ?_) ?_
    · refine sh_jc (c := .ne) (off := (23)) (pc2 := 10) false rfl (sh_Bnef c) rfl ?_
      refine sh_w (i := (.aload_n 0)) (len := 1) (pc2 := 11) (lv2 := [(0, .ref 67), (1, .int x1)]) (st2 := [.ref 67]) (h2 := (sh_rep m.T m.I m.J)) rfl rfl rfl ?_
      refine sh_w (i := (.iload_n 1)) (len := 1) (pc2 := 12) (lv2 := [(0, .ref 67), (1, .int x1)]) (st2 := [.int x1, .ref 67]) (h2 := (sh_rep m.T m.I m.J)) rfl rfl rfl ?_
      exact kk
    obtain ⟨r1, e1, e⟩ := sh_bc_e e
    refine sh_Lk_cV (r := (some (.int (sh_b2 r1)))) (st2 := [.int (sh_b2 r1)]) (pc2 := 15) (k2 := 260) (a := 66) (as := [.ref 67, .int x1]) (rest := []) rfl rfl rfl (fun hT => (sh_s66 hT.st)) rfl rfl ⟨Nat.le_of_ble_eq_true rfl, Nat.le_of_ble_eq_true rfl⟩ (sl_260 e1 ⟨rfl, rfl⟩) rfl rfl (Nat.le_of_ble_eq_true rfl) (Nat.le_of_ble_eq_true rfl) ?_
    rcases sh_ite e with ⟨c, e⟩ | ⟨c, e⟩
    · refine sh_Lk_lift (T := m.T) (I := m.I) (J := m.J) (s := m.s) (pc2 := 31) (lv2 := [(0, .ref 67), (1, .int x1)]) (st2 := [.int 0]) (I2 := m.I) (J2 := m.J) (fun hT v kk => ?_) ?_
      · refine sh_j0 (c := .ne) (off := (15)) (pc2 := 30) true rfl (sh_Znet c) rfl ?_
        refine sh_w (i := (.iconst 0)) (len := 1) (pc2 := 31) (lv2 := [(0, .ref 67), (1, .int x1)]) (st2 := [.int 0]) (h2 := (sh_rep m.T m.I m.J)) rfl rfl rfl ?_
        exact kk
      obtain rfl := Option.some.inj e
      obtain ⟨rfl, rfl⟩ := tg
      exact sh_Lk_ret (i := .ireturn) rfl rfl rfl (Nat.le_of_ble_eq_true rfl) (Nat.le_of_ble_eq_true rfl)
    · refine sh_Lk_lift (T := m.T) (I := m.I) (J := m.J) (s := m.s) (pc2 := 20) (lv2 := [(0, .ref 67), (1, .int x1)]) (st2 := [.int x1, .ref 67]) (I2 := m.I) (J2 := m.J) (fun hT v kk => ?_) ?_
      · refine sh_j0 (c := .ne) (off := (15)) (pc2 := 18) false rfl (sh_Znef c) rfl ?_
        refine sh_w (i := (.aload_n 0)) (len := 1) (pc2 := 19) (lv2 := [(0, .ref 67), (1, .int x1)]) (st2 := [.ref 67]) (h2 := (sh_rep m.T m.I m.J)) rfl rfl rfl ?_
        refine sh_w (i := (.iload_n 1)) (len := 1) (pc2 := 20) (lv2 := [(0, .ref 67), (1, .int x1)]) (st2 := [.int x1, .ref 67]) (h2 := (sh_rep m.T m.I m.J)) rfl rfl rfl ?_
        exact kk
      obtain ⟨r2, e2, e⟩ := sh_bc_e e
      refine sh_Lk_cV (r := (some (.int r2))) (st2 := [.int r2]) (pc2 := 23) (k2 := 261) (a := 66) (as := [.ref 67, .int x1]) (rest := []) rfl rfl rfl (fun hT => (sh_s66 hT.st)) rfl rfl ⟨Nat.le_of_ble_eq_true rfl, Nat.le_of_ble_eq_true rfl⟩ (sl_261 e2 ⟨rfl, rfl⟩) rfl rfl (Nat.le_of_ble_eq_true rfl) (Nat.le_of_ble_eq_true rfl) ?_
      rcases sh_ite e with ⟨c, e⟩ | ⟨c, e⟩
      · refine sh_Lk_lift (T := m.T) (I := m.I) (J := m.J) (s := m.s) (pc2 := 31) (lv2 := [(0, .ref 67), (1, .int x1)]) (st2 := [.int 1]) (I2 := m.I) (J2 := m.J) (fun hT v kk => ?_) ?_
        · refine sh_j0 (c := .ge) (off := (7)) (pc2 := 26) false rfl (sh_Bgef c) rfl ?_
          refine sh_w (i := (.iconst 1)) (len := 1) (pc2 := 27) (lv2 := [(0, .ref 67), (1, .int x1)]) (st2 := [.int 1]) (h2 := (sh_rep m.T m.I m.J)) rfl rfl rfl ?_
          refine sh_w (i := (.goto 4)) (len := 3) (pc2 := 31) (lv2 := [(0, .ref 67), (1, .int x1)]) (st2 := [.int 1]) (h2 := (sh_rep m.T m.I m.J)) rfl rfl rfl ?_
          exact kk
        obtain rfl := Option.some.inj e
        obtain ⟨rfl, rfl⟩ := tg
        exact sh_Lk_ret (i := .ireturn) rfl rfl rfl (Nat.le_of_ble_eq_true rfl) (Nat.le_of_ble_eq_true rfl)
      · refine sh_Lk_lift (T := m.T) (I := m.I) (J := m.J) (s := m.s) (pc2 := 31) (lv2 := [(0, .ref 67), (1, .int x1)]) (st2 := [.int 0]) (I2 := m.I) (J2 := m.J) (fun hT v kk => ?_) ?_
        · refine sh_j0 (c := .ge) (off := (7)) (pc2 := 30) true rfl (sh_Bget c) rfl ?_
          refine sh_w (i := (.iconst 0)) (len := 1) (pc2 := 31) (lv2 := [(0, .ref 67), (1, .int x1)]) (st2 := [.int 0]) (h2 := (sh_rep m.T m.I m.J)) rfl rfl rfl ?_
          exact kk
        obtain rfl := Option.some.inj e
        obtain ⟨rfl, rfl⟩ := tg
        exact sh_Lk_ret (i := .ireturn) rfl rfl rfl (Nat.le_of_ble_eq_true rfl) (Nat.le_of_ble_eq_true rfl)
  · refine sh_Lk_lift (T := m.T) (I := m.I) (J := m.J) (s := m.s) (pc2 := 31) (lv2 := [(0, .ref 67), (1, .int x1)]) (st2 := [.int 0]) (I2 := m.I) (J2 := m.J) (fun hT v kk => ?_) ?_
    · refine sh_jc (c := .ne) (off := (23)) (pc2 := 30) true rfl (sh_Bnet c) rfl ?_
      refine sh_w (i := (.iconst 0)) (len := 1) (pc2 := 31) (lv2 := [(0, .ref 67), (1, .int x1)]) (st2 := [.int 0]) (h2 := (sh_rep m.T m.I m.J)) rfl rfl rfl ?_
      exact kk
    obtain rfl := Option.some.inj e
    obtain ⟨rfl, rfl⟩ := tg
    exact sh_Lk_ret (i := .ireturn) rfl rfl rfl (Nat.le_of_ble_eq_true rfl) (Nat.le_of_ble_eq_true rfl)
theorem sl_258 {m m2 : sh_X} {o : Outcome} {z : (Bool × sh_X)} (e : sf_258 m = some z) (tg : (sh_tZ o m2) z) : sh_Lk 258 0 [(0, .ref 67)] [] m o m2 33 669 := by
  unfold sf_258 at e
  refine sh_Lk_lift (T := m.T) (I := m.I) (J := m.J) (s := m.s) (pc2 := 5) (lv2 := [(0, .ref 67)]) (st2 := [.int (m.I 66 21), .ref 67]) (I2 := m.I) (J2 := m.J) (fun hT v kk => ?_) ?_
  · refine sh_w (i := (.aload_n 0)) (len := 1) (pc2 := 1) (lv2 := [(0, .ref 67)]) (st2 := [.ref 67]) (h2 := (sh_rep m.T m.I m.J)) rfl rfl rfl ?_
    refine sh_w (i := (.aload_n 0)) (len := 1) (pc2 := 2) (lv2 := [(0, .ref 67)]) (st2 := [.ref 67, .ref 67]) (h2 := (sh_rep m.T m.I m.J)) rfl rfl rfl ?_
    refine sh_gI1 (len := 3) (x := m.I 66 21) (pc2 := 5) rfl rfl (sh_s66 hT.st) rfl rfl rfl ?_
    exact kk
  obtain ⟨r1, e1, e⟩ := sh_bc_e e
  refine sh_Lk_cV (r := (some (.int (sh_b2 r1)))) (st2 := [.int (sh_b2 r1)]) (pc2 := 8) (k2 := 259) (a := 66) (as := [.ref 67, .int (m.I 66 21)]) (rest := []) rfl rfl rfl (fun hT => (sh_s66 hT.st)) rfl rfl ⟨Nat.le_of_ble_eq_true rfl, Nat.le_of_ble_eq_true rfl⟩ (sl_259 e1 ⟨rfl, rfl⟩) rfl rfl (Nat.le_of_ble_eq_true rfl) (Nat.le_of_ble_eq_true rfl) ?_
  rcases sh_ite e with ⟨c, e⟩ | ⟨c, e⟩
  · refine sh_Lk_lift (T := m.T) (I := m.I) (J := m.J) (s := m.s) (pc2 := 37) (lv2 := [(0, .ref 67)]) (st2 := [.int 1]) (I2 := sh_u2 m.I 66 21 ((m.I 66 21) + 1)) (J2 := m.J) (fun hT v kk => ?_) ?_
    · refine sh_j0 (c := .ne) (off := (18)) (pc2 := 26) true rfl (sh_Znet c) rfl ?_
      refine sh_w (i := (.aload_n 0)) (len := 1) (pc2 := 27) (lv2 := [(0, .ref 67)]) (st2 := [.ref 67]) (h2 := (sh_rep m.T m.I m.J)) rfl rfl rfl ?_
      refine sh_w (i := .dup) (len := 1) (pc2 := 28) (lv2 := [(0, .ref 67)]) (st2 := [.ref 67, .ref 67]) (h2 := (sh_rep m.T m.I m.J)) rfl rfl rfl ?_
      refine sh_gI1 (len := 3) (x := m.I 66 21) (pc2 := 31) rfl rfl (sh_s66 hT.st) rfl rfl rfl ?_
      refine sh_w (i := (.iconst 1)) (len := 1) (pc2 := 32) (lv2 := [(0, .ref 67)]) (st2 := [.int 1, .int (m.I 66 21), .ref 67]) (h2 := (sh_rep m.T m.I m.J)) rfl rfl rfl ?_
      refine sh_w (i := .iadd) (len := 1) (pc2 := 33) (lv2 := [(0, .ref 67)]) (st2 := [.int ((m.I 66 21) + 1), .ref 67]) (h2 := (sh_rep m.T m.I m.J)) rfl rfl rfl ?_
      refine sh_pI1 (x := (m.I 66 21) + 1) (pc2 := 36) rfl rfl (sh_s66 hT.st) rfl rfl rfl rfl ?_
      refine sh_w (i := (.iconst 1)) (len := 1) (pc2 := 37) (lv2 := [(0, .ref 67)]) (st2 := [.int 1]) (h2 := (sh_rep m.T (sh_u2 m.I 66 21 ((m.I 66 21) + 1)) m.J)) rfl rfl rfl ?_
      exact kk
    obtain rfl := Option.some.inj e
    obtain ⟨rfl, rfl⟩ := tg
    exact sh_Lk_ret (i := .ireturn) rfl rfl rfl (Nat.le_of_ble_eq_true rfl) (Nat.le_of_ble_eq_true rfl)
  · refine sh_Lk_lift (T := m.T) (I := m.I) (J := m.J) (s := m.s) (pc2 := 21) (lv2 := [(0, .ref 67)]) (st2 := [.int (m.I 66 21), .ref 70, .int 2, .ref 67]) (I2 := m.I) (J2 := m.J) (fun hT v kk => ?_) ?_
    · refine sh_j0 (c := .ne) (off := (18)) (pc2 := 11) false rfl (sh_Znef c) rfl ?_
      refine sh_w (i := (.aload_n 0)) (len := 1) (pc2 := 12) (lv2 := [(0, .ref 67)]) (st2 := [.ref 67]) (h2 := (sh_rep m.T m.I m.J)) rfl rfl rfl ?_
      refine sh_w (i := (.iconst 2)) (len := 1) (pc2 := 13) (lv2 := [(0, .ref 67)]) (st2 := [.int 2, .ref 67]) (h2 := (sh_rep m.T m.I m.J)) rfl rfl rfl ?_
      refine sh_w (i := (.aload_n 0)) (len := 1) (pc2 := 14) (lv2 := [(0, .ref 67)]) (st2 := [.ref 67, .int 2, .ref 67]) (h2 := (sh_rep m.T m.I m.J)) rfl rfl rfl ?_
      refine sh_gR1 (len := 3) (x := .ref 70) (pc2 := 17) rfl rfl (sh_s66 hT.st) rfl rfl ?_
      refine sh_w (i := (.aload_n 0)) (len := 1) (pc2 := 18) (lv2 := [(0, .ref 67)]) (st2 := [.ref 67, .ref 70, .int 2, .ref 67]) (h2 := (sh_rep m.T m.I m.J)) rfl rfl rfl ?_
      refine sh_gI1 (len := 3) (x := m.I 66 21) (pc2 := 21) rfl rfl (sh_s66 hT.st) rfl rfl rfl ?_
      exact kk
    obtain ⟨c, e⟩ := sh_gd e
    refine sh_Lk_lift (T := m.T) (I := m.I) (J := m.J) (s := m.s) (pc2 := 22) (lv2 := [(0, .ref 67)]) (st2 := [.int (m.I 69 (Int32.toNatClampNeg (m.I 66 21))), .int 2, .ref 67]) (I2 := m.I) (J2 := m.J) (fun hT v kk => ?_) ?_
    · refine sh_ia1 (x := m.I 69 (Int32.toNatClampNeg (m.I 66 21))) (pc2 := 22) rfl (sh_s69 hT.st) (sh_okb1 c) (sh_okb2 c) rfl rfl ?_
      exact kk
    obtain ⟨r2, m12, e2, e⟩ := sh_bn_e e
    refine sh_Lk_cV (r := (some (.int (sh_b2 r2)))) (st2 := [.int (sh_b2 r2)]) (pc2 := 25) (k2 := 252) (a := 66) (as := [.ref 67, .int 2, .int (m.I 69 (Int32.toNatClampNeg (m.I 66 21)))]) (rest := []) rfl rfl rfl (fun hT => (sh_s66 hT.st)) rfl rfl ⟨Nat.le_of_ble_eq_true rfl, Nat.le_of_ble_eq_true rfl⟩ (sl_252 e2 ⟨rfl, rfl⟩) rfl rfl (Nat.le_of_ble_eq_true rfl) (Nat.le_of_ble_eq_true rfl) ?_
    obtain rfl := Option.some.inj e
    obtain ⟨rfl, rfl⟩ := tg
    exact sh_Lk_ret (i := .ireturn) rfl rfl (sh_rb rfl _) (Nat.le_of_ble_eq_true rfl) (Nat.le_of_ble_eq_true rfl)
theorem sl_262 {x1 : Int32} {m m2 : sh_X} {o : Outcome} {z : (Bool × sh_X)} (e : sf_262 x1 m = some z) (tg : (sh_tZ o m2) z) : sh_Lk 262 0 [(0, .ref 67), (1, .int x1)] [] m o m2 9 222 := by
  unfold sf_262 at e
  refine sh_Lk_lift (T := m.T) (I := m.I) (J := m.J) (s := m.s) (pc2 := 8) (lv2 := [(0, .ref 67), (1, .int x1)]) (st2 := [.int (m.I 66 21), .ref 69]) (I2 := m.I) (J2 := m.J) (fun hT v kk => ?_) ?_
  · refine sh_w (i := (.aload_n 0)) (len := 1) (pc2 := 1) (lv2 := [(0, .ref 67), (1, .int x1)]) (st2 := [.ref 67]) (h2 := (sh_rep m.T m.I m.J)) rfl rfl rfl ?_
    refine sh_gR1 (len := 3) (x := .ref 69) (pc2 := 4) rfl rfl (sh_s66 hT.st) rfl rfl ?_
    refine sh_w (i := (.aload_n 0)) (len := 1) (pc2 := 5) (lv2 := [(0, .ref 67), (1, .int x1)]) (st2 := [.ref 67, .ref 69]) (h2 := (sh_rep m.T m.I m.J)) rfl rfl rfl ?_
    refine sh_gI1 (len := 3) (x := m.I 66 21) (pc2 := 8) rfl rfl (sh_s66 hT.st) rfl rfl rfl ?_
    exact kk
  obtain ⟨c, e⟩ := sh_gd e
  refine sh_Lk_lift (T := m.T) (I := m.I) (J := m.J) (s := m.s) (pc2 := 10) (lv2 := [(0, .ref 67), (1, .int x1)]) (st2 := [.int x1, .int (m.I 68 (Int32.toNatClampNeg (m.I 66 21)))]) (I2 := m.I) (J2 := m.J) (fun hT v kk => ?_) ?_
  · refine sh_ia1 (x := m.I 68 (Int32.toNatClampNeg (m.I 66 21))) (pc2 := 9) rfl (sh_s68 hT.st) (sh_okb1 c) (sh_okb2 c) rfl rfl ?_
    refine sh_w (i := (.iload_n 1)) (len := 1) (pc2 := 10) (lv2 := [(0, .ref 67), (1, .int x1)]) (st2 := [.int x1, .int (m.I 68 (Int32.toNatClampNeg (m.I 66 21)))]) (h2 := (sh_rep m.T m.I m.J)) rfl rfl rfl ?_
    exact kk
  rcases sh_ite e with ⟨c, e⟩ | ⟨c, e⟩
  · refine sh_Lk_lift (T := m.T) (I := m.I) (J := m.J) (s := m.s) (pc2 := 39) (lv2 := [(0, .ref 67), (1, .int x1)]) (st2 := [.int 1]) (I2 := sh_u2 m.I 66 21 ((m.I 66 21) + 1)) (J2 := m.J) (fun hT v kk => ?_) ?_
    · refine sh_jc (c := .eq) (off := (18)) (pc2 := 28) true rfl (sh_Beqt c) rfl ?_
      refine sh_w (i := (.aload_n 0)) (len := 1) (pc2 := 29) (lv2 := [(0, .ref 67), (1, .int x1)]) (st2 := [.ref 67]) (h2 := (sh_rep m.T m.I m.J)) rfl rfl rfl ?_
      refine sh_w (i := .dup) (len := 1) (pc2 := 30) (lv2 := [(0, .ref 67), (1, .int x1)]) (st2 := [.ref 67, .ref 67]) (h2 := (sh_rep m.T m.I m.J)) rfl rfl rfl ?_
      refine sh_gI1 (len := 3) (x := m.I 66 21) (pc2 := 33) rfl rfl (sh_s66 hT.st) rfl rfl rfl ?_
      refine sh_w (i := (.iconst 1)) (len := 1) (pc2 := 34) (lv2 := [(0, .ref 67), (1, .int x1)]) (st2 := [.int 1, .int (m.I 66 21), .ref 67]) (h2 := (sh_rep m.T m.I m.J)) rfl rfl rfl ?_
      refine sh_w (i := .iadd) (len := 1) (pc2 := 35) (lv2 := [(0, .ref 67), (1, .int x1)]) (st2 := [.int ((m.I 66 21) + 1), .ref 67]) (h2 := (sh_rep m.T m.I m.J)) rfl rfl rfl ?_
      refine sh_pI1 (x := (m.I 66 21) + 1) (pc2 := 38) rfl rfl (sh_s66 hT.st) rfl rfl rfl rfl ?_
      refine sh_w (i := (.iconst 1)) (len := 1) (pc2 := 39) (lv2 := [(0, .ref 67), (1, .int x1)]) (st2 := [.int 1]) (h2 := (sh_rep m.T (sh_u2 m.I 66 21 ((m.I 66 21) + 1)) m.J)) rfl rfl rfl ?_
      exact kk
    obtain rfl := Option.some.inj e
    obtain ⟨rfl, rfl⟩ := tg
    exact sh_Lk_ret (i := .ireturn) rfl rfl rfl (Nat.le_of_ble_eq_true rfl) (Nat.le_of_ble_eq_true rfl)
  · refine sh_Lk_lift (T := m.T) (I := m.I) (J := m.J) (s := m.s) (pc2 := 23) (lv2 := [(0, .ref 67), (1, .int x1)]) (st2 := [.int (m.I 66 21), .ref 70, .int 2, .ref 67]) (I2 := m.I) (J2 := m.J) (fun hT v kk => ?_) ?_
    · refine sh_jc (c := .eq) (off := (18)) (pc2 := 13) false rfl (sh_Beqf c) rfl ?_
      refine sh_w (i := (.aload_n 0)) (len := 1) (pc2 := 14) (lv2 := [(0, .ref 67), (1, .int x1)]) (st2 := [.ref 67]) (h2 := (sh_rep m.T m.I m.J)) rfl rfl rfl ?_
      refine sh_w (i := (.iconst 2)) (len := 1) (pc2 := 15) (lv2 := [(0, .ref 67), (1, .int x1)]) (st2 := [.int 2, .ref 67]) (h2 := (sh_rep m.T m.I m.J)) rfl rfl rfl ?_
      refine sh_w (i := (.aload_n 0)) (len := 1) (pc2 := 16) (lv2 := [(0, .ref 67), (1, .int x1)]) (st2 := [.ref 67, .int 2, .ref 67]) (h2 := (sh_rep m.T m.I m.J)) rfl rfl rfl ?_
      refine sh_gR1 (len := 3) (x := .ref 70) (pc2 := 19) rfl rfl (sh_s66 hT.st) rfl rfl ?_
      refine sh_w (i := (.aload_n 0)) (len := 1) (pc2 := 20) (lv2 := [(0, .ref 67), (1, .int x1)]) (st2 := [.ref 67, .ref 70, .int 2, .ref 67]) (h2 := (sh_rep m.T m.I m.J)) rfl rfl rfl ?_
      refine sh_gI1 (len := 3) (x := m.I 66 21) (pc2 := 23) rfl rfl (sh_s66 hT.st) rfl rfl rfl ?_
      exact kk
    obtain ⟨c, e⟩ := sh_gd e
    refine sh_Lk_lift (T := m.T) (I := m.I) (J := m.J) (s := m.s) (pc2 := 24) (lv2 := [(0, .ref 67), (1, .int x1)]) (st2 := [.int (m.I 69 (Int32.toNatClampNeg (m.I 66 21))), .int 2, .ref 67]) (I2 := m.I) (J2 := m.J) (fun hT v kk => ?_) ?_
    · refine sh_ia1 (x := m.I 69 (Int32.toNatClampNeg (m.I 66 21))) (pc2 := 24) rfl (sh_s69 hT.st) (sh_okb1 c) (sh_okb2 c) rfl rfl ?_
      exact kk
    obtain ⟨r1, m11, e1, e⟩ := sh_bn_e e
    refine sh_Lk_cV (r := (some (.int (sh_b2 r1)))) (st2 := [.int (sh_b2 r1)]) (pc2 := 27) (k2 := 252) (a := 66) (as := [.ref 67, .int 2, .int (m.I 69 (Int32.toNatClampNeg (m.I 66 21)))]) (rest := []) rfl rfl rfl (fun hT => (sh_s66 hT.st)) rfl rfl ⟨Nat.le_of_ble_eq_true rfl, Nat.le_of_ble_eq_true rfl⟩ (sl_252 e1 ⟨rfl, rfl⟩) rfl rfl (Nat.le_of_ble_eq_true rfl) (Nat.le_of_ble_eq_true rfl) ?_
    obtain rfl := Option.some.inj e
    obtain ⟨rfl, rfl⟩ := tg
    exact sh_Lk_ret (i := .ireturn) rfl rfl (sh_rb rfl _) (Nat.le_of_ble_eq_true rfl) (Nat.le_of_ble_eq_true rfl)
theorem sl_263 {m m2 : sh_X} {o : Outcome} {z : (Bool × sh_X)} (e : sf_263 m = some z) (tg : (sh_tZ o m2) z) : sh_Lk 263 0 [(0, .ref 67)] [] m o m2 32 648 := by
  unfold sf_263 at e
  refine sh_Lk_lift (T := m.T) (I := m.I) (J := m.J) (s := m.s) (pc2 := 5) (lv2 := [(0, .ref 67)]) (st2 := [.int (m.I 66 21), .ref 67]) (I2 := m.I) (J2 := m.J) (fun hT v kk => ?_) ?_
  · refine sh_w (i := (.aload_n 0)) (len := 1) (pc2 := 1) (lv2 := [(0, .ref 67)]) (st2 := [.ref 67]) (h2 := (sh_rep m.T m.I m.J)) rfl rfl rfl ?_
    refine sh_w (i := (.aload_n 0)) (len := 1) (pc2 := 2) (lv2 := [(0, .ref 67)]) (st2 := [.ref 67, .ref 67]) (h2 := (sh_rep m.T m.I m.J)) rfl rfl rfl ?_
    refine sh_gI1 (len := 3) (x := m.I 66 21) (pc2 := 5) rfl rfl (sh_s66 hT.st) rfl rfl rfl ?_
    exact kk
  obtain ⟨r1, e1, e⟩ := sh_bc_e e
  refine sh_Lk_cV (r := (some (.int r1))) (st2 := [.int r1]) (pc2 := 8) (k2 := 261) (a := 66) (as := [.ref 67, .int (m.I 66 21)]) (rest := []) rfl rfl rfl (fun hT => (sh_s66 hT.st)) rfl rfl ⟨Nat.le_of_ble_eq_true rfl, Nat.le_of_ble_eq_true rfl⟩ (sl_261 e1 ⟨rfl, rfl⟩) rfl rfl (Nat.le_of_ble_eq_true rfl) (Nat.le_of_ble_eq_true rfl) ?_
  rcases sh_ite e with ⟨c, e⟩ | ⟨c, e⟩
  · refine sh_Lk_lift (T := m.T) (I := m.I) (J := m.J) (s := m.s) (pc2 := 21) (lv2 := [(0, .ref 67)]) (st2 := [.int (m.I 66 21), .ref 70, .int 2, .ref 67]) (I2 := m.I) (J2 := m.J) (fun hT v kk => ?_) ?_
    · refine sh_j0 (c := .ge) (off := (18)) (pc2 := 11) false rfl (sh_Bgef c) rfl ?_
      refine sh_w (i := (.aload_n 0)) (len := 1) (pc2 := 12) (lv2 := [(0, .ref 67)]) (st2 := [.ref 67]) (h2 := (sh_rep m.T m.I m.J)) rfl rfl rfl ?_
      refine sh_w (i := (.iconst 2)) (len := 1) (pc2 := 13) (lv2 := [(0, .ref 67)]) (st2 := [.int 2, .ref 67]) (h2 := (sh_rep m.T m.I m.J)) rfl rfl rfl ?_
      refine sh_w (i := (.aload_n 0)) (len := 1) (pc2 := 14) (lv2 := [(0, .ref 67)]) (st2 := [.ref 67, .int 2, .ref 67]) (h2 := (sh_rep m.T m.I m.J)) rfl rfl rfl ?_
      refine sh_gR1 (len := 3) (x := .ref 70) (pc2 := 17) rfl rfl (sh_s66 hT.st) rfl rfl ?_
      refine sh_w (i := (.aload_n 0)) (len := 1) (pc2 := 18) (lv2 := [(0, .ref 67)]) (st2 := [.ref 67, .ref 70, .int 2, .ref 67]) (h2 := (sh_rep m.T m.I m.J)) rfl rfl rfl ?_
      refine sh_gI1 (len := 3) (x := m.I 66 21) (pc2 := 21) rfl rfl (sh_s66 hT.st) rfl rfl rfl ?_
      exact kk
    obtain ⟨c, e⟩ := sh_gd e
    refine sh_Lk_lift (T := m.T) (I := m.I) (J := m.J) (s := m.s) (pc2 := 22) (lv2 := [(0, .ref 67)]) (st2 := [.int (m.I 69 (Int32.toNatClampNeg (m.I 66 21))), .int 2, .ref 67]) (I2 := m.I) (J2 := m.J) (fun hT v kk => ?_) ?_
    · refine sh_ia1 (x := m.I 69 (Int32.toNatClampNeg (m.I 66 21))) (pc2 := 22) rfl (sh_s69 hT.st) (sh_okb1 c) (sh_okb2 c) rfl rfl ?_
      exact kk
    obtain ⟨r2, m12, e2, e⟩ := sh_bn_e e
    refine sh_Lk_cV (r := (some (.int (sh_b2 r2)))) (st2 := [.int (sh_b2 r2)]) (pc2 := 25) (k2 := 252) (a := 66) (as := [.ref 67, .int 2, .int (m.I 69 (Int32.toNatClampNeg (m.I 66 21)))]) (rest := []) rfl rfl rfl (fun hT => (sh_s66 hT.st)) rfl rfl ⟨Nat.le_of_ble_eq_true rfl, Nat.le_of_ble_eq_true rfl⟩ (sl_252 e2 ⟨rfl, rfl⟩) rfl rfl (Nat.le_of_ble_eq_true rfl) (Nat.le_of_ble_eq_true rfl) ?_
    obtain rfl := Option.some.inj e
    obtain ⟨rfl, rfl⟩ := tg
    exact sh_Lk_ret (i := .ireturn) rfl rfl (sh_rb rfl _) (Nat.le_of_ble_eq_true rfl) (Nat.le_of_ble_eq_true rfl)
  · refine sh_Lk_lift (T := m.T) (I := m.I) (J := m.J) (s := m.s) (pc2 := 57) (lv2 := [(0, .ref 67)]) (st2 := [.int ((m.I 66 21) + 1), .ref 69]) (I2 := sh_u2 (sh_u2 (sh_u2 m.I 66 38 (m.I 66 21)) 66 39 (-1)) 66 21 ((m.I 66 21) + 1)) (J2 := m.J) (fun hT v kk => ?_) ?_
    · refine sh_j0 (c := .ge) (off := (18)) (pc2 := 26) true rfl (sh_Bget c) rfl ?_
      refine sh_w (i := (.aload_n 0)) (len := 1) (pc2 := 27) (lv2 := [(0, .ref 67)]) (st2 := [.ref 67]) (h2 := (sh_rep m.T m.I m.J)) rfl rfl rfl ?_
      refine sh_w (i := (.aload_n 0)) (len := 1) (pc2 := 28) (lv2 := [(0, .ref 67)]) (st2 := [.ref 67, .ref 67]) (h2 := (sh_rep m.T m.I m.J)) rfl rfl rfl ?_
      refine sh_gI1 (len := 3) (x := m.I 66 21) (pc2 := 31) rfl rfl (sh_s66 hT.st) rfl rfl rfl ?_
      refine sh_pI1 (x := m.I 66 21) (pc2 := 34) rfl rfl (sh_s66 hT.st) rfl rfl rfl rfl ?_
      refine sh_w (i := (.aload_n 0)) (len := 1) (pc2 := 35) (lv2 := [(0, .ref 67)]) (st2 := [.ref 67]) (h2 := (sh_rep m.T (sh_u2 m.I 66 38 (m.I 66 21)) m.J)) rfl rfl rfl ?_
      refine sh_w (i := (.iconst (-1))) (len := 1) (pc2 := 36) (lv2 := [(0, .ref 67)]) (st2 := [.int (-1), .ref 67]) (h2 := (sh_rep m.T (sh_u2 m.I 66 38 (m.I 66 21)) m.J)) rfl rfl rfl ?_
      refine sh_pI1 (x := (-1)) (pc2 := 39) rfl rfl (sh_s66 hT.st) rfl rfl rfl rfl ?_
      refine sh_w (i := (.aload_n 0)) (len := 1) (pc2 := 40) (lv2 := [(0, .ref 67)]) (st2 := [.ref 67]) (h2 := (sh_rep m.T (sh_u2 (sh_u2 m.I 66 38 (m.I 66 21)) 66 39 (-1)) m.J)) rfl rfl rfl ?_
      refine sh_w (i := .dup) (len := 1) (pc2 := 41) (lv2 := [(0, .ref 67)]) (st2 := [.ref 67, .ref 67]) (h2 := (sh_rep m.T (sh_u2 (sh_u2 m.I 66 38 (m.I 66 21)) 66 39 (-1)) m.J)) rfl rfl rfl ?_
      refine sh_gI1 (len := 3) (x := m.I 66 21) (pc2 := 44) rfl rfl (sh_s66 hT.st) rfl rfl rfl ?_
      refine sh_w (i := (.iconst 1)) (len := 1) (pc2 := 45) (lv2 := [(0, .ref 67)]) (st2 := [.int 1, .int (m.I 66 21), .ref 67]) (h2 := (sh_rep m.T (sh_u2 (sh_u2 m.I 66 38 (m.I 66 21)) 66 39 (-1)) m.J)) rfl rfl rfl ?_
      refine sh_w (i := .iadd) (len := 1) (pc2 := 46) (lv2 := [(0, .ref 67)]) (st2 := [.int ((m.I 66 21) + 1), .ref 67]) (h2 := (sh_rep m.T (sh_u2 (sh_u2 m.I 66 38 (m.I 66 21)) 66 39 (-1)) m.J)) rfl rfl rfl ?_
      refine sh_pI1 (x := (m.I 66 21) + 1) (pc2 := 49) rfl rfl (sh_s66 hT.st) rfl rfl rfl rfl ?_
      refine sh_w (i := (.aload_n 0)) (len := 1) (pc2 := 50) (lv2 := [(0, .ref 67)]) (st2 := [.ref 67]) (h2 := (sh_rep m.T (sh_u2 (sh_u2 (sh_u2 m.I 66 38 (m.I 66 21)) 66 39 (-1)) 66 21 ((m.I 66 21) + 1)) m.J)) rfl rfl rfl ?_
      refine sh_gR1 (len := 3) (x := .ref 69) (pc2 := 53) rfl rfl (sh_s66 hT.st) rfl rfl ?_
      refine sh_w (i := (.aload_n 0)) (len := 1) (pc2 := 54) (lv2 := [(0, .ref 67)]) (st2 := [.ref 67, .ref 69]) (h2 := (sh_rep m.T (sh_u2 (sh_u2 (sh_u2 m.I 66 38 (m.I 66 21)) 66 39 (-1)) 66 21 ((m.I 66 21) + 1)) m.J)) rfl rfl rfl ?_
      refine sh_gI1 (len := 3) (x := (m.I 66 21) + 1) (pc2 := 57) rfl rfl (sh_s66 hT.st) rfl rfl rfl ?_
      exact kk
    obtain ⟨c, e⟩ := sh_gd e
    refine sh_Lk_lift (T := m.T) (I := sh_u2 (sh_u2 (sh_u2 m.I 66 38 (m.I 66 21)) 66 39 (-1)) 66 21 ((m.I 66 21) + 1)) (J := m.J) (s := m.s) (pc2 := 60) (lv2 := [(0, .ref 67)]) (st2 := [.int 91, .int (m.I 68 (Int32.toNatClampNeg ((m.I 66 21) + 1)))]) (I2 := sh_u2 (sh_u2 (sh_u2 m.I 66 38 (m.I 66 21)) 66 39 (-1)) 66 21 ((m.I 66 21) + 1)) (J2 := m.J) (fun hT v kk => ?_) ?_
    · refine sh_ia1 (x := m.I 68 (Int32.toNatClampNeg ((m.I 66 21) + 1))) (pc2 := 58) rfl (sh_s68 hT.st) (sh_okb1 c) (sh_okb2 c) rfl rfl ?_
      refine sh_w (i := (.bipush 91)) (len := 2) (pc2 := 60) (lv2 := [(0, .ref 67)]) (st2 := [.int 91, .int (m.I 68 (Int32.toNatClampNeg ((m.I 66 21) + 1)))]) (h2 := (sh_rep m.T (sh_u2 (sh_u2 (sh_u2 m.I 66 38 (m.I 66 21)) 66 39 (-1)) 66 21 ((m.I 66 21) + 1)) m.J)) rfl rfl rfl ?_
      exact kk
    rcases sh_ite e with ⟨c, e⟩ | ⟨c, e⟩
    · refine sh_Lk_lift (T := m.T) (I := sh_u2 (sh_u2 (sh_u2 m.I 66 38 (m.I 66 21)) 66 39 (-1)) 66 21 ((m.I 66 21) + 1)) (J := m.J) (s := m.s) (pc2 := 83) (lv2 := [(0, .ref 67)]) (st2 := [.int (((m.I 66 21) + 1) + 1), .ref 69]) (I2 := sh_u2 (sh_u2 (sh_u2 (sh_u2 m.I 66 38 (m.I 66 21)) 66 39 (-1)) 66 21 ((m.I 66 21) + 1)) 66 21 (((m.I 66 21) + 1) + 1)) (J2 := m.J) (fun hT v kk => ?_) ?_
      · refine sh_jc (c := .eq) (off := (5)) (pc2 := 65) true rfl (sh_Beqt c) rfl ?_
        refine sh_w (i := (.aload_n 0)) (len := 1) (pc2 := 66) (lv2 := [(0, .ref 67)]) (st2 := [.ref 67]) (h2 := (sh_rep m.T (sh_u2 (sh_u2 (sh_u2 m.I 66 38 (m.I 66 21)) 66 39 (-1)) 66 21 ((m.I 66 21) + 1)) m.J)) rfl rfl rfl ?_
        refine sh_w (i := .dup) (len := 1) (pc2 := 67) (lv2 := [(0, .ref 67)]) (st2 := [.ref 67, .ref 67]) (h2 := (sh_rep m.T (sh_u2 (sh_u2 (sh_u2 m.I 66 38 (m.I 66 21)) 66 39 (-1)) 66 21 ((m.I 66 21) + 1)) m.J)) rfl rfl rfl ?_
        refine sh_gI1 (len := 3) (x := (m.I 66 21) + 1) (pc2 := 70) rfl rfl (sh_s66 hT.st) rfl rfl rfl ?_
        refine sh_w (i := (.iconst 1)) (len := 1) (pc2 := 71) (lv2 := [(0, .ref 67)]) (st2 := [.int 1, .int ((m.I 66 21) + 1), .ref 67]) (h2 := (sh_rep m.T (sh_u2 (sh_u2 (sh_u2 m.I 66 38 (m.I 66 21)) 66 39 (-1)) 66 21 ((m.I 66 21) + 1)) m.J)) rfl rfl rfl ?_
        refine sh_w (i := .iadd) (len := 1) (pc2 := 72) (lv2 := [(0, .ref 67)]) (st2 := [.int (((m.I 66 21) + 1) + 1), .ref 67]) (h2 := (sh_rep m.T (sh_u2 (sh_u2 (sh_u2 m.I 66 38 (m.I 66 21)) 66 39 (-1)) 66 21 ((m.I 66 21) + 1)) m.J)) rfl rfl rfl ?_
        refine sh_pI1 (x := ((m.I 66 21) + 1) + 1) (pc2 := 75) rfl rfl (sh_s66 hT.st) rfl rfl rfl rfl ?_
        refine sh_w (i := (.aload_n 0)) (len := 1) (pc2 := 76) (lv2 := [(0, .ref 67)]) (st2 := [.ref 67]) (h2 := (sh_rep m.T (sh_u2 (sh_u2 (sh_u2 (sh_u2 m.I 66 38 (m.I 66 21)) 66 39 (-1)) 66 21 ((m.I 66 21) + 1)) 66 21 (((m.I 66 21) + 1) + 1)) m.J)) rfl rfl rfl ?_
        refine sh_gR1 (len := 3) (x := .ref 69) (pc2 := 79) rfl rfl (sh_s66 hT.st) rfl rfl ?_
        refine sh_w (i := (.aload_n 0)) (len := 1) (pc2 := 80) (lv2 := [(0, .ref 67)]) (st2 := [.ref 67, .ref 69]) (h2 := (sh_rep m.T (sh_u2 (sh_u2 (sh_u2 (sh_u2 m.I 66 38 (m.I 66 21)) 66 39 (-1)) 66 21 ((m.I 66 21) + 1)) 66 21 (((m.I 66 21) + 1) + 1)) m.J)) rfl rfl rfl ?_
        refine sh_gI1 (len := 3) (x := ((m.I 66 21) + 1) + 1) (pc2 := 83) rfl rfl (sh_s66 hT.st) rfl rfl rfl ?_
        exact kk
      obtain ⟨c, e⟩ := sh_gd e
      refine sh_Lk_lift (T := m.T) (I := sh_u2 (sh_u2 (sh_u2 (sh_u2 m.I 66 38 (m.I 66 21)) 66 39 (-1)) 66 21 ((m.I 66 21) + 1)) 66 21 (((m.I 66 21) + 1) + 1)) (J := m.J) (s := m.s) (pc2 := 85) (lv2 := [(0, .ref 67)]) (st2 := [.int 2, .int (m.I 68 (Int32.toNatClampNeg (((m.I 66 21) + 1) + 1)))]) (I2 := sh_u2 (sh_u2 (sh_u2 (sh_u2 m.I 66 38 (m.I 66 21)) 66 39 (-1)) 66 21 ((m.I 66 21) + 1)) 66 21 (((m.I 66 21) + 1) + 1)) (J2 := m.J) (fun hT v kk => ?_) ?_
      · refine sh_ia1 (x := m.I 68 (Int32.toNatClampNeg (((m.I 66 21) + 1) + 1))) (pc2 := 84) rfl (sh_s68 hT.st) (sh_okb1 c) (sh_okb2 c) rfl rfl ?_
        refine sh_w (i := (.iconst 2)) (len := 1) (pc2 := 85) (lv2 := [(0, .ref 67)]) (st2 := [.int 2, .int (m.I 68 (Int32.toNatClampNeg (((m.I 66 21) + 1) + 1)))]) (h2 := (sh_rep m.T (sh_u2 (sh_u2 (sh_u2 (sh_u2 m.I 66 38 (m.I 66 21)) 66 39 (-1)) 66 21 ((m.I 66 21) + 1)) 66 21 (((m.I 66 21) + 1) + 1)) m.J)) rfl rfl rfl ?_
        exact kk
      rcases sh_ite e with ⟨c, e⟩ | ⟨c, e⟩
      · refine sh_Lk_lift (T := m.T) (I := sh_u2 (sh_u2 (sh_u2 (sh_u2 m.I 66 38 (m.I 66 21)) 66 39 (-1)) 66 21 ((m.I 66 21) + 1)) 66 21 (((m.I 66 21) + 1) + 1)) (J := m.J) (s := m.s) (pc2 := 124) (lv2 := [(0, .ref 67)]) (st2 := [.int 93, .ref 67]) (I2 := sh_u2 (sh_u2 (sh_u2 (sh_u2 (sh_u2 (sh_u2 m.I 66 38 (m.I 66 21)) 66 39 (-1)) 66 21 ((m.I 66 21) + 1)) 66 21 (((m.I 66 21) + 1) + 1)) 66 39 (((m.I 66 21) + 1) + 1)) 66 21 ((((m.I 66 21) + 1) + 1) + 1)) (J2 := m.J) (fun hT v kk => ?_) ?_
        · refine sh_jc (c := .eq) (off := (18)) (pc2 := 103) true rfl (sh_Beqt c) rfl ?_
          refine sh_w (i := (.aload_n 0)) (len := 1) (pc2 := 104) (lv2 := [(0, .ref 67)]) (st2 := [.ref 67]) (h2 := (sh_rep m.T (sh_u2 (sh_u2 (sh_u2 (sh_u2 m.I 66 38 (m.I 66 21)) 66 39 (-1)) 66 21 ((m.I 66 21) + 1)) 66 21 (((m.I 66 21) + 1) + 1)) m.J)) rfl rfl rfl ?_
          refine sh_w (i := (.aload_n 0)) (len := 1) (pc2 := 105) (lv2 := [(0, .ref 67)]) (st2 := [.ref 67, .ref 67]) (h2 := (sh_rep m.T (sh_u2 (sh_u2 (sh_u2 (sh_u2 m.I 66 38 (m.I 66 21)) 66 39 (-1)) 66 21 ((m.I 66 21) + 1)) 66 21 (((m.I 66 21) + 1) + 1)) m.J)) rfl rfl rfl ?_
          refine sh_gI1 (len := 3) (x := ((m.I 66 21) + 1) + 1) (pc2 := 108) rfl rfl (sh_s66 hT.st) rfl rfl rfl ?_
          refine sh_pI1 (x := ((m.I 66 21) + 1) + 1) (pc2 := 111) rfl rfl (sh_s66 hT.st) rfl rfl rfl rfl ?_
          refine sh_w (i := (.aload_n 0)) (len := 1) (pc2 := 112) (lv2 := [(0, .ref 67)]) (st2 := [.ref 67]) (h2 := (sh_rep m.T (sh_u2 (sh_u2 (sh_u2 (sh_u2 (sh_u2 m.I 66 38 (m.I 66 21)) 66 39 (-1)) 66 21 ((m.I 66 21) + 1)) 66 21 (((m.I 66 21) + 1) + 1)) 66 39 (((m.I 66 21) + 1) + 1)) m.J)) rfl rfl rfl ?_
          refine sh_w (i := .dup) (len := 1) (pc2 := 113) (lv2 := [(0, .ref 67)]) (st2 := [.ref 67, .ref 67]) (h2 := (sh_rep m.T (sh_u2 (sh_u2 (sh_u2 (sh_u2 (sh_u2 m.I 66 38 (m.I 66 21)) 66 39 (-1)) 66 21 ((m.I 66 21) + 1)) 66 21 (((m.I 66 21) + 1) + 1)) 66 39 (((m.I 66 21) + 1) + 1)) m.J)) rfl rfl rfl ?_
          refine sh_gI1 (len := 3) (x := ((m.I 66 21) + 1) + 1) (pc2 := 116) rfl rfl (sh_s66 hT.st) rfl rfl rfl ?_
          refine sh_w (i := (.iconst 1)) (len := 1) (pc2 := 117) (lv2 := [(0, .ref 67)]) (st2 := [.int 1, .int (((m.I 66 21) + 1) + 1), .ref 67]) (h2 := (sh_rep m.T (sh_u2 (sh_u2 (sh_u2 (sh_u2 (sh_u2 m.I 66 38 (m.I 66 21)) 66 39 (-1)) 66 21 ((m.I 66 21) + 1)) 66 21 (((m.I 66 21) + 1) + 1)) 66 39 (((m.I 66 21) + 1) + 1)) m.J)) rfl rfl rfl ?_
          refine sh_w (i := .iadd) (len := 1) (pc2 := 118) (lv2 := [(0, .ref 67)]) (st2 := [.int ((((m.I 66 21) + 1) + 1) + 1), .ref 67]) (h2 := (sh_rep m.T (sh_u2 (sh_u2 (sh_u2 (sh_u2 (sh_u2 m.I 66 38 (m.I 66 21)) 66 39 (-1)) 66 21 ((m.I 66 21) + 1)) 66 21 (((m.I 66 21) + 1) + 1)) 66 39 (((m.I 66 21) + 1) + 1)) m.J)) rfl rfl rfl ?_
          refine sh_pI1 (x := (((m.I 66 21) + 1) + 1) + 1) (pc2 := 121) rfl rfl (sh_s66 hT.st) rfl rfl rfl rfl ?_
          refine sh_w (i := (.aload_n 0)) (len := 1) (pc2 := 122) (lv2 := [(0, .ref 67)]) (st2 := [.ref 67]) (h2 := (sh_rep m.T (sh_u2 (sh_u2 (sh_u2 (sh_u2 (sh_u2 (sh_u2 m.I 66 38 (m.I 66 21)) 66 39 (-1)) 66 21 ((m.I 66 21) + 1)) 66 21 (((m.I 66 21) + 1) + 1)) 66 39 (((m.I 66 21) + 1) + 1)) 66 21 ((((m.I 66 21) + 1) + 1) + 1)) m.J)) rfl rfl rfl ?_
          refine sh_w (i := (.bipush 93)) (len := 2) (pc2 := 124) (lv2 := [(0, .ref 67)]) (st2 := [.int 93, .ref 67]) (h2 := (sh_rep m.T (sh_u2 (sh_u2 (sh_u2 (sh_u2 (sh_u2 (sh_u2 m.I 66 38 (m.I 66 21)) 66 39 (-1)) 66 21 ((m.I 66 21) + 1)) 66 21 (((m.I 66 21) + 1) + 1)) 66 39 (((m.I 66 21) + 1) + 1)) 66 21 ((((m.I 66 21) + 1) + 1) + 1)) m.J)) rfl rfl rfl ?_
          exact kk
        obtain ⟨r3, m13, e3, e⟩ := sh_bn_e e
        refine sh_Lk_cV (r := (some (.int (sh_b2 r3)))) (st2 := [.int (sh_b2 r3)]) (pc2 := 127) (k2 := 262) (a := 66) (as := [.ref 67, .int 93]) (rest := []) rfl rfl rfl (fun hT => (sh_s66 hT.st)) rfl rfl ⟨Nat.le_of_ble_eq_true rfl, Nat.le_of_ble_eq_true rfl⟩ (sl_262 e3 ⟨rfl, rfl⟩) rfl rfl (Nat.le_of_ble_eq_true rfl) (Nat.le_of_ble_eq_true rfl) ?_
        obtain rfl := Option.some.inj e
        obtain ⟨rfl, rfl⟩ := tg
        exact sh_Lk_ret (i := .ireturn) rfl rfl (sh_rb rfl _) (Nat.le_of_ble_eq_true rfl) (Nat.le_of_ble_eq_true rfl)
      · refine sh_Lk_lift (T := m.T) (I := sh_u2 (sh_u2 (sh_u2 (sh_u2 m.I 66 38 (m.I 66 21)) 66 39 (-1)) 66 21 ((m.I 66 21) + 1)) 66 21 (((m.I 66 21) + 1) + 1)) (J := m.J) (s := m.s) (pc2 := 98) (lv2 := [(0, .ref 67)]) (st2 := [.int (((m.I 66 21) + 1) + 1), .ref 70, .int 2, .ref 67]) (I2 := sh_u2 (sh_u2 (sh_u2 (sh_u2 m.I 66 38 (m.I 66 21)) 66 39 (-1)) 66 21 ((m.I 66 21) + 1)) 66 21 (((m.I 66 21) + 1) + 1)) (J2 := m.J) (fun hT v kk => ?_) ?_
        · refine sh_jc (c := .eq) (off := (18)) (pc2 := 88) false rfl (sh_Beqf c) rfl ?_
          refine sh_w (i := (.aload_n 0)) (len := 1) (pc2 := 89) (lv2 := [(0, .ref 67)]) (st2 := [.ref 67]) (h2 := (sh_rep m.T (sh_u2 (sh_u2 (sh_u2 (sh_u2 m.I 66 38 (m.I 66 21)) 66 39 (-1)) 66 21 ((m.I 66 21) + 1)) 66 21 (((m.I 66 21) + 1) + 1)) m.J)) rfl rfl rfl ?_
          refine sh_w (i := (.iconst 2)) (len := 1) (pc2 := 90) (lv2 := [(0, .ref 67)]) (st2 := [.int 2, .ref 67]) (h2 := (sh_rep m.T (sh_u2 (sh_u2 (sh_u2 (sh_u2 m.I 66 38 (m.I 66 21)) 66 39 (-1)) 66 21 ((m.I 66 21) + 1)) 66 21 (((m.I 66 21) + 1) + 1)) m.J)) rfl rfl rfl ?_
          refine sh_w (i := (.aload_n 0)) (len := 1) (pc2 := 91) (lv2 := [(0, .ref 67)]) (st2 := [.ref 67, .int 2, .ref 67]) (h2 := (sh_rep m.T (sh_u2 (sh_u2 (sh_u2 (sh_u2 m.I 66 38 (m.I 66 21)) 66 39 (-1)) 66 21 ((m.I 66 21) + 1)) 66 21 (((m.I 66 21) + 1) + 1)) m.J)) rfl rfl rfl ?_
          refine sh_gR1 (len := 3) (x := .ref 70) (pc2 := 94) rfl rfl (sh_s66 hT.st) rfl rfl ?_
          refine sh_w (i := (.aload_n 0)) (len := 1) (pc2 := 95) (lv2 := [(0, .ref 67)]) (st2 := [.ref 67, .ref 70, .int 2, .ref 67]) (h2 := (sh_rep m.T (sh_u2 (sh_u2 (sh_u2 (sh_u2 m.I 66 38 (m.I 66 21)) 66 39 (-1)) 66 21 ((m.I 66 21) + 1)) 66 21 (((m.I 66 21) + 1) + 1)) m.J)) rfl rfl rfl ?_
          refine sh_gI1 (len := 3) (x := ((m.I 66 21) + 1) + 1) (pc2 := 98) rfl rfl (sh_s66 hT.st) rfl rfl rfl ?_
          exact kk
        obtain ⟨c, e⟩ := sh_gd e
        refine sh_Lk_lift (T := m.T) (I := sh_u2 (sh_u2 (sh_u2 (sh_u2 m.I 66 38 (m.I 66 21)) 66 39 (-1)) 66 21 ((m.I 66 21) + 1)) 66 21 (((m.I 66 21) + 1) + 1)) (J := m.J) (s := m.s) (pc2 := 99) (lv2 := [(0, .ref 67)]) (st2 := [.int (m.I 69 (Int32.toNatClampNeg (((m.I 66 21) + 1) + 1))), .int 2, .ref 67]) (I2 := sh_u2 (sh_u2 (sh_u2 (sh_u2 m.I 66 38 (m.I 66 21)) 66 39 (-1)) 66 21 ((m.I 66 21) + 1)) 66 21 (((m.I 66 21) + 1) + 1)) (J2 := m.J) (fun hT v kk => ?_) ?_
        · refine sh_ia1 (x := m.I 69 (Int32.toNatClampNeg (((m.I 66 21) + 1) + 1))) (pc2 := 99) rfl (sh_s69 hT.st) (sh_okb1 c) (sh_okb2 c) rfl rfl ?_
          exact kk
        obtain ⟨r4, m14, e4, e⟩ := sh_bn_e e
        refine sh_Lk_cV (r := (some (.int (sh_b2 r4)))) (st2 := [.int (sh_b2 r4)]) (pc2 := 102) (k2 := 252) (a := 66) (as := [.ref 67, .int 2, .int (m.I 69 (Int32.toNatClampNeg (((m.I 66 21) + 1) + 1)))]) (rest := []) rfl rfl rfl (fun hT => (sh_s66 hT.st)) rfl rfl ⟨Nat.le_of_ble_eq_true rfl, Nat.le_of_ble_eq_true rfl⟩ (sl_252 e4 ⟨rfl, rfl⟩) rfl rfl (Nat.le_of_ble_eq_true rfl) (Nat.le_of_ble_eq_true rfl) ?_
        obtain rfl := Option.some.inj e
        obtain ⟨rfl, rfl⟩ := tg
        exact sh_Lk_ret (i := .ireturn) rfl rfl (sh_rb rfl _) (Nat.le_of_ble_eq_true rfl) (Nat.le_of_ble_eq_true rfl)
    · refine sh_Lk_lift (T := m.T) (I := sh_u2 (sh_u2 (sh_u2 m.I 66 38 (m.I 66 21)) 66 39 (-1)) 66 21 ((m.I 66 21) + 1)) (J := m.J) (s := m.s) (pc2 := 64) (lv2 := [(0, .ref 67)]) (st2 := [.int 1]) (I2 := sh_u2 (sh_u2 (sh_u2 m.I 66 38 (m.I 66 21)) 66 39 (-1)) 66 21 ((m.I 66 21) + 1)) (J2 := m.J) (fun hT v kk => ?_) ?_
      · refine sh_jc (c := .eq) (off := (5)) (pc2 := 63) false rfl (sh_Beqf c) rfl ?_
        refine sh_w (i := (.iconst 1)) (len := 1) (pc2 := 64) (lv2 := [(0, .ref 67)]) (st2 := [.int 1]) (h2 := (sh_rep m.T (sh_u2 (sh_u2 (sh_u2 m.I 66 38 (m.I 66 21)) 66 39 (-1)) 66 21 ((m.I 66 21) + 1)) m.J)) rfl rfl rfl ?_
        exact kk
      obtain rfl := Option.some.inj e
      obtain ⟨rfl, rfl⟩ := tg
      exact sh_Lk_ret (i := .ireturn) rfl rfl rfl (Nat.le_of_ble_eq_true rfl) (Nat.le_of_ble_eq_true rfl)
